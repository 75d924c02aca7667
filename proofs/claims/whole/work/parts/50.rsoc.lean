/-! ===== a new society, the model's side ===== -/
section
variable {S S' S1 : sT} {a y q k n : Nat} {E : eT} {F : fT} {X X' : Nat → Nat → Nat} {N N' M M' : yT}
theorem RV_congr (h : RV X F (s_B S) M) (hc : ∀ c k, c < 75 → M' c k = M c k) : RV X F (s_B S) M' := RV_mk (fun f k j ho hj => by
  rw [RV_get h ho hj]
  refine (hc _ _ ?_).symm
  unfold r_c
  rcases ho with ⟨rfl, hk⟩ | ⟨rfl, hk⟩ | ⟨l1, l2, rfl⟩
  · have : j < 10 := hj
    show 32 + j < 75
    omega
  · have : j < 22 := hj
    show j < 75
    omega
  · rcases (show f = 6 ∨ f = 7 ∨ f = 8 by omega) with rfl | rfl | rfl
    · have : j < 11 := hj
      show 64 + j < 75
      omega
    · show 22 < 75
      decide
    · show 23 < 75
      decide)
/-- the model's addresses with a new world -/
def mX (X0 : Nat) (X' : Nat → Nat → Nat) : Nat → Nat → Nat := fun f k => if f = 0 then X0 else X' f k
theorem mX_o {X0 f : Nat} (h : f ≠ 0) : mX X0 X' f = X' f := funext fun _ => if_neg h
theorem mX_0 {X0 k : Nat} : mX X0 X' 0 k = X0 := if_pos rfl
/-- the new world in its place -/
theorem RC_new {X0 v : Nat} {n1 n2 : Nat} (hk : s_K S X0 = 10) (hi : s_I S 288 X0 = 0) (hR : RS X' (n1, n2, False) S) (hV : RV X' (n1, n2, False) (s_B S) M) (eS : S1 = s_sR S 289 X0 (some (X' 1 0))) : RC (mX X0 X') (n1, n2, True) S1 (fun c k => if c = 80 then 0 else M c k) := by
  subst eS
  obtain ⟨h1, h2, ⟨a1, a2, a3, a4, a5, a6⟩, hb, hc, hd, he, -⟩ := hR
  have fr : ∀ f k, r_ok (n1, n2, True) f k → f ≠ 0 := fun f k h => by rcases h with ⟨rfl, _⟩ | ⟨rfl, _⟩ | ⟨_, _, _⟩ <;> omega
  refine ⟨⟨h1, fun f k g j hf hg e => ?_, ?_, ?_, ?_, ?_, ?_, fun _ => ?_⟩, ?_, fun _ => ?_⟩
  · rw [mX_o (fr f k hf), mX_o (fr g j hg)] at e
    exact h2 f k g j hf hg e
  · rw [mX_o (by decide), mX_o (by decide), mX_o (by decide), mX_o (by decide), mX_o (by decide), mX_o (by decide)]
    exact ⟨a1, (sR_o (fun z => absurd z.1 (by decide))).trans a2, (sR_o (fun z => absurd z.1 (by decide))).trans a3, (sR_o (fun z => absurd z.1 (by decide))).trans a4, (sR_o (fun z => absurd z.1 (by decide))).trans a5, (sR_o (fun z => absurd z.1 (by decide))).trans a6⟩
  · rw [mX_o (by decide), mX_o (by decide)]; exact hb
  · rw [mX_o (by decide), mX_o (by decide)]; exact hc
  · rw [mX_o (by decide), mX_o (by decide)]; exact hd
  · rw [mX_o (by decide), mX_o (by decide), mX_o (by decide)]; exact he
  · rw [mX_0, mX_o (by decide)]; exact ⟨hk, sR_s⟩
  · have h : RV X' (n1, n2, True) (s_B S) (fun c k => if c = 80 then 0 else M c k) := RV_congr (S := S) (M := M) hV (fun c k hc => if_neg (by omega))
    obtain ⟨q1, q2, q3, q4, q5⟩ := h
    unfold RV
    rw [mX_o (by decide), mX_o (by decide), mX_o (by decide), mX_o (by decide), mX_o (by decide)]
    exact ⟨q1, q2, q3, q4, q5⟩
  · rw [mX_0]; exact hi
/-- the model's numbers with one more society -/
def nS_ (N : yT) (n1 n2 : Nat) (x1 x2 x3 x4 : Int32) : yT := s_up2 (s_up2 (s_up2 (s_up2 (s_up2 (fun c k => if c = 80 then 0 else wE N n1 n2 c k) 32 n1 x1) 33 n1 x2) 34 n1 x3) 35 n1 x4) 39 n1 (-1)
theorem r8_society {Q : Int32 → sT → Prop} {x1 x2 x3 x4 : Int32} {mc ms : Nat} (hC : RC X (fF E) S N) (hn : E.1 < 3) (g1 : isw x1 1 9 = 1) (g2 : isw x2 0 50 = 1) (g3 : isw x3 0 209 = 1) (g4 : isw x4 1 210 = 1) (hmc : 6 + (E.1 + 1) + E.2.1 ≤ mc) (hms : 40 + 11 * (E.1 + 1) + 23 * E.2.1 ≤ ms)
    (hQ : ∀ S' X', FRM (fun y => y = X 0 0) no_ S S' → (AL S → AL S') → RC X' (fF (E.1 + 1, E.2.1, E.2.2)) S' (nS_ N E.1 E.2.1 x1 x2 x3 x4) → X' 0 0 = X 0 0 → Q (nI E.1) S') : wA_X8_society mc ms (X 0 0) x1 x2 x3 x4 S Q := by
  have kM := rK_Mod hC trivial
  have rM := rF_289 hC trivial
  have kW := rK_Wld hC
  have r256 := rF_256 hC
  have kA := rK_SArr hC
  have nA := rN_SArr hC
  have h12 : E.2.1 ≤ 12 := hC.1.1.2
  unfold wA_X8_society wA_X8_society_b0
  refine ⟨kM, fun S1 e1 => ?_⟩
  have hR1 : RS X (fF E) S1 := by rw [e1]; exact hC.1
  have hV1 : RV X (fF E) (s_B S1) N := by rw [e1]; exact hC.2.1
  have i1 : s_I S1 288 (X 0 0) = 0 := by rw [e1]; exact sI_s
  have F1 : FRM (fun y => y = X 0 0) no_ S S1 := by rw [e1]; exact FRM.refl.sI (Or.inr rfl)
  have A1 : AL S → AL S1 := fun h => by rw [e1]; exact h
  have kM1 : s_K S1 (X 0 0) = 10 := by rw [e1]; exact kM
  clear e1
  rw [w_is8, g1]
  refine ⟨fun c => absurd c (by decide), fun _ => ?_⟩
  rw [w_is8, g2]
  refine ⟨fun c => absurd c (by decide), fun _ => ?_⟩
  rw [w_is8, g3]
  refine ⟨fun c => absurd c (by decide), fun _ => ?_⟩
  rw [w_is8, g4]
  obtain ⟨c1, c2⟩ := hR1.2.2.2.2.2.2.2 trivial
  obtain ⟨-, -, ⟨d1, d2, -⟩, ⟨d3, d4, -⟩, -⟩ := id hR1
  refine ⟨fun _ => ⟨c1, X 1 0, c2, d1, X 2 0, d2, d3, fun y ey => ⟨fun _ => ⟨X 1 0, c2, d1, 6 + (E.1 + 1) + E.2.1, 40 + 11 * (E.1 + 1) + 23 * E.2.1, by omega, by omega, ?_⟩, fun c => absurd (ey.symm.trans c) ?_⟩⟩, fun c => absurd c (by decide)⟩
  rotate_left
  · rw [d4]
    intro z
    have : (nI E.1).toInt = (3 : Int32).toInt := by rw [z]
    rw [nI_toInt (by omega)] at this
    have : (E.1 : Int) = 3 := this
    omega
  refine wi_with (F := fF E) (d1 := 1) (d2 := 0) hR1 hV1 rfl rfl (by show E.1 + 1 ≤ 3; omega) (by show E.2.1 + 0 ≤ 12; omega) (by show 6 + (E.1 + 1) + (E.2.1 + 0) ≤ _; omega) (by show 40 + 11 * (E.1 + 1) + 23 * (E.2.1 + 0) ≤ _; omega) (fun S2 X' F2 A2 hz hR2 hV2 => ?_)
  have mm := F2.ob kM1 (by decide) (fun z => z)
  refine ⟨mm.1, fun S3 e3 => ?_⟩
  have F3 : FRM (fun y => y = X 0 0) no_ S S3 := by
    rw [e3]
    exact ((F1.trans F2 (fun _ _ z => False.elim z) (fun _ _ z => z))).sR (Or.inr (Or.inl rfl)) (by decide) (by decide)
  have A3 : AL S2 → AL S3 := fun h => by rw [e3]; exact AL_sR h (by decide) (by decide) (by decide)
  have hC3 : RC (mX (X 0 0) X') (E.1 + 1, E.2.1, True) S3 (fun c k => if c = 80 then 0 else wE N E.1 E.2.1 c k) := RC_new (v := 0) mm.1 ((mm.2.1 288).trans i1) hR2 hV2 e3
  clear e3
  have u0 : mX (X 0 0) X' 0 0 = X 0 0 := mX_0
  have q1 := rF_289 hC3 trivial
  rw [u0] at q1
  have q2 := rK_Wld hC3
  have q3 := rF_256 hC3
  have q4 := rK_SArr hC3
  have q5 := rN_SArr hC3
  have hi : E.1 < E.1 + 1 := Nat.lt_succ_self _
  have q6 := rP_SArr hC3 hi
  have q7 := rK_SR hC3 hi
  have q8 := rN_SR hC3 hi
  have kz : s_K S (mX (X 0 0) X' 4 E.1) = 0 := by
    rw [mX_o (by decide)]
    exact F1.fz (hz 4 E.1 (Or.inl (Or.inl ⟨rfl, hi⟩)))
  refine ⟨_, q1, q2, _, q3, _, q1, q2, _, q3, q4, fun y2 ey2 y3 ey3 => ?_⟩
  have ey4 : y3 = nI E.1 := by
    rw [ey3, ey2, q5]; exact nI_pred _
  subst ey4
  have t0 : Int32.toNatClampNeg (0 : Int32) = 0 := by decide
  have t1 : Int32.toNatClampNeg (1 : Int32) = 1 := by decide
  have t2 : Int32.toNatClampNeg (2 : Int32) = 2 := by decide
  have t3 : Int32.toNatClampNeg (3 : Int32) = 3 := by decide
  have t7 : Int32.toNatClampNeg (7 : Int32) = 7 := by decide
  refine ⟨q4, by rw [q5]; exact ls_vp (by omega) hi, _, by rw [nI_cl (by omega)]; exact q6, q7, by rw [q8]; exact vp_lit0_10, fun S4 e4 => ⟨?_, fun S5 e5 => ⟨?_, fun S6 e6 => ⟨?_, fun S7 e7 => ⟨?_, fun S8 e8 => ?_⟩⟩⟩⟩⟩
  · rw [e4]; show vp_in 1 (s_N S3 _); rw [q8]; exact vp_lit1_10
  · rw [e5, e4]; show vp_in 2 (s_N S3 _); rw [q8]; exact vp_lit2_10
  · rw [e6, e5, e4]; show vp_in 3 (s_N S3 _); rw [q8]; exact vp_lit3_10
  · rw [e7, e6, e5, e4]; show vp_in 7 (s_N S3 _); rw [q8]; exact vp_lit7_10
  rw [t0] at e4
  rw [t1] at e5
  rw [t2] at e6
  rw [t3] at e7
  rw [t7] at e8
  have h4 := wB_SR (j := 0) hC3 hi rfl (by decide) e4 rfl
  have h5 := wB_SR (j := 1) h4 hi rfl (by decide) e5 rfl
  have h6 := wB_SR (j := 2) h5 hi rfl (by decide) e6 rfl
  have h7 := wB_SR (j := 3) h6 hi rfl (by decide) e7 rfl
  have h8 := wB_SR (j := 7) h7 hi rfl (by decide) e8 rfl
  have p1 := rF_289 h8 trivial
  rw [u0] at p1
  refine ⟨_, p1, rK_Wld h8, _, rF_256 h8, rK_SArr h8, fun y5 ey5 y6 ey6 => ?_⟩
  have ey7 : y6 = nI E.1 := by
    rw [ey6, ey5, rN_SArr h8]; exact nI_pred _
  subst ey7
  have F8 : FRM (fun y => y = X 0 0) no_ S S8 := by
    rw [e8, e7, e6, e5, e4]
    exact ((((F3.sB (Or.inl kz)).sB (Or.inl kz)).sB (Or.inl kz)).sB (Or.inl kz)).sB (Or.inl kz)
  refine hQ S8 _ F8 (fun h => ?_) h8 u0
  have := A3 (A2 (A1 h))
  rw [e8, e7, e6, e5, e4]
  exact this
end
