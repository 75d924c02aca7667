/-! ===== a new field, the model's side ===== -/
section
variable {S S' S1 : sT} {a y q k n i : Nat} {E : eT} {F : fT} {X X' : Nat → Nat → Nat} {N N' M M' : yT}
theorem w_isS {x : Int32} {Q : Int32 → sT → Prop} (hC : RS X (fF E) S) (h3 : E.1 ≤ 3) (h : Q (isw x 0 (nI E.1 - 1)) S) : w_X8_isSociety (X 0 0) x S Q := by
  obtain ⟨c1, c2⟩ := hC.2.2.2.2.2.2.2 trivial
  obtain ⟨-, -, ⟨d1, d2, -⟩, ⟨d3, d4, -⟩, -⟩ := id hC
  unfold w_X8_isSociety w_X8_isSociety_b0
  refine ⟨c1, X 1 0, c2, d1, X 2 0, d2, d3, fun u eu v ev => ?_⟩
  rw [w_is8, ev, eu, d4]
  refine ⟨?_, h⟩
  unfold isw
  by_cases z1 : x < 0
  · rw [if_pos z1]; exact Or.inl rfl
  · rw [if_neg z1]
    by_cases z2 : nI (fF E).1 - 1 < x
    · rw [if_pos z2]; exact Or.inl rfl
    · rw [if_neg z2]; exact Or.inr rfl
/-- the model's numbers with one more field -/
def nF_ (N : yT) (n1 n2 : Nat) (x1 x2 x3 : Int32) : yT := s_up2 (s_up2 (s_up2 (s_up2 (s_up2 (s_up2 (fun c k => if c = 80 then 0 else wE N n1 n2 c k) 0 n2 x1) 13 n2 x2) 14 n2 x3) 9 n2 20) 17 n2 20) 21 n2 120
theorem r8_field {Q : Int32 → sT → Prop} {x1 x2 x3 : Int32} {mc ms : Nat} (hC : RC X (fF E) S N) (hn : E.2.1 < 12) (g1 : isw x1 0 (nI E.1 - 1) = 1) (g2 : isw x2 1 9 = 1) (g3 : isw x3 5 60 = 1) (hmc : 6 + E.1 + (E.2.1 + 1) ≤ mc) (hms : 40 + 11 * E.1 + 23 * (E.2.1 + 1) ≤ ms)
    (hQ : ∀ S' X', FRM (fun y => y = X 0 0) no_ S S' → (AL S → AL S') → RC X' (fF (gE E i)) S' (nF_ N E.1 E.2.1 x1 x2 x3) → X' 0 0 = X 0 0 → Q (nI E.2.1) S') : wA_X8_field mc ms (X 0 0) x1 x2 x3 S Q := by
  have kM := rK_Mod hC trivial
  have rM := rF_289 hC trivial
  have h3 : E.1 ≤ 3 := hC.1.1.1
  unfold wA_X8_field wA_X8_field_b0
  refine ⟨kM, fun S1 e1 => ?_⟩
  have hR1 : RS X (fF E) S1 := by rw [e1]; exact hC.1
  have hV1 : RV X (fF E) (s_B S1) N := by rw [e1]; exact hC.2.1
  have i1 : s_I S1 288 (X 0 0) = 0 := by rw [e1]; exact sI_s
  have F1 : FRM (fun y => y = X 0 0) no_ S S1 := by rw [e1]; exact FRM.refl.sI (Or.inr rfl)
  have A1 : AL S → AL S1 := fun h => by rw [e1]; exact h
  have kM1 : s_K S1 (X 0 0) = 10 := by rw [e1]; exact kM
  clear e1
  refine w_isS hR1 h3 ?_
  rw [g1]
  refine ⟨fun _ => ?_, fun c => absurd c (by decide)⟩
  rw [w_is8, g2]
  refine ⟨fun c => absurd c (by decide), fun _ => ?_⟩
  rw [w_is8, g3]
  obtain ⟨c1, c2⟩ := hR1.2.2.2.2.2.2.2 trivial
  obtain ⟨-, -, ⟨d1, d2, d5, -⟩, ⟨d3, d4, d6, d7⟩, -⟩ := id hR1
  refine ⟨fun _ => ⟨c1, X 1 0, c2, d1, X 3 0, d5, d6, fun y ey => ⟨fun _ => ⟨X 1 0, c2, d1, 6 + E.1 + (E.2.1 + 1), 40 + 11 * E.1 + 23 * (E.2.1 + 1), by omega, by omega, ?_⟩, fun c => absurd (ey.symm.trans c) ?_⟩⟩, fun c => absurd c (by decide)⟩
  rotate_left
  · rw [d7]
    intro z
    have : (nI E.2.1).toInt = (12 : Int32).toInt := by rw [z]
    rw [nI_toInt (by omega)] at this
    have : (E.2.1 : Int) = 12 := this
    omega
  refine wi_with (F := fF E) (d1 := 0) (d2 := 1) hR1 hV1 rfl rfl (by show E.1 + 0 ≤ 3; omega) (by show E.2.1 + 1 ≤ 12; omega) (by show 6 + (E.1 + 0) + (E.2.1 + 1) ≤ _; omega) (by show 40 + 11 * (E.1 + 0) + 23 * (E.2.1 + 1) ≤ _; omega) (fun S2 X' F2 A2 hz hR2 hV2 => ?_)
  have mm := F2.ob kM1 (by decide) (fun z => z)
  refine ⟨mm.1, fun S3 e3 => ?_⟩
  have F3 : FRM (fun y => y = X 0 0) no_ S S3 := by
    rw [e3]
    exact ((F1.trans F2 (fun _ _ z => False.elim z) (fun _ _ z => z))).sR (Or.inr (Or.inl rfl)) (by decide) (by decide)
  have A3 : AL S2 → AL S3 := fun h => by rw [e3]; exact AL_sR h (by decide) (by decide) (by decide)
  have hC3 : RC (mX (X 0 0) X') (E.1, E.2.1 + 1, True) S3 (fun c k => if c = 80 then 0 else wE N E.1 E.2.1 c k) := RC_new (v := 0) mm.1 ((mm.2.1 288).trans i1) hR2 hV2 e3
  clear e3
  have u0 : mX (X 0 0) X' 0 0 = X 0 0 := mX_0
  have q1 := rF_289 hC3 trivial
  rw [u0] at q1
  have q2 := rK_Wld hC3
  have q3 := rF_257 hC3
  have q4 := rK_FArr hC3
  have q5 := rN_FArr hC3
  have hi : E.2.1 < E.2.1 + 1 := Nat.lt_succ_self _
  have q6 := rP_FArr hC3 hi
  have q7 := rK_FR hC3 hi
  have q8 := rN_FR hC3 hi
  have kz : s_K S (mX (X 0 0) X' 5 E.2.1) = 0 := by
    rw [mX_o (by decide)]
    exact F1.fz (hz 5 E.2.1 (Or.inl (Or.inr (Or.inl ⟨rfl, hi⟩))))
  refine ⟨_, q1, q2, _, q3, _, q1, q2, _, q3, q4, fun y2 ey2 y3 ey3 => ?_⟩
  have ey4 : y3 = nI E.2.1 := by
    rw [ey3, ey2, q5]; exact nI_pred _
  subst ey4
  have t0 : Int32.toNatClampNeg (0 : Int32) = 0 := by decide
  have t13 : Int32.toNatClampNeg (13 : Int32) = 13 := by decide
  have t14 : Int32.toNatClampNeg (14 : Int32) = 14 := by decide
  have t9 : Int32.toNatClampNeg (9 : Int32) = 9 := by decide
  have t17 : Int32.toNatClampNeg (17 : Int32) = 17 := by decide
  have t21 : Int32.toNatClampNeg (21 : Int32) = 21 := by decide
  refine ⟨q4, by rw [q5]; exact ls_vp (by omega) hi, _, by rw [nI_cl (by omega)]; exact q6, q7, by rw [q8]; unfold vp_in; decide, fun S4 e4 => ⟨?_, fun S5 e5 => ⟨?_, fun S6 e6 => ⟨?_, fun S7 e7 => ⟨?_, fun S8 e8 => ⟨?_, fun S9 e9 => ?_⟩⟩⟩⟩⟩⟩
  · rw [e4]; show vp_in 13 (s_N S3 _); rw [q8]; unfold vp_in; decide
  · rw [e5, e4]; show vp_in 14 (s_N S3 _); rw [q8]; unfold vp_in; decide
  · rw [e6, e5, e4]; show vp_in 9 (s_N S3 _); rw [q8]; unfold vp_in; decide
  · rw [e7, e6, e5, e4]; show vp_in 17 (s_N S3 _); rw [q8]; unfold vp_in; decide
  · rw [e8, e7, e6, e5, e4]; show vp_in 21 (s_N S3 _); rw [q8]; unfold vp_in; decide
  rw [t0] at e4
  rw [t13] at e5
  rw [t14] at e6
  rw [t9] at e7
  rw [t17] at e8
  rw [t21] at e9
  have h4 := wB_FR (j := 0) hC3 hi rfl (by decide) e4 rfl
  have h5 := wB_FR (j := 13) h4 hi rfl (by decide) e5 rfl
  have h6 := wB_FR (j := 14) h5 hi rfl (by decide) e6 rfl
  have h7 := wB_FR (j := 9) h6 hi rfl (by decide) e7 rfl
  have h8 := wB_FR (j := 17) h7 hi rfl (by decide) e8 rfl
  have h9 := wB_FR (j := 21) h8 hi rfl (by decide) e9 rfl
  have p1 := rF_289 h9 trivial
  rw [u0] at p1
  refine ⟨_, p1, rK_Wld h9, _, rF_257 h9, rK_FArr h9, fun y5 ey5 y6 ey6 => ?_⟩
  have ey7 : y6 = nI E.2.1 := by
    rw [ey6, ey5, rN_FArr h9]; exact nI_pred _
  subst ey7
  have F9 : FRM (fun y => y = X 0 0) no_ S S9 := by
    rw [e9, e8, e7, e6, e5, e4]
    exact (((((F3.sB (Or.inl kz)).sB (Or.inl kz)).sB (Or.inl kz)).sB (Or.inl kz)).sB (Or.inl kz)).sB (Or.inl kz)
  refine hQ S9 _ F9 (fun h => ?_) h9 u0
  have := A3 (A2 (A1 h))
  rw [e9, e8, e7, e6, e5, e4]
  exact this
end
