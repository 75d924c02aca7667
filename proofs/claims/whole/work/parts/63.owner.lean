/-! ===== ofOwner on the model's side ===== -/
section
variable {S S' S0 S1 : sT} {a y q k n m : Nat} {E : eT} {X : Nat → Nat → Nat} {N N' : yT} {Z Z' : zT} {x1 x2 : Int32}
theorem w_isF {x : Int32} {Q : Int32 → sT → Prop} (hC : RS X (fF E) S) (h : Q (isw x 0 (nI E.2.1 - 1)) S) : w_X8_isField (X 0 0) x S Q := by
  obtain ⟨c1, c2⟩ := hC.2.2.2.2.2.2.2 trivial
  obtain ⟨-, -, ⟨d1, -, d2, -⟩, ⟨-, -, d3, d4⟩, -⟩ := id hC
  unfold w_X8_isField w_X8_isField_b0
  refine ⟨c1, X 1 0, c2, d1, X 3 0, d2, d3, fun u eu v ev => ?_⟩
  rw [w_is8, ev, eu, d4]
  exact ⟨isw01, h⟩
/-- the beginning of a call of the model: its code to 0 -/
theorem RC_80 (hC : RC X (fF E) S N) {v : Int32} (e : S1 = s_sI S 288 (X 0 0) v) : RC X (fF E) S1 (s_up2 N 80 0 v) ∧ FRM (DX X (fF E)) no_ S S1 ∧ (AL S → AL S1) := by
  refine ⟨wI_80 hC trivial e rfl, ?_, ?_⟩
  · rw [e]; exact FRM.refl.sI (Or.inr (Or.inr rfl))
  · rw [e]; exact fun h => h
/-- a call that the model refuses -/
theorem ra_ref {v : Int32} {Q : Int32 → sT → Prop} (hC : RC X (fF E) S N) (h1 : S1 = s_sI S 288 (X 0 0) 0) (hQ : ∀ S3, FRM (DX X (fF E)) no_ S S3 → (AL S → AL S3) → RC X (fF E) S3 (s_up2 (s_up2 N 80 0 0) 80 0 v) → Q 0 S3) : w_X8_refuse (X 0 0) v S1 Q := by
  obtain ⟨r1, f1, a1⟩ := RC_80 hC h1
  refine w_ref (rK_Mod r1 trivial) (fun S2 e2 => ?_)
  obtain ⟨r2, f2, a2⟩ := RC_80 r1 e2
  exact hQ S2 (f1.trans f2 (fun _ _ z => z) (fun _ _ z => z)) (fun h => a2 (a1 h)) r2
theorem val4 {x : Int32} (h : 0 ≤ x.toInt ∧ x.toInt ≤ 3) : x = 0 ∨ x = 1 ∨ x = 2 ∨ x = 3 := by
  have h13 : 0 ≤ x.toInt ∧ x.toInt ≤ 13 := ⟨h.1, by omega⟩
  rcases val14 h13 with e | e | e | e | e | e | e | e | e | e | e | e | e | e <;> subst e <;> first | exact Or.inl rfl | exact Or.inr (Or.inl rfl) | exact Or.inr (Or.inr (Or.inl rfl)) | exact Or.inr (Or.inr (Or.inr rfl)) | exact absurd h.2 (by decide)
theorem ra_ownerNow {Q : Int32 → sT → Prop} (hC : RC X (fF E) S N) (hv : vp_in x1 E.2.1) (hx : 0 ≤ x2.toInt ∧ x2.toInt ≤ 3) (hQ : ∀ S', FRM (DX X (fF E)) no_ S S' → (AL S → AL S') → RC X (fF E) S' N → Q (ownC N (Int32.toNatClampNeg x1) x2) S') : wA_X8_ofOwnerNow 1 4 (X 0 0) x1 x2 S Q := by
  have hk := vp_lt hv
  unfold wA_X8_ofOwnerNow wA_X8_ofOwnerNow_b0
  refine ⟨rK_Mod hC trivial, X 1 0, rF_289 hC trivial, rK_Wld hC, X 3 0, rF_257 hC, rK_FArr hC, by rw [rN_FArr hC]; exact hv, X 5 _, rP_FArr hC hk, by decide, by decide, fun q hq S1 e1 => ?_⟩
  have qn := q_no hC.1 hq.1
  have R1 : RC X (fF E) S1 N := by rw [e1]; exact RC_nw hC hq
  have M1 : MP X (fF E) S q 4 (fun _ => 0) S1 := by rw [e1]; exact MP_nw hq
  clear e1
  refine ⟨rK_FR R1 hk, by rw [rN_FR R1 hk]; unfold vp_in; decide, fun y1 f1 => ⟨by rw [M1.2.2.2.1]; unfold vp_in; decide, fun S2 e2 => ?_⟩⟩
  rw [show Int32.toNatClampNeg (17 : Int32) = 17 by decide, rB_FR R1 hk rfl (by decide)] at f1
  rw [show Int32.toNatClampNeg (0 : Int32) = 0 by decide] at e2
  have R2 : RC X (fF E) S2 N := by rw [e2]; exact RC_q R1 qn
  have M2 := MP_set (v := y1) M1 hq.1 0
  rw [← e2] at M2
  clear e2
  refine ⟨by rw [rN_FR R2 hk]; unfold vp_in; decide, fun y2 f2 => ⟨by rw [M2.2.2.2.1]; unfold vp_in; decide, fun S3 e3 => ?_⟩⟩
  rw [show Int32.toNatClampNeg (18 : Int32) = 18 by decide, rB_FR R2 hk rfl (by decide)] at f2
  rw [show Int32.toNatClampNeg (1 : Int32) = 1 by decide] at e3
  have R3 : RC X (fF E) S3 N := by rw [e3]; exact RC_q R2 qn
  have M3 := MP_set (v := y2) M2 hq.1 1
  rw [← e3] at M3
  clear e3
  refine ⟨by rw [rN_FR R3 hk]; unfold vp_in; decide, fun y3 f3 => ⟨by rw [M3.2.2.2.1]; unfold vp_in; decide, fun S4 e4 => ?_⟩⟩
  rw [show Int32.toNatClampNeg (19 : Int32) = 19 by decide, rB_FR R3 hk rfl (by decide)] at f3
  rw [show Int32.toNatClampNeg (2 : Int32) = 2 by decide] at e4
  have R4 : RC X (fF E) S4 N := by rw [e4]; exact RC_q R3 qn
  have M4 := MP_set (v := y3) M3 hq.1 2
  rw [← e4] at M4
  clear e4
  refine ⟨by rw [rN_FR R4 hk]; unfold vp_in; decide, fun y4 f4 => ?_⟩
  rw [show Int32.toNatClampNeg (17 : Int32) = 17 by decide, rB_FR R4 hk rfl (by decide)] at f4
  have fin : ∀ y5 : Int32, y5 = (if 0 ≤ N 17 (Int32.toNatClampNeg x1) then 0 else 1) → wA_X8_ofOwnerNow_b48 1 4 (0 + 1) (0 + 4) x2 y5 3 q q S4 Q := by
    intro y5 f5
    unfold wA_X8_ofOwnerNow_b48
    refine ⟨M4.2.2.1, by rw [M4.2.2.2.1]; unfold vp_in; decide, fun S5 e5 => ?_⟩
    rw [show Int32.toNatClampNeg (3 : Int32) = 3 by decide] at e5
    have R5 : RC X (fF E) S5 N := by rw [e5]; exact RC_q R4 qn
    have M5 := MP_set (v := y5) M4 hq.1 3
    rw [← e5] at M5
    clear e5
    have vx : vp_in x2 4 := by rcases val4 hx with e | e | e | e <;> subst e <;> (unfold vp_in; decide)
    refine ⟨M5.2.2.1, by rw [M5.2.2.2.1]; exact vx, fun y6 f6 => ?_⟩
    rw [M5.2.2.2.2 _ (vp_lt vx)] at f6
    have e6 : y6 = ownC N (Int32.toNatClampNeg x1) x2 := by
      rw [f6, f5, f3, f2, f1]
      rcases val4 hx with e | e | e | e <;> subst e <;> rfl
    rw [e6]
    exact hQ S5 M5.1 M5.2.1 R5
  exact ⟨fun z => fin 0 (by rw [f4] at z; rw [if_pos z]), fun z => fin 1 (by rw [f4] at z; rw [if_neg z])⟩
theorem m_ofOwner {x0 : Nat} (e0 : x0 = X 0 0) (h : LI E n Z N) : RESA x0 E n X Z N (v_X6_ofOwner E x1 x2 Z) (vT_X6_ofOwner E x1 x2 Z) (wA_X8_ofOwner 1 4 x0 x1 x2) [xI, xA] := by
  subst e0
  have hW := LJ_EW h
  have h12 := hW.2.1
  have n1 : ¬ (1 : Int32) = 0 := by decide
  have hs := isw_n (x1 := x1) h12
  by_cases hv : vp_in x1 E.2.1
  · have g1 := hs.1 hv
    by_cases c : isw x2 0 3 = 0
    · refine Or.inr ⟨1, xA, 0, s_up2 (s_up2 N 80 0 0) 80 0 2, rfl, fun Q hq => t_ofOwner h12 hv c hq, fun S2 hC Q hQ => ?_, rfl, LJ_80 (LJ_80 h)⟩
      unfold wA_X8_ofOwner wA_X8_ofOwner_b0
      refine ⟨rK_Mod hC trivial, fun S3 e3 => ?_⟩
      obtain ⟨r3, f3, a3⟩ := RC_80 hC e3
      refine w_isF r3.1 ?_
      rw [g1]
      refine ⟨fun _ => ?_, fun z => absurd z n1⟩
      rw [w_is8, c]
      exact ⟨fun _ => ⟨rK_Mod r3 trivial, ra_ref hC e3 (fun S4 f4 a4 r4 => hQ S4 f4 a4 r4)⟩, fun z => absurd rfl z⟩
    · have hx := isw_b c
      have hx : 0 ≤ x2.toInt ∧ x2.toInt ≤ 3 := hx
      refine Or.inl ⟨ownC (Z 0) (Int32.toNatClampNeg x1) x2, Z, s_up2 N 80 0 0, fun Q hq => by rw [c_ofOwner h12 hv hx]; exact hq, fun S2 hC Q hQ => ?_, rfl, LJ_80 h⟩
      unfold wA_X8_ofOwner wA_X8_ofOwner_b0
      refine ⟨rK_Mod hC trivial, fun S3 e3 => ?_⟩
      obtain ⟨r3, f3, a3⟩ := RC_80 hC e3
      refine w_isF r3.1 ?_
      rw [g1]
      refine ⟨fun _ => ?_, fun z => absurd z n1⟩
      rw [w_is8]
      refine ⟨fun z => absurd z c, fun _ => ⟨rK_Mod r3 trivial, 1, 4, by decide, by decide, ra_ownerNow r3 hv hx (fun S4 f4 a4 r4 => ?_)⟩⟩
      unfold wA_X8_ofOwner_b42
      have e9 : ownC (s_up2 N 80 0 0) (Int32.toNatClampNeg x1) x2 = ownC (Z 0) (Int32.toNatClampNeg x1) x2 := by
        unfold ownC
        simp only [up_rd, Nat.reduceEqDiff, false_and, if_false]
        rw [LI_ch h (c := 17) (by unfold Ch; decide), LI_ch h (c := 18) (by unfold Ch; decide), LI_ch h (c := 19) (by unfold Ch; decide)]
      rw [e9]
      exact hQ S4 (f3.trans f4 (fun _ _ z => z) (fun _ _ z => z)) (fun h => a4 (a3 h)) r4
  · have g1 := hs.2 hv
    refine Or.inr ⟨0, xI, 0, s_up2 (s_up2 N 80 0 0) 80 0 1, rfl, fun Q hq => Or.inr (by rw [t_fieldAt h12 hv]; exact hq), fun S2 hC Q hQ => ?_, rfl, LJ_80 (LJ_80 h)⟩
    unfold wA_X8_ofOwner wA_X8_ofOwner_b0
    refine ⟨rK_Mod hC trivial, fun S3 e3 => ?_⟩
    obtain ⟨r3, f3, a3⟩ := RC_80 hC e3
    refine w_isF r3.1 ?_
    rw [g1]
    exact ⟨fun z => absurd rfl z, fun _ => ⟨rK_Mod r3 trivial, ra_ref hC e3 (fun S4 f4 a4 r4 => hQ S4 f4 a4 r4)⟩⟩
end
