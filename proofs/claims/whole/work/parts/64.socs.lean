/-! ===== ofSociety on the model's side ===== -/
section
variable {S S' S0 S1 : sT} {a y q k n m i : Nat} {E : eT} {X : Nat → Nat → Nat} {N N' : yT} {Z Z' : zT} {x1 x2 : Int32}
/-- the model's answer about a society -/
def socR (F : fT) (N : yT) (i : Nat) (x : Int32) : Int32 := if x = 0 then N 34 i else if x = 1 then N 35 i else if x = 2 then N 36 i else if x = 3 then N 37 i else if x = 4 then (if opR N i = 0 then 0 else 1) else if x = 5 then N 40 i else if x = 6 then szR F N (nI i) else if x = 7 then N 41 i else nxR N i F.2.1 (-1) (-1)
theorem val9 {x : Int32} (h : 0 ≤ x.toInt ∧ x.toInt ≤ 8) : x = 0 ∨ x = 1 ∨ x = 2 ∨ x = 3 ∨ x = 4 ∨ x = 5 ∨ x = 6 ∨ x = 7 ∨ x = 8 := by
  have h13 : 0 ≤ x.toInt ∧ x.toInt ≤ 13 := ⟨h.1, by omega⟩
  rcases val14 h13 with e | e | e | e | e | e | e | e | e | e | e | e | e | e <;> subst e <;> first | decide | exact absurd h.2 (by decide)
/-- a step that reads a society's row into the answers -/
theorem ra_societyNow {Q : Int32 → sT → Prop} (hC : RC X (fF E) S N) (hv : vp_in x1 E.1) (h3 : E.1 ≤ 3) (h12 : E.2.1 ≤ 12) (hx : 0 ≤ x2.toInt ∧ x2.toInt ≤ 8) (hQ : ∀ S', FRM (DX X (fF E)) no_ S S' → (AL S → AL S') → RC X (fF E) S' N → Q (socR (fF E) N (Int32.toNatClampNeg x1) x2) S') : wA_X8_ofSocietyNow 1 9 (X 0 0) x1 x2 S Q := by
  have hi := vp_lt hv
  have ex1 := vp_nI hv
  unfold wA_X8_ofSocietyNow wA_X8_ofSocietyNow_b0
  refine ⟨rK_Mod hC trivial, X 1 0, rF_289 hC trivial, rK_Wld hC, X 2 0, rF_256 hC, rK_SArr hC, by rw [rN_SArr hC]; exact hv, X 4 _, rP_SArr hC hi, by decide, by decide, fun q hq S1 e1 => ?_⟩
  have qn := q_no hC.1 hq.1
  have st : ∀ f, rSt X (fF E) (MP X (fF E) S q 9 f) := fun f => MP_st hC.1 hq.1
  have R1 : RC X (fF E) S1 N := by rw [e1]; exact RC_nw hC hq
  have M1 : MP X (fF E) S q 9 (fun _ => 0) S1 := by rw [e1]; exact MP_nw hq
  clear e1
  have t : Int32.toNatClampNeg (0 : Int32) = 0 ∧ Int32.toNatClampNeg (1 : Int32) = 1 ∧ Int32.toNatClampNeg (2 : Int32) = 2 ∧ Int32.toNatClampNeg (3 : Int32) = 3 ∧ Int32.toNatClampNeg (4 : Int32) = 4 ∧ Int32.toNatClampNeg (5 : Int32) = 5 ∧ Int32.toNatClampNeg (6 : Int32) = 6 ∧ Int32.toNatClampNeg (7 : Int32) = 7 ∧ Int32.toNatClampNeg (8 : Int32) = 8 ∧ Int32.toNatClampNeg (9 : Int32) = 9 := by decide
  obtain ⟨t0, t1, t2, t3, t4, t5, t6, t7, t8, t9⟩ := t
  refine ⟨rK_SR R1 hi, by rw [rN_SR R1 hi]; unfold vp_in; decide, fun y1 f1 => ⟨by rw [M1.2.2.2.1]; unfold vp_in; decide, fun S2 e2 => ?_⟩⟩
  rw [t2, rB_SR R1 hi rfl (by decide)] at f1
  rw [t0] at e2
  have R2 : RC X (fF E) S2 N := by rw [e2]; exact RC_q R1 qn
  have M2 := MP_set (v := y1) M1 hq.1 0
  rw [← e2] at M2
  clear e2
  refine ⟨by rw [rN_SR R2 hi]; unfold vp_in; decide, fun y2 f2 => ⟨by rw [M2.2.2.2.1]; unfold vp_in; decide, fun S3 e3 => ?_⟩⟩
  rw [t3, rB_SR R2 hi rfl (by decide)] at f2
  rw [t1] at e3
  have R3 : RC X (fF E) S3 N := by rw [e3]; exact RC_q R2 qn
  have M3 := MP_set (v := y2) M2 hq.1 1
  rw [← e3] at M3
  clear e3
  refine ⟨by rw [rN_SR R3 hi]; unfold vp_in; decide, fun y3 f3 => ⟨by rw [M3.2.2.2.1]; unfold vp_in; decide, fun S4 e4 => ?_⟩⟩
  rw [t4, rB_SR R3 hi rfl (by decide)] at f3
  rw [t2] at e4
  have R4 : RC X (fF E) S4 N := by rw [e4]; exact RC_q R3 qn
  have M4 := MP_set (v := y3) M3 hq.1 2
  rw [← e4] at M4
  clear e4
  refine ⟨by rw [rN_SR R4 hi]; unfold vp_in; decide, fun y4 f4 => ⟨by rw [M4.2.2.2.1]; unfold vp_in; decide, fun S5 e5 => ?_⟩⟩
  rw [t5, rB_SR R4 hi rfl (by decide)] at f4
  rw [t3] at e5
  have R5 : RC X (fF E) S5 N := by rw [e5]; exact RC_q R4 qn
  have M5 := MP_set (v := y4) M4 hq.1 3
  rw [← e5] at M5
  clear e5
  refine ⟨rK_Mod R5 trivial, X 1 0, rF_289 R5 trivial, rK_Wld R5, ?_⟩
  rw [ex1]
  refine u_X7_isOpen (st _) (Q' := fun x z => x = opR N (Int32.toNatClampNeg x1) ∧ z = N) (fun y5 S6 z R6 M6 e6 => ?_) R5 M5 (by rw [r_open h3 hi]; exact ⟨rfl, rfl⟩)
  obtain ⟨f5, rfl⟩ := e6
  rw [← ex1]
  have fin : ∀ y6 : Int32, y6 = (if opR z (Int32.toNatClampNeg x1) = 0 then 0 else 1) → wA_X8_ofSocietyNow_b56 1 9 (0 + 1) (0 + 9) (X 0 0) x1 x2 (X 4 (Int32.toNatClampNeg x1)) y6 4 q q S6 Q := by
    intro y6 f6
    unfold wA_X8_ofSocietyNow_b56
    refine ⟨M6.2.2.1, by rw [M6.2.2.2.1]; unfold vp_in; decide, fun S7 e7 => ?_⟩
    rw [t4] at e7
    have R7 : RC X (fF E) S7 z := by rw [e7]; exact RC_q R6 qn
    have M7 := MP_set (v := y6) M6 hq.1 4
    rw [← e7] at M7
    clear e7
    refine ⟨rK_SR R7 hi, by rw [rN_SR R7 hi]; unfold vp_in; decide, fun y7 f7 => ⟨M7.2.2.1, by rw [M7.2.2.2.1]; unfold vp_in; decide, fun S8 e8 => ?_⟩⟩
    rw [t8, rB_SR R7 hi rfl (by decide)] at f7
    rw [t5] at e8
    have R8 : RC X (fF E) S8 z := by rw [e8]; exact RC_q R7 qn
    have M8 := MP_set (v := y7) M7 hq.1 5
    rw [← e8] at M8
    clear e8
    refine ⟨rK_Mod R8 trivial, u_X8_size (st _) trivial (Q' := fun x w => x = szR (fF E) z x1 ∧ w = z) (fun y8 S9 w R9 M9 e9 => ?_) R8 M8 (r_size h12 ⟨rfl, rfl⟩)⟩
    obtain ⟨f8, rfl⟩ := e9
    refine ⟨M9.2.2.1, by rw [M9.2.2.2.1]; unfold vp_in; decide, fun S10 e10 => ?_⟩
    rw [t6] at e10
    have R10 : RC X (fF E) S10 w := by rw [e10]; exact RC_q R9 qn
    have M10 := MP_set (v := y8) M9 hq.1 6
    rw [← e10] at M10
    clear e10
    refine ⟨rK_SR R10 hi, by rw [rN_SR R10 hi]; unfold vp_in; decide, fun y9 f9 => ⟨by rw [M10.2.2.2.1]; unfold vp_in; decide, fun S11 e11 => ?_⟩⟩
    rw [t9, rB_SR R10 hi rfl (by decide)] at f9
    rw [t7] at e11
    have R11 : RC X (fF E) S11 w := by rw [e11]; exact RC_q R10 qn
    have M11 := MP_set (v := y9) M10 hq.1 7
    rw [← e11] at M11
    clear e11
    refine ⟨rK_Mod R11 trivial, X 1 0, rF_289 R11 trivial, rK_Wld R11, ?_⟩
    rw [ex1]
    refine u_X7_next (st _) (Q' := fun x v => x = nxR w (Int32.toNatClampNeg x1) E.2.1 (-1) (-1) ∧ v = w) (fun y10 S12 v R12 M12 e12 => ?_) R11 M11 (s_nxR h12 h3 hi ⟨rfl, rfl⟩)
    obtain ⟨f10, rfl⟩ := e12
    refine ⟨M12.2.2.1, by rw [M12.2.2.2.1]; unfold vp_in; decide, fun S13 e13 => ?_⟩
    rw [t8] at e13
    have R13 : RC X (fF E) S13 v := by rw [e13]; exact RC_q R12 qn
    have M13 := MP_set (v := y10) M12 hq.1 8
    rw [← e13] at M13
    clear e13
    have vx : vp_in x2 9 := by rcases val9 hx with e | e | e | e | e | e | e | e | e <;> subst e <;> (unfold vp_in; decide)
    refine ⟨by rw [M13.2.2.2.1]; exact vx, fun y11 f11 => ?_⟩
    rw [M13.2.2.2.2 _ (vp_lt vx)] at f11
    have e6 : y11 = socR (fF E) v (Int32.toNatClampNeg x1) x2 := by
      rw [f11, f10, f9, f8, f7, f6, f4, f3, f2, f1, ex1]
      rw [← ex1]
      rcases val9 hx with e | e | e | e | e | e | e | e | e <;> subst e <;> first | rfl | (unfold socR; rw [← ex1]; rfl)
    rw [e6]
    exact hQ S13 M13.1 M13.2.1 R13
  exact ⟨fun w => fin 0 (by rw [f5] at w; rw [if_pos w]), fun w => fin 1 (by rw [f5] at w; rw [if_neg w])⟩
end
