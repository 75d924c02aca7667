/-! ===== water on the model's side ===== -/
section
variable {S S' S0 S1 : sT} {a y q k n m i : Nat} {E : eT} {X : Nat → Nat → Nat} {N N' : yT} {Z Z' : zT} {x1 x2 : Int32}
def sF1 (E : eT) (N : yT) (k : Nat) : Int32 := itd (fun k s => s + N 1 k) 0 k 0
def sS37 (E : eT) (N : yT) (k : Nat) : Int32 := itd (fun i s => s + N 37 i) 0 k 0
def watR (E : eT) (N : yT) (x : Int32) : Int32 := if x = 0 then N 69 0 else if x = 1 then sF1 E N E.2.1 else if x = 2 then N 68 0 else if x = 3 then sS37 E N E.1 else if x = 4 then N 70 0 else if x = 5 then N 71 0 else N 72 0
theorem val7 {x : Int32} (h : 0 ≤ x.toInt ∧ x.toInt ≤ 6) : x = 0 ∨ x = 1 ∨ x = 2 ∨ x = 3 ∨ x = 4 ∨ x = 5 ∨ x = 6 := by
  have h13 : 0 ≤ x.toInt ∧ x.toInt ≤ 13 := ⟨h.1, by omega⟩
  rcases val14 h13 with e | e | e | e | e | e | e | e | e | e | e | e | e | e <;> subst e <;> first | decide | exact absurd h.2 (by decide)
theorem wa62 {Q : Int32 → sT → Prop} (hC : RC X (fF E) S N) (h3 : E.1 ≤ 3) (hx : 0 ≤ x1.toInt ∧ x1.toInt ≤ 6) (hQ : ∀ S', FRM (DX X (fF E)) no_ S S' → (AL S → AL S') → RC X (fF E) S' N → Q (watR E N x1) S') : ∀ (d i : Nat), i + d = E.1 → wA_X8_waterNow_b62 1 7 Q (d + 1) 0 0 (X 0 0) x1 (sF1 E N E.2.1) (sS37 E N i) (X 2 0) (nI E.1) (nI i) S := by
  intro d
  induction d with
  | zero =>
    intro i hi
    have hiE : i = E.1 := by omega
    unfold wA_X8_waterNow_b62
    refine ⟨fun _ => ⟨by decide, by decide, fun q hq S1 e1 => ?_⟩, fun c => absurd (by rw [hiE]; exact Int32.le_refl _) c⟩
    have qn := q_no hC.1 hq.1
    have R1 : RC X (fF E) S1 N := by rw [e1]; exact RC_nw hC hq
    have M1 : MP X (fF E) S q 7 (fun _ => 0) S1 := by rw [e1]; exact MP_nw hq
    clear e1
    have t : Int32.toNatClampNeg (0 : Int32) = 0 ∧ Int32.toNatClampNeg (1 : Int32) = 1 ∧ Int32.toNatClampNeg (2 : Int32) = 2 ∧ Int32.toNatClampNeg (3 : Int32) = 3 ∧ Int32.toNatClampNeg (4 : Int32) = 4 ∧ Int32.toNatClampNeg (5 : Int32) = 5 ∧ Int32.toNatClampNeg (6 : Int32) = 6 ∧ Int32.toNatClampNeg (7 : Int32) = 7 ∧ Int32.toNatClampNeg (8 : Int32) = 8 := by decide
    obtain ⟨t0, t1, t2, t3, t4, t5, t6, t7, t8⟩ := t
    refine ⟨rK_Mod R1 trivial, X 1 0, rF_289 R1 trivial, rK_Wld R1, X 6 0, rF_258 R1, rK_All R1, by rw [rN_All R1]; unfold vp_in; decide, fun y1 f1 => ⟨by rw [M1.2.2.2.1]; unfold vp_in; decide, fun S2 e2 => ?_⟩⟩
    rw [t5, rB_All R1 rfl (by decide)] at f1
    rw [t0] at e2
    have R2 : RC X (fF E) S2 N := by rw [e2]; exact RC_q R1 qn
    have M2 := MP_set (v := y1) M1 hq.1 0
    rw [← e2] at M2
    clear e2
    refine ⟨by rw [M2.2.2.2.1]; unfold vp_in; decide, fun S3 e3 => ?_⟩
    rw [t1] at e3
    have R3 : RC X (fF E) S3 N := by rw [e3]; exact RC_q R2 qn
    have M3 := MP_set (v := sF1 E N E.2.1) M2 hq.1 1
    rw [← e3] at M3
    clear e3
    refine ⟨X 1 0, rF_289 R3 trivial, rK_Wld R3, X 6 0, rF_258 R3, rK_All R3, by rw [rN_All R3]; unfold vp_in; decide, fun y3 f3 => ⟨by rw [M3.2.2.2.1]; unfold vp_in; decide, fun S4 e4 => ?_⟩⟩
    rw [t4, rB_All R3 rfl (by decide)] at f3
    rw [t2] at e4
    have R4 : RC X (fF E) S4 N := by rw [e4]; exact RC_q R3 qn
    have M4 := MP_set (v := y3) M3 hq.1 2
    rw [← e4] at M4
    clear e4
    refine ⟨by rw [M4.2.2.2.1]; unfold vp_in; decide, fun S5 e5 => ?_⟩
    rw [t3] at e5
    have R5 : RC X (fF E) S5 N := by rw [e5]; exact RC_q R4 qn
    have M5 := MP_set (v := sS37 E N i) M4 hq.1 3
    rw [← e5] at M5
    clear e5
    refine ⟨X 1 0, rF_289 R5 trivial, rK_Wld R5, X 6 0, rF_258 R5, rK_All R5, by rw [rN_All R5]; unfold vp_in; decide, fun y5 f5 => ⟨by rw [M5.2.2.2.1]; unfold vp_in; decide, fun S6 e6 => ?_⟩⟩
    rw [t6, rB_All R5 rfl (by decide)] at f5
    rw [t4] at e6
    have R6 : RC X (fF E) S6 N := by rw [e6]; exact RC_q R5 qn
    have M6 := MP_set (v := y5) M5 hq.1 4
    rw [← e6] at M6
    clear e6
    refine ⟨X 1 0, rF_289 R6 trivial, rK_Wld R6, X 6 0, rF_258 R6, rK_All R6, by rw [rN_All R6]; unfold vp_in; decide, fun y6 f6 => ⟨by rw [M6.2.2.2.1]; unfold vp_in; decide, fun S7 e7 => ?_⟩⟩
    rw [t7, rB_All R6 rfl (by decide)] at f6
    rw [t5] at e7
    have R7 : RC X (fF E) S7 N := by rw [e7]; exact RC_q R6 qn
    have M7 := MP_set (v := y6) M6 hq.1 5
    rw [← e7] at M7
    clear e7
    refine ⟨X 1 0, rF_289 R7 trivial, rK_Wld R7, X 6 0, rF_258 R7, rK_All R7, by rw [rN_All R7]; unfold vp_in; decide, fun y7 f7 => ⟨by rw [M7.2.2.2.1]; unfold vp_in; decide, fun S8 e8 => ?_⟩⟩
    rw [t8, rB_All R7 rfl (by decide)] at f7
    rw [t6] at e8
    have R8 : RC X (fF E) S8 N := by rw [e8]; exact RC_q R7 qn
    have M8 := MP_set (v := y7) M7 hq.1 6
    rw [← e8] at M8
    clear e8
    have vx : vp_in x1 7 := by rcases val7 hx with e | e | e | e | e | e | e <;> subst e <;> (unfold vp_in; decide)
    refine ⟨by rw [M8.2.2.2.1]; exact vx, fun y8 f8 => ?_⟩
    rw [M8.2.2.2.2 _ (vp_lt vx)] at f8
    have e9 : y8 = watR E N x1 := by
      rw [f8, f7, f6, f5, f3, f1, hiE]
      rcases val7 hx with e | e | e | e | e | e | e <;> subst e <;> rfl
    rw [e9]
    exact hQ S8 M8.1 M8.2.1 R8
  | succ d ih =>
    intro i hi
    have hiE : i < E.1 := by omega
    unfold wA_X8_waterNow_b62
    refine ⟨fun c => ?_, fun _ => ⟨rK_SArr hC, by rw [rN_SArr hC]; exact ls_vp (by omega) hiE, X 4 i, by rw [nI_cl (by omega)]; exact rP_SArr hC hiE, rK_SR hC hiE, by rw [rN_SR hC hiE]; unfold vp_in; decide, fun y1 f1 y2 f2 y3 f3 => ?_⟩⟩
    · rw [Int32.le_iff_toInt_le, nI_toInt (by omega), nI_toInt (by omega)] at c
      omega
    · rw [show Int32.toNatClampNeg (5 : Int32) = 5 by decide, rB_SR hC hiE rfl (by decide)] at f1
      have e2 : y2 = sS37 E N (i + 1) := by
        rw [f2, f1]
        unfold sS37
        rw [itd_last, Nat.zero_add]
      have e3 : y3 = nI (i + 1) := by rw [f3, nI_succ]
      rw [e2, e3]
      exact ih (i + 1) (by omega)
theorem wa17 {Q : Int32 → sT → Prop} (hC : RC X (fF E) S N) (h3 : E.1 ≤ 3) (h12 : E.2.1 ≤ 12) (hx : 0 ≤ x1.toInt ∧ x1.toInt ≤ 6) (hQ : ∀ S', FRM (DX X (fF E)) no_ S S' → (AL S → AL S') → RC X (fF E) S' N → Q (watR E N x1) S') : ∀ (d k : Nat), k + d = E.2.1 → wA_X8_waterNow_b17 1 7 Q (d + 1) 0 0 (X 0 0) x1 (sF1 E N k) (X 3 0) (nI E.2.1) (nI k) S := by
  intro d
  induction d with
  | zero =>
    intro k hk
    have hkE : k = E.2.1 := by omega
    unfold wA_X8_waterNow_b17
    refine ⟨fun _ => ⟨rK_Mod hC trivial, X 1 0, rF_289 hC trivial, rK_Wld hC, X 2 0, rF_256 hC, rK_SArr hC, fun y1 f1 => ⟨E.1 + 1, ?_⟩⟩, fun c => absurd (by rw [hkE]; exact Int32.le_refl _) c⟩
    rw [f1, rN_SArr hC, hkE]
    exact wa62 hC h3 hx hQ E.1 0 (by omega)
  | succ d ih =>
    intro k hk
    have hkE : k < E.2.1 := by omega
    unfold wA_X8_waterNow_b17
    refine ⟨fun c => ?_, fun _ => ⟨rK_FArr hC, by rw [rN_FArr hC]; exact ls_vp (by omega) hkE, X 5 k, by rw [nI_cl (by omega)]; exact rP_FArr hC hkE, rK_FR hC hkE, by rw [rN_FR hC hkE]; unfold vp_in; decide, fun y1 f1 y2 f2 y3 f3 => ?_⟩⟩
    · rw [Int32.le_iff_toInt_le, nI_toInt (by omega), nI_toInt (by omega)] at c
      omega
    · rw [show Int32.toNatClampNeg (1 : Int32) = 1 by decide, rB_FR hC hkE rfl (by decide)] at f1
      have e2 : y2 = sF1 E N (k + 1) := by
        rw [f2, f1]
        unfold sF1
        rw [itd_last, Nat.zero_add]
      have e3 : y3 = nI (k + 1) := by rw [f3, nI_succ]
      rw [e2, e3]
      exact ih (k + 1) (by omega)
theorem ra_waterNow {Q : Int32 → sT → Prop} (hC : RC X (fF E) S N) (h3 : E.1 ≤ 3) (h12 : E.2.1 ≤ 12) (hx : 0 ≤ x1.toInt ∧ x1.toInt ≤ 6) (hQ : ∀ S', FRM (DX X (fF E)) no_ S S' → (AL S → AL S') → RC X (fF E) S' N → Q (watR E N x1) S') : wA_X8_waterNow 1 7 (X 0 0) x1 S Q := by
  unfold wA_X8_waterNow wA_X8_waterNow_b0
  refine ⟨rK_Mod hC trivial, X 1 0, rF_289 hC trivial, rK_Wld hC, X 3 0, rF_257 hC, rK_FArr hC, fun y1 f1 => ⟨E.2.1 + 1, ?_⟩⟩
  rw [f1, rN_FArr hC]
  exact wa17 hC h3 h12 hx hQ E.2.1 0 (by omega)
end
