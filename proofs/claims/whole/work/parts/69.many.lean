/-! ===== many on the model's side ===== -/
section
variable {S S' S0 S1 : sT} {a y q k n m i : Nat} {E : eT} {X : Nat → Nat → Nat} {N N' : yT} {Z Z' : zT} {x1 x2 : Int32}
/-- the sum of a fields' column -/
def sC (N : yT) (c d : Nat) : Int32 := itd (fun k s => s + N c k) 0 d 0
def sX (N : yT) (d : Nat) : Int32 := itd (fun k s => s + (if 0 ≤ N 17 k then 0 else 1)) 0 d 0
def sS36 (N : yT) (d : Nat) : Int32 := itd (fun i s => s + N 36 i) 0 d 0
def manR (E : eT) (N : yT) (x : Int32) : Int32 := if x = 0 then nI E.1 else if x = 1 then nI E.2.1 else if x = 2 then N 64 0 else if x = 3 then N 64 0 - N 64 0 / 210 * 210 else if x = 4 then (if N 64 0 - N 64 0 / 30 * 30 = 0 then 1 else 0) else if x = 5 then sC N 8 E.2.1 else if x = 6 then sC N 17 E.2.1 else if x = 7 then sS36 N E.1 else if x = 8 then sX N E.2.1 else if x = 9 then N 73 0 else if x = 10 then N 74 0 else sC N 15 E.2.1
theorem val12 {x : Int32} (h : 0 ≤ x.toInt ∧ x.toInt ≤ 11) : x = 0 ∨ x = 1 ∨ x = 2 ∨ x = 3 ∨ x = 4 ∨ x = 5 ∨ x = 6 ∨ x = 7 ∨ x = 8 ∨ x = 9 ∨ x = 10 ∨ x = 11 := by
  have h13 : 0 ≤ x.toInt ∧ x.toInt ≤ 13 := ⟨h.1, by omega⟩
  rcases val14 h13 with e | e | e | e | e | e | e | e | e | e | e | e | e | e <;> subst e <;> first | decide | exact absurd h.2 (by decide)
theorem w327 {Q : Int32 → sT → Prop} {mc ms kc ks c : Nat} (hC : RC X (fF E) S N) (h12 : E.2.1 ≤ 12) (hk : s_K S q = 11) (hn : s_N S q = 12) (hx : vp_in x1 12) (hc : c < 22) (hv : s_B S q (Int32.toNatClampNeg x1) = nI c) (hQ : Q (sC N c E.2.1) S) : ∀ (d k : Nat), k + d = E.2.1 → wA_X8_manyNow_b327 mc ms Q (d + 1) kc ks x1 q (sC N c k) (X 3 0) (nI E.2.1) (nI k) S := by
  intro d
  induction d with
  | zero =>
    intro k hk'
    have hkE : k = E.2.1 := by omega
    unfold wA_X8_manyNow_b327
    exact ⟨fun _ => by rw [hkE]; exact hQ, fun c => absurd (by rw [hkE]; exact Int32.le_refl _) c⟩
  | succ d ih =>
    intro k hk'
    have hkE : k < E.2.1 := by omega
    unfold wA_X8_manyNow_b327
    refine ⟨fun c => ?_, fun _ => ⟨rK_FArr hC, by rw [rN_FArr hC]; exact ls_vp (by omega) hkE, X 5 k, by rw [nI_cl (by omega)]; exact rP_FArr hC hkE, hk, by rw [hn]; exact hx, fun y1 f1 => ?_⟩⟩
    · rw [Int32.le_iff_toInt_le, nI_toInt (by omega), nI_toInt (by omega)] at c
      omega
    · rw [hv] at f1
      subst f1
      refine ⟨rK_FR hC hkE, by rw [rN_FR hC hkE]; exact ls_vp (by omega) hc, fun y2 f2 y3 f3 y4 f4 => ?_⟩
      rw [rB_FR hC hkE (nI_cl (by omega)) hc] at f2
      have e3 : y3 = sC N c (k + 1) := by
        rw [f3, f2]
        unfold sC
        rw [itd_last, Nat.zero_add]
      have e4 : y4 = nI (k + 1) := by rw [f4, nI_succ]
      rw [e3, e4]
      exact ih (k + 1) (by omega)
theorem w310 {Q : Int32 → sT → Prop} {mc ms kc ks c : Nat} (hC : RC X (fF E) S N) (h12 : E.2.1 ≤ 12) (hk : s_K S q = 11) (hn : s_N S q = 12) (hx : vp_in x1 12) (hc : c < 22) (hv : s_B S q (Int32.toNatClampNeg x1) = nI c) (hQ : Q (sC N c E.2.1) S) : wA_X8_manyNow_b310 mc ms kc ks (X 0 0) x1 q 0 S Q := by
  unfold wA_X8_manyNow_b310
  refine ⟨rK_Mod hC trivial, X 1 0, rF_289 hC trivial, rK_Wld hC, X 3 0, rF_257 hC, rK_FArr hC, fun y1 f1 => ⟨E.2.1 + 1, ?_⟩⟩
  rw [f1, rN_FArr hC]
  exact w327 hC h12 hk hn hx hc hv hQ E.2.1 0 (by omega)
theorem w204 {Q : Int32 → sT → Prop} {mc ms kc ks : Nat} (hC : RC X (fF E) S N) (h3 : E.1 ≤ 3) (hQ : Q (sS36 N E.1) S) : ∀ (d i : Nat), i + d = E.1 → wA_X8_manyNow_b204 mc ms Q (d + 1) kc ks (sS36 N i) (X 2 0) (nI E.1) (nI i) S := by
  intro d
  induction d with
  | zero =>
    intro i hi
    have hiE : i = E.1 := by omega
    unfold wA_X8_manyNow_b204
    exact ⟨fun _ => by rw [hiE]; exact hQ, fun c => absurd (by rw [hiE]; exact Int32.le_refl _) c⟩
  | succ d ih =>
    intro i hi
    have hiE : i < E.1 := by omega
    unfold wA_X8_manyNow_b204
    refine ⟨fun c => ?_, fun _ => ⟨rK_SArr hC, by rw [rN_SArr hC]; exact ls_vp (by omega) hiE, X 4 i, by rw [nI_cl (by omega)]; exact rP_SArr hC hiE, rK_SR hC hiE, by rw [rN_SR hC hiE]; unfold vp_in; decide, fun y1 f1 y2 f2 y3 f3 => ?_⟩⟩
    · rw [Int32.le_iff_toInt_le, nI_toInt (by omega), nI_toInt (by omega)] at c
      omega
    · rw [show Int32.toNatClampNeg (4 : Int32) = 4 by decide, rB_SR hC hiE rfl (by decide)] at f1
      have e2 : y2 = sS36 N (i + 1) := by
        rw [f2, f1]
        unfold sS36
        rw [itd_last, Nat.zero_add]
      have e3 : y3 = nI (i + 1) := by rw [f3, nI_succ]
      rw [e2, e3]
      exact ih (i + 1) (by omega)
theorem w250 {Q : Int32 → sT → Prop} {mc ms kc ks : Nat} (hC : RC X (fF E) S N) (h12 : E.2.1 ≤ 12) (hQ : Q (sX N E.2.1) S) : ∀ (d k : Nat), k + d = E.2.1 → wA_X8_manyNow_b250 mc ms Q (d + 1) kc ks (sX N k) (X 3 0) (nI E.2.1) (nI k) S := by
  intro d
  induction d with
  | zero =>
    intro k hk'
    have hkE : k = E.2.1 := by omega
    unfold wA_X8_manyNow_b250
    exact ⟨fun _ => by rw [hkE]; exact hQ, fun c => absurd (by rw [hkE]; exact Int32.le_refl _) c⟩
  | succ d ih =>
    intro k hk'
    have hkE : k < E.2.1 := by omega
    have fin : ∀ v : Int32, v = (if 0 ≤ N 17 k then 0 else 1) → wA_X8_manyNow_b278 mc ms kc ks (X 3 0) (nI E.2.1) (nI k) v (sX N k) S (fun kc ks x3 x4 x5 x6 S => wA_X8_manyNow_b250 mc ms Q (d + 1) kc ks x3 x4 x5 x6 S) Q := by
      intro v hv
      unfold wA_X8_manyNow_b278
      intro y2 f2 y3 f3
      have e2 : y2 = sX N (k + 1) := by
        rw [f2, hv]
        unfold sX
        rw [itd_last, Nat.zero_add]
      have e3 : y3 = nI (k + 1) := by rw [f3, nI_succ]
      rw [e2, e3]
      exact ih (k + 1) (by omega)
    rw [wA_X8_manyNow_b250]
    refine ⟨fun c => ?_, fun _ => ⟨rK_FArr hC, by rw [rN_FArr hC]; exact ls_vp (by omega) hkE, X 5 k, by rw [nI_cl (by omega)]; exact rP_FArr hC hkE, rK_FR hC hkE, by rw [rN_FR hC hkE]; unfold vp_in; decide, fun y1 f1 => ?_⟩⟩
    · rw [Int32.le_iff_toInt_le, nI_toInt (by omega), nI_toInt (by omega)] at c
      omega
    · rw [show Int32.toNatClampNeg (17 : Int32) = 17 by decide, rB_FR hC hkE rfl (by decide)] at f1
      exact ⟨fun z => fin 0 (by rw [f1] at z; rw [if_pos z]), fun z => fin 1 (by rw [f1] at z; rw [if_neg z])⟩
theorem ra_manyNow {Q : Int32 → sT → Prop} (hC : RC X (fF E) S N) (h3 : E.1 ≤ 3) (h12 : E.2.1 ≤ 12) (hx : 0 ≤ x1.toInt ∧ x1.toInt ≤ 11) (hQ : ∀ S', FRM (DX X (fF E)) no_ S S' → (AL S → AL S') → RC X (fF E) S' N → Q (manR E N x1) S') : wA_X8_manyNow 1 12 (X 0 0) x1 S Q := by
  unfold wA_X8_manyNow wA_X8_manyNow_b0
  refine ⟨by decide, by decide, fun q hq S0 e0 => ?_⟩
  have qn := q_no hC.1 hq.1
  have R0 : RC X (fF E) S0 N := by rw [e0]; exact RC_nw hC hq
  have M0 : MP X (fF E) S q 12 (fun _ => 0) S0 := by rw [e0]; exact MP_nw hq
  clear e0
  refine ⟨by rw [M0.2.2.2.1]; unfold vp_in; decide, fun S1 e1 => ?_⟩
  rw [show Int32.toNatClampNeg (0 : Int32) = 0 by decide] at e1
  have R1 : RC X (fF E) S1 N := by rw [e1]; exact RC_q R0 qn
  have M1 := MP_set (v := 0) M0 hq.1 0
  rw [← e1] at M1
  clear e1
  refine ⟨by rw [M1.2.2.2.1]; unfold vp_in; decide, fun S2 e2 => ?_⟩
  rw [show Int32.toNatClampNeg (1 : Int32) = 1 by decide] at e2
  have R2 : RC X (fF E) S2 N := by rw [e2]; exact RC_q R1 qn
  have M2 := MP_set (v := 0) M1 hq.1 1
  rw [← e2] at M2
  clear e2
  refine ⟨by rw [M2.2.2.2.1]; unfold vp_in; decide, fun S3 e3 => ?_⟩
  rw [show Int32.toNatClampNeg (2 : Int32) = 2 by decide] at e3
  have R3 : RC X (fF E) S3 N := by rw [e3]; exact RC_q R2 qn
  have M3 := MP_set (v := 0) M2 hq.1 2
  rw [← e3] at M3
  clear e3
  refine ⟨by rw [M3.2.2.2.1]; unfold vp_in; decide, fun S4 e4 => ?_⟩
  rw [show Int32.toNatClampNeg (3 : Int32) = 3 by decide] at e4
  have R4 : RC X (fF E) S4 N := by rw [e4]; exact RC_q R3 qn
  have M4 := MP_set (v := 0) M3 hq.1 3
  rw [← e4] at M4
  clear e4
  refine ⟨by rw [M4.2.2.2.1]; unfold vp_in; decide, fun S5 e5 => ?_⟩
  rw [show Int32.toNatClampNeg (4 : Int32) = 4 by decide] at e5
  have R5 : RC X (fF E) S5 N := by rw [e5]; exact RC_q R4 qn
  have M5 := MP_set (v := 0) M4 hq.1 4
  rw [← e5] at M5
  clear e5
  refine ⟨by rw [M5.2.2.2.1]; unfold vp_in; decide, fun S6 e6 => ?_⟩
  rw [show Int32.toNatClampNeg (5 : Int32) = 5 by decide] at e6
  have R6 : RC X (fF E) S6 N := by rw [e6]; exact RC_q R5 qn
  have M6 := MP_set (v := 8) M5 hq.1 5
  rw [← e6] at M6
  clear e6
  refine ⟨by rw [M6.2.2.2.1]; unfold vp_in; decide, fun S7 e7 => ?_⟩
  rw [show Int32.toNatClampNeg (6 : Int32) = 6 by decide] at e7
  have R7 : RC X (fF E) S7 N := by rw [e7]; exact RC_q R6 qn
  have M7 := MP_set (v := 17) M6 hq.1 6
  rw [← e7] at M7
  clear e7
  refine ⟨by rw [M7.2.2.2.1]; unfold vp_in; decide, fun S8 e8 => ?_⟩
  rw [show Int32.toNatClampNeg (7 : Int32) = 7 by decide] at e8
  have R8 : RC X (fF E) S8 N := by rw [e8]; exact RC_q R7 qn
  have M8 := MP_set (v := 0) M7 hq.1 7
  rw [← e8] at M8
  clear e8
  refine ⟨by rw [M8.2.2.2.1]; unfold vp_in; decide, fun S9 e9 => ?_⟩
  rw [show Int32.toNatClampNeg (8 : Int32) = 8 by decide] at e9
  have R9 : RC X (fF E) S9 N := by rw [e9]; exact RC_q R8 qn
  have M9 := MP_set (v := 0) M8 hq.1 8
  rw [← e9] at M9
  clear e9
  refine ⟨by rw [M9.2.2.2.1]; unfold vp_in; decide, fun S10 e10 => ?_⟩
  rw [show Int32.toNatClampNeg (9 : Int32) = 9 by decide] at e10
  have R10 : RC X (fF E) S10 N := by rw [e10]; exact RC_q R9 qn
  have M10 := MP_set (v := 0) M9 hq.1 9
  rw [← e10] at M10
  clear e10
  refine ⟨by rw [M10.2.2.2.1]; unfold vp_in; decide, fun S11 e11 => ?_⟩
  rw [show Int32.toNatClampNeg (10 : Int32) = 10 by decide] at e11
  have R11 : RC X (fF E) S11 N := by rw [e11]; exact RC_q R10 qn
  have M11 := MP_set (v := 0) M10 hq.1 10
  rw [← e11] at M11
  clear e11
  refine ⟨by rw [M11.2.2.2.1]; unfold vp_in; decide, fun S12 e12 => ?_⟩
  rw [show Int32.toNatClampNeg (11 : Int32) = 11 by decide] at e12
  have R12 : RC X (fF E) S12 N := by rw [e12]; exact RC_q R11 qn
  have M12 := MP_set (v := 15) M11 hq.1 11
  rw [← e12] at M12
  clear e12
  have hq' := hQ S12 M12.1 M12.2.1 R12
  have vx : vp_in x1 12 := by rcases val12 hx with e | e | e | e | e | e | e | e | e | e | e | e <;> subst e <;> (unfold vp_in; decide)
  have hb := M12.2.2.2.2 _ (vp_lt vx)
  refine ⟨fun z => ?_, fun z => ?_, fun z => ?_, fun z => ?_, fun z => ?_, fun z => ?_, fun z => ?_, fun z => ?_, fun z => ?_, fun z => ?_, fun z => ?_, fun z => ?_⟩
  · subst z
    refine ⟨rK_Mod R12 trivial, X 1 0, rF_289 R12 trivial, rK_Wld R12, X 2 0, rF_256 R12, rK_SArr R12, fun y f => ?_⟩
    rw [f, rN_SArr R12]; exact hq'
  · subst z
    refine ⟨rK_Mod R12 trivial, X 1 0, rF_289 R12 trivial, rK_Wld R12, X 3 0, rF_257 R12, rK_FArr R12, fun y f => ?_⟩
    rw [f, rN_FArr R12]; exact hq'
  · subst z
    refine ⟨rK_Mod R12 trivial, X 1 0, rF_289 R12 trivial, rK_Wld R12, X 6 0, rF_258 R12, rK_All R12, by rw [rN_All R12]; unfold vp_in; decide, fun y f => ?_⟩
    rw [f, show Int32.toNatClampNeg (0 : Int32) = 0 by decide, rB_All R12 rfl (by decide)]; exact hq'
  · subst z
    refine ⟨rK_Mod R12 trivial, X 1 0, rF_289 R12 trivial, rK_Wld R12, X 6 0, rF_258 R12, rK_All R12, by rw [rN_All R12]; unfold vp_in; decide, fun y f y2 f2 => ?_⟩
    rw [show Int32.toNatClampNeg (0 : Int32) = 0 by decide, rB_All R12 rfl (by decide)] at f
    rw [f2, f]; exact hq'
  · subst z
    refine ⟨rK_Mod R12 trivial, X 1 0, rF_289 R12 trivial, rK_Wld R12, X 6 0, rF_258 R12, rK_All R12, by rw [rN_All R12]; unfold vp_in; decide, fun y f y2 f2 => ?_⟩
    rw [show Int32.toNatClampNeg (0 : Int32) = 0 by decide, rB_All R12 rfl (by decide)] at f
    have f3 : y2 = N 64 0 - N 64 0 / 30 * 30 := by rw [f2, f]
    unfold wA_X8_manyNow_b186
    refine ⟨fun z => ?_, fun z => ?_⟩
    · rw [show (0 : Int32) = manR E N 4 from (if_neg (by rw [← f3]; exact z)).symm]; exact hq'
    · rw [show (1 : Int32) = manR E N 4 from (if_pos (by rw [← f3]; exact z)).symm]; exact hq'
  · subst z
    exact w310 (c := 8) R12 h12 M12.2.2.1 M12.2.2.2.1 vx (by decide) hb hq'
  · subst z
    exact w310 (c := 17) R12 h12 M12.2.2.1 M12.2.2.2.1 vx (by decide) hb hq'
  · subst z
    refine ⟨rK_Mod R12 trivial, X 1 0, rF_289 R12 trivial, rK_Wld R12, X 2 0, rF_256 R12, rK_SArr R12, fun y f => ⟨E.1 + 1, ?_⟩⟩
    rw [f, rN_SArr R12]; exact w204 R12 h3 hq' E.1 0 (by omega)
  · subst z
    refine ⟨rK_Mod R12 trivial, X 1 0, rF_289 R12 trivial, rK_Wld R12, X 3 0, rF_257 R12, rK_FArr R12, fun y f => ⟨E.2.1 + 1, ?_⟩⟩
    rw [f, rN_FArr R12]; exact w250 R12 h12 hq' E.2.1 0 (by omega)
  · subst z
    refine ⟨rK_Mod R12 trivial, X 1 0, rF_289 R12 trivial, rK_Wld R12, X 6 0, rF_258 R12, rK_All R12, by rw [rN_All R12]; unfold vp_in; decide, fun y f => ?_⟩
    rw [f, show Int32.toNatClampNeg (9 : Int32) = 9 by decide, rB_All R12 rfl (by decide)]; exact hq'
  · subst z
    refine ⟨rK_Mod R12 trivial, X 1 0, rF_289 R12 trivial, rK_Wld R12, X 6 0, rF_258 R12, rK_All R12, by rw [rN_All R12]; unfold vp_in; decide, fun y f => ?_⟩
    rw [f, show Int32.toNatClampNeg (10 : Int32) = 10 by decide, rB_All R12 rfl (by decide)]; exact hq'
  · have e11 : x1 = 11 := by
      rcases val12 hx with e | e | e | e | e | e | e | e | e | e | e | e
      · exact absurd e z.1
      · exact absurd e z.2.1
      · exact absurd e z.2.2.1
      · exact absurd e z.2.2.2.1
      · exact absurd e z.2.2.2.2.1
      · exact absurd e z.2.2.2.2.2.1
      · exact absurd e z.2.2.2.2.2.2.1
      · exact absurd e z.2.2.2.2.2.2.2.1
      · exact absurd e z.2.2.2.2.2.2.2.2.1
      · exact absurd e z.2.2.2.2.2.2.2.2.2.1
      · exact absurd e z.2.2.2.2.2.2.2.2.2.2
      · exact e
    subst e11
    exact w310 (c := 15) R12 h12 M12.2.2.1 M12.2.2.2.1 vx (by decide) hb hq'
end
