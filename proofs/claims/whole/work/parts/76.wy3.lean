/-! ===== wouldYield: both sides ===== -/
theorem dayN {x : Int32} {m : Nat} (hm : m < 1000) (h : 1 ≤ x.toInt ∧ x.toInt ≤ (m : Int)) : ∃ D : Nat, 1 ≤ D ∧ D ≤ m ∧ x = nI D :=
  ⟨x.toInt.toNat, by omega, by omega, by rw [ti_eq, ti_nI (by omega)]; omega⟩
section
variable {S S' S0 S1 : sT} {E : eT} {n D : Nat} {X X' : Nat → Nat → Nat} {N U V : yT} {Z : zT} {x1 x2 : Int32}
theorem LN_80 {v : Int32} (hl : LN E Z N) : LN E Z (s_up2 N 80 0 v) := fun c k hk => by
  rw [up_rd, if_neg (fun z => ?_)]
  · exact hl c k hk
  · rw [z.1, z.2, cl_g (by decide)] at hk
    exact absurd hk (by decide)
theorem LN_TL (h : LI E n Z N) (hl : LN E Z N) : TL E N (Z 1) := ⟨TS_LN h hl, hl⟩
theorem isL_b {x : Int32} (h : ¬ isw x 1 40 = 0) : 1 ≤ x.toInt ∧ x.toInt ≤ ((40 : Nat) : Int) := isw_b h
theorem t_chkD {m : Int32} (c : isw x2 1 m = 0) {Q : String → zT → Prop} (h : Q xA Z) : vT_X6_checkDays E x2 m Z Q := by
  simp only [vT_X6_checkDays, vT_X6_checkDays_b0, e_isw, c, not_true_eq_false, false_implies, true_and, forall_const]
  exact h
theorem c_chkD {m : Int32} (c : ¬ isw x2 1 m = 0) {Q : zT → Prop} (h : Q Z) : v_X6_checkDays E x2 m Z Q := by
  simp only [v_X6_checkDays, v_X6_checkDays_b0, e_isw, c, not_false_eq_true, false_implies, and_true, forall_const]
  exact h
theorem m_wouldYield {x0 : Nat} (e0 : x0 = X 0 0) (hn : n < 1000) (h : LI E n Z N) (hl : LN E Z N) : RESA x0 E n X Z N (v_X6_wouldYield E x1 x2 Z) (vT_X6_wouldYield E x1 x2 Z) (wA_X8_wouldYield 21 349 x0 x1 x2) [xI, xA] := by
  subst e0
  have hW := LJ_EW h
  have h12 := hW.2.1
  have h3 := hW.1
  have n1 : ¬ (1 : Int32) = 0 := by decide
  have hs := isw_n (x1 := x1) h12
  by_cases hv : vp_in x1 E.2.1
  · have g1 := hs.1 hv
    by_cases c : isw x2 1 40 = 0
    · refine Or.inr ⟨1, xA, 0, s_up2 (s_up2 N 80 0 0) 80 0 2, rfl, fun Q hq => Or.inl ?_, fun S2 hC Q hQ => ?_, rfl, LJ_80 (LJ_80 h)⟩
      · rw [c_fieldAt h12 hv]
        exact Or.inr (t_chkD c hq)
      · unfold wA_X8_wouldYield wA_X8_wouldYield_b0
        refine ⟨rK_Mod hC trivial, fun S3 e3 => ?_⟩
        obtain ⟨r3, f3, a3⟩ := RC_80 hC e3
        refine w_isF r3.1 ?_
        rw [g1]
        refine ⟨fun _ => ?_, fun z => absurd z n1⟩
        unfold w_X8_isLong w_X8_isLong_b0
        rw [w_is8, c]
        exact ⟨Or.inl rfl, fun _ => ⟨rK_Mod r3 trivial, ra_ref hC e3 (fun S4 f4 a4 r4 => hQ S4 f4 a4 r4)⟩, fun z => absurd rfl z⟩
    · obtain ⟨D, d1, d2, eD⟩ := dayN (m := 40) (by decide) (isL_b c)
      have h80 : LI E n Z (s_up2 N 80 0 0) := LJ_80 h
      have l80 : LN E Z (s_up2 N 80 0 0) := LN_80 hl
      obtain ⟨hw, z65, z66, z67⟩ := LI_w h80
      have hW80 := LJ_EW h80
      have t0 := TR_0 h80 (LN_TL h80 l80)
      have tD := tr_pF (F := fT0 E) hW80 rfl rfl hw D (by omega) t0
      rw [← z65, ← z66, ← z67] at tD
      have hb := LI_b h
      have hy := yl_eq CD_Ct tD.1 (vp_lt hv)
      refine Or.inl ⟨ryC (pF E (Z 0 65 0) (Z 0 66 0) (Z 0 67 0) D (cpM E (Z 0) (Z 1))) (Int32.toNatClampNeg x1), zs Z 1 _, s_up2 N 80 0 0, fun Q hq => ?_, fun S2 hC Q hQ => ?_, rfl, TS_LI h80 (TR_TS tD)⟩
      · unfold v_X6_wouldYield v_X6_wouldYield_b0
        rw [c_fieldAt h12 hv]
        refine c_chkD c ?_
        rw [eD]
        have := s_try (Z := Z) (X := Z 1) (D := D) (Q := fun Z104 => v_X2_yieldOf E 1 x1 Z104 (fun x107 Z106 => Q x107 Z106)) h12 h3 hb.1 hb.2 (by omega) (by rw [c_yieldOf h12 hv, zs_rd]; exact hq)
        rw [zs_self] at this
        exact this
      · unfold wA_X8_wouldYield wA_X8_wouldYield_b0
        refine ⟨rK_Mod hC trivial, fun S3 e3 => ?_⟩
        obtain ⟨r3, f3, a3⟩ := RC_80 hC e3
        refine w_isF r3.1 ?_
        rw [g1]
        refine ⟨fun _ => ?_, fun z => absurd z n1⟩
        unfold w_X8_isLong w_X8_isLong_b0
        rw [w_is8]
        refine ⟨isw01, fun z => absurd z c, fun _ => ⟨rK_Mod r3 trivial, 21, 349, by decide, by decide, ?_⟩⟩
        rw [eD]
        refine ra_wyNow r3 hW80 hw hv (by omega) (by omega) t0 (fun S4 f4 a4 r4 => ?_)
        unfold wA_X8_wouldYield_b40
        rw [← hy.1]
        exact hQ S4 (f3.trans f4 (fun _ _ z => z) (fun _ _ z => z)) (fun h => a4 (a3 h)) r4
  · have g1 := hs.2 hv
    refine Or.inr ⟨0, xI, 0, s_up2 (s_up2 N 80 0 0) 80 0 1, rfl, fun Q hq => Or.inr (by rw [t_fieldAt h12 hv]; exact hq), fun S2 hC Q hQ => ?_, rfl, LJ_80 (LJ_80 h)⟩
    unfold wA_X8_wouldYield wA_X8_wouldYield_b0
    refine ⟨rK_Mod hC trivial, fun S3 e3 => ?_⟩
    obtain ⟨r3, f3, a3⟩ := RC_80 hC e3
    refine w_isF r3.1 ?_
    rw [g1]
    exact ⟨fun z => absurd rfl z, fun _ => ⟨rK_Mod r3 trivial, ra_ref hC e3 (fun S4 f4 a4 r4 => hQ S4 f4 a4 r4)⟩⟩
end
