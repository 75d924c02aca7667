/-! ===== ripeIn: both sides ===== -/
section
variable {S S' S0 S1 : sT} {E : eT} {F : fT} {n D : Nat} {X X' : Nat → Nat → Nat} {N U V : yT} {Z : zT} {x1 x2 : Int32}
theorem rd_ir {Q : Int32 → sT → Prop} (hC : RC X F S N) (h12 : F.2.1 ≤ 12) : ∀ (d j : Nat) (s : Int32), j + d = F.2.1 → Q (itd (fun k s => s ||| (if N 4 k = 5 then (1 : Int32) <<< (nI k &&& 31) else 0)) j d s) S → w_X7_isRipe_b4 Q (d + 1) (X 1 0) s (nI j) S := by
  intro d
  induction d with
  | zero =>
    intro j s hj hq
    have hj : j = F.2.1 := hj
    unfold w_X7_isRipe_b4
    refine ⟨rK_Wld hC, _, rF_257 hC, rK_FArr hC, fun x ex => ⟨fun _ => hq, fun c => absurd ?_ c⟩⟩
    rw [ex, rN_FArr hC, hj]
    exact Int32.le_refl _
  | succ d ih =>
    intro j s hj hq
    have hk : j < F.2.1 := by omega
    have h1 : j < 2147483648 := by omega
    rw [itd_s] at hq
    unfold w_X7_isRipe_b4
    refine ⟨rK_Wld hC, _, rF_257 hC, rK_FArr hC, fun x ex => ⟨fun c => absurd c ?_, fun _ => ⟨_, rF_257 hC, rK_FArr hC, ?_, X 5 j, ?_, rK_FR hC hk, ?_, fun y ey => ?_⟩⟩⟩
    · rw [ex, rN_FArr hC, nI_lei (by omega) h1]; omega
    · rw [rN_FArr hC, nI_vp h1]; exact hk
    · rw [nI_cl h1]; exact rP_FArr hC hk
    · rw [rN_FR hC hk]; unfold vp_in; decide
    rw [show Int32.toNatClampNeg (4 : Int32) = 4 by decide, rB_FR hC hk rfl (by decide)] at ey
    have ey : y = N 4 j := ey
    refine ⟨fun c => ?_, fun c z ez => ?_⟩
    · unfold w_X7_isRipe_b33
      intro a ea b eb
      rw [ey] at c
      rw [if_neg c] at hq
      have e2 : b = nI (j + 1) := by rw [eb, nI_succ]
      rw [e2, ea]
      exact ih (j + 1) _ (by omega) hq
    · unfold w_X7_isRipe_b33
      intro a ea b eb
      rw [ey] at c
      rw [if_pos c] at hq
      have e2 : b = nI (j + 1) := by rw [eb, nI_succ]
      rw [e2, ea, ez]
      exact ih (j + 1) _ (by omega) hq
theorem rd_isRipe {Q : Int32 → sT → Prop} (hC : RC X F S N) (h12 : F.2.1 ≤ 12) (hQ : Q (irR F N) S) : w_X7_isRipe (X 1 0) S Q := by
  unfold w_X7_isRipe w_X7_isRipe_b0
  refine ⟨F.2.1 + 1, ?_⟩
  have := rd_ir (Q := Q) hC h12 F.2.1 0 0 (by omega) hQ
  rw [← nI_z] at this
  exact this
theorem wa_ri {Q : Int32 → sT → Prop} {mc ms kc ks D : Nat} (hC0 : RC X (fF E) S0 N) (hW : EW E N) (hw : 0 ≤ (N 66 0).toInt ∧ (N 66 0).toInt ≤ 40) (hX : TWd S0 X' E) (hD : D < 1000) {R : Int32} (hQ : ∀ S', TP S0 S' → Q R S') : ∀ (d j m : Nat) (S : sT) (U V : yT), j + d = D + 1 → m + d < 900000 → TR E N m U V → RC X' (fT0 E) S V → TP S0 S → R = rrR (fT0 E) (irR (fT0 E) N) d j V → wA_X8_ripeInNow_b12 mc ms Q (d + 1) kc ks (X 0 0) (nI D) (X' 1 0) (nI j) S := by
  have h12 := hW.2.1
  intro d
  induction d with
  | zero =>
    intro j m S U V hj hm hT hC hP hR
    unfold wA_X8_ripeInNow_b12
    refine ⟨fun _ => ?_, fun c => absurd ?_ c⟩
    · have e : R = -1 := hR
      rw [← e]
      exact hQ S hP
    · rw [nI_lti (by omega) (by omega)]; omega
  | succ d ih =>
    intro j m S U V hj hm hT hC hP hR
    simp only [rrR] at hR
    unfold wA_X8_ripeInNow_b12
    refine ⟨fun c => absurd c ?_, fun _ => ⟨rK_Wld hC, ?_⟩⟩
    · rw [nI_lti (by omega) (by omega)]; omega
    · have hp := tr_pass (F := fT0 E) hW rfl rfl (by omega) hw hT
      refine u_X7_pass (TP_st hX) (Q' := fun z => z = passR (fT0 E) V) (fun S2 z hc hp2 e => ?_) hC hP (hp.1 _ rfl)
      subst e
      have hC2 : RC X (fF E) S2 N := (TP_X hp2 hC0).2.2
      refine ⟨rK_Wld hc, rd_isRipe hc h12 ⟨rK_Mod hC2 trivial, X 1 0, rF_289 hC2 trivial, rK_Wld hC2, rd_isRipe hC2 h12 ⟨fun c x f => ?_, fun c => ?_⟩⟩⟩
      · have e4 : x = nI (j + 1) := by rw [f, nI_succ]
        rw [e4]
        have c : irR (fT0 E) (passR (fT0 E) V) = irR (fT0 E) N := c
        exact ih (j + 1) (m + 1) S2 _ _ (by omega) (by omega) hp.2 hc hp2 (by rw [hR, if_pos c])
      · have c : ¬ irR (fT0 E) (passR (fT0 E) V) = irR (fT0 E) N := c
        have e4 : R = nI j := by rw [hR, if_neg c]
        rw [← e4]
        exact hQ S2 hp2
theorem ra_riNow {Q : Int32 → sT → Prop} (hC : RC X (fF E) S N) (hW : EW E N) (hw : 0 ≤ (N 66 0).toInt ∧ (N 66 0).toInt ≤ 40) (hD : D < 1000) (hn : n + D < 900000) (hT : TR E N n U (Nw N)) (hQ : ∀ S', FRM (DX X (fF E)) no_ S S' → (AL S → AL S') → RC X (fF E) S' N → Q (rrR (fT0 E) (irR (fT0 E) N) D 1 (Nw N)) S') : wA_X8_ripeInNow 21 349 (X 0 0) (nI D) S Q := by
  have h3 := hW.1
  have h12 := hW.2.1
  unfold wA_X8_ripeInNow wA_X8_ripeInNow_b0
  refine ⟨rK_Mod hC trivial, X 1 0, rF_289 hC trivial, rK_Wld hC, 21, 349, by decide, by decide, ra_with hC h3 h12 (by omega) (by omega) (fun S2 X' F2 A2 hX R2 => ⟨D + 1, ?_⟩)⟩
  rw [show (1 : Int32) = nI 1 by decide]
  exact wa_ri hC hW hw hX hD (fun S' hp => hQ S' (TP_X hp hC).1 (TP_X hp hC).2.1 (TP_X hp hC).2.2) D 1 n S2 U (Nw N) (by omega) hn hT R2 ⟨F2, A2⟩ rfl
theorem LI_4 (h : LI E n Z N) : (∀ k, k < E.2.1 → Z 0 4 k = N 4 k) ∧ ∀ (W : yT) (k : Nat), k < E.2.1 → Z 0 4 k = 5 → cpM E (Z 0) W 4 k = 5 :=
  ⟨fun k _ => LI_ch h (by unfold Ch; decide), fun W k hk z => by rw [cpM_rd, if_pos ⟨by decide, hk⟩]; exact z⟩
theorem m_ripeIn {x0 : Nat} (e0 : x0 = X 0 0) (hn : n < 1000) (h : LI E n Z N) (hl : LN E Z N) : RESA x0 E n X Z N (v_X6_ripeIn E x1 Z) (vT_X6_ripeIn E x1 Z) (wA_X8_ripeIn 21 349 x0 x1) [xA] := by
  subst e0
  have hW := LJ_EW h
  have h12 := hW.2.1
  have h3 := hW.1
  by_cases c : isw x1 1 40 = 0
  · refine Or.inr ⟨0, xA, 0, s_up2 (s_up2 N 80 0 0) 80 0 1, rfl, fun Q hq => Or.inr (t_chkD c hq), fun S2 hC Q hQ => ?_, rfl, LJ_80 (LJ_80 h)⟩
    unfold wA_X8_ripeIn wA_X8_ripeIn_b0
    refine ⟨rK_Mod hC trivial, fun S3 e3 => ?_⟩
    obtain ⟨r3, f3, a3⟩ := RC_80 hC e3
    unfold w_X8_isLong w_X8_isLong_b0
    rw [w_is8, c]
    exact ⟨Or.inl rfl, fun _ => ⟨rK_Mod r3 trivial, ra_ref hC e3 (fun S4 f4 a4 r4 => hQ S4 f4 a4 r4)⟩, fun z => absurd rfl z⟩
  · obtain ⟨D, d1, d2, eD⟩ := dayN (m := 40) (by decide) (isL_b c)
    have h80 : LI E n Z (s_up2 N 80 0 0) := LJ_80 h
    have l80 : LN E Z (s_up2 N 80 0 0) := LN_80 hl
    obtain ⟨hw, z65, z66, z67⟩ := LI_w h80
    have hW80 := LJ_EW h80
    have t0 := TR_0 h80 (LN_TL h80 l80)
    have hr := tr_ri (F := fT0 E) (M := Z 0) hW80 rfl rfl hw (LI_4 h80).1 D 1 n _ _ (by omega) ((LI_4 h80).2 (Z 1)) t0
    rw [← z65, ← z66, ← z67] at hr
    obtain ⟨hr1, n', Y', hr2⟩ := hr
    have hb := LI_b h
    refine Or.inl ⟨(riC E (Z 0 65 0) (Z 0 66 0) (Z 0 67 0) (crC E (Z 0)) D 1 (cpM E (Z 0) (Z 1))).1, zs Z 1 _, s_up2 N 80 0 0, fun Q hq => ?_, fun S2 hC Q hQ => ?_, rfl, TS_LI h80 (TR_TS hr2)⟩
    · rw [eD]
      have := s_ri (Z := Z) (X := Z 1) (D := D) (Q := Q) h12 h3 hb.1 hb.2 d1 d2 hq
      rw [zs_self] at this
      exact this
    · unfold wA_X8_ripeIn wA_X8_ripeIn_b0
      refine ⟨rK_Mod hC trivial, fun S3 e3 => ?_⟩
      obtain ⟨r3, f3, a3⟩ := RC_80 hC e3
      unfold w_X8_isLong w_X8_isLong_b0
      rw [w_is8]
      refine ⟨isw01, fun z => absurd z c, fun _ => ⟨rK_Mod r3 trivial, 21, 349, by decide, by decide, ?_⟩⟩
      rw [eD]
      refine ra_riNow r3 hW80 hw (by omega) (n := n) (by omega) t0 (fun S4 f4 a4 r4 => ?_)
      unfold wA_X8_ripeIn_b25
      rw [← hr1]
      exact hQ S4 (f3.trans f4 (fun _ _ z => z) (fun _ _ z => z)) (fun h => a4 (a3 h)) r4
end
