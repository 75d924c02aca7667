/-! ===== plan: the model's side ===== -/
section
variable {S S' S0 S1 : sT} {E : eT} {F : fT} {n D : Nat} {X X' : Nat → Nat → Nat} {N U V : yT} {Z : zT} {x1 x2 : Int32}
theorem wa_sy {Q : Int32 → sT → Prop} {mc ms kc ks : Nat} (h12 : E.2.1 ≤ 12) (hX : TWd S0 X' E) {R : Int32} (hQ : ∀ S', TP S0 S' → Q R S') : ∀ (e i : Nat) (s : Int32) (S : sT), i + e = E.2.1 → RC X' (fT0 E) S V → TP S0 S → R = itd (fun k s => s + yR V k) i e s → wA_X8_yieldOf_b97 mc ms Q (e + 1) kc ks (X' 1 0) s (X' 3 0) (nI E.2.1) (nI i) S := by
  intro e
  induction e with
  | zero =>
    intro i s S hi hC hP hR
    have hi : i = E.2.1 := hi
    unfold wA_X8_yieldOf_b97
    refine ⟨fun _ => ?_, fun c => absurd (by rw [hi]; exact Int32.le_refl _) c⟩
    have e : R = s := hR
    rw [← e]
    exact hQ S hP
  | succ e ih =>
    intro i s S hi hC hP hR
    have hk : i < E.2.1 := by omega
    have h1 : i < 2147483648 := by omega
    rw [itd_s] at hR
    unfold wA_X8_yieldOf_b97
    refine ⟨fun c => absurd c ?_, fun _ => ⟨rK_FArr hC, ?_, X' 5 i, ?_, rK_Wld hC, ?_⟩⟩
    · rw [nI_lei (by omega) h1]; omega
    · rw [rN_FArr hC, nI_vp h1]; exact hk
    · rw [nI_cl h1]; exact rP_FArr hC hk
    refine u_X7_yield (TP_st hX) (Q' := fun x z => x = yR V i ∧ z = V) (fun x S2 z hc hp e => ?_) hk hC hP (by rw [r_yield]; exact ⟨rfl, rfl⟩)
    obtain ⟨f1, f2⟩ := e
    subst f2
    intro a ea b eb
    have e2 : b = nI (i + 1) := by rw [eb, nI_succ]
    rw [e2, ea, f1]
    exact ih (i + 1) _ S2 (by omega) hc hp hR
theorem wa_so {kk : Nat → Nat → Int32 → Int32 → Int32 → Nat → Int32 → sT → Prop} {Q : Int32 → sT → Prop} {mc ms kc ks j : Nat} {pl kd dd : Int32} (h12 : E.2.1 ≤ 12) (h3 : E.1 ≤ 3) (hX : TWd S0 X' E) {Y : yT} (hV : ∀ Q : yT → Prop, Q (passR (fT0 E) Y) → v_X7_pass (fT0 E) Y Q) (hK : ∀ S2, RC X' (fT0 E) S2 (passR (fT0 E) Y) → TP S0 S2 → kk kc ks pl kd dd (X' 1 0) (nI (j + 1)) S2) : ∀ (e i : Nat) (p : Int32 × yT) (S : sT), i + e = E.1 → RC X' (fT0 E) S p.2 → TP S0 S → Y = (itd (prS (fT0 E) kd (nI j)) i e p).2 → wA_X8_yieldOf_b26 mc ms kk Q (e + 1) kc ks pl kd dd (X' 1 0) (nI j) p.1 (nI i) S := by
  intro e
  induction e with
  | zero =>
    intro i p S hi hC hP hY
    have hi : i = E.1 := hi
    have hY : Y = p.2 := hY
    unfold wA_X8_yieldOf_b26
    refine ⟨rK_Wld hC, X' 2 0, rF_256 hC, rK_SArr hC, fun x ex => ⟨fun _ => ?_, fun c => absurd ?_ c⟩⟩
    · refine u_X7_pass (TP_st hX) (Q' := fun z => z = passR (fT0 E) Y) (fun S2 z hc hp2 e => ?_) hC hP (by rw [← hY]; exact hV _ rfl)
      subst e
      intro a ea
      have e2 : a = nI (j + 1) := by rw [ea, nI_succ]
      rw [e2]
      exact hK S2 hc hp2
    · rw [ex, rN_SArr hC, hi]
      exact Int32.le_refl _
  | succ e ih =>
    intro i p S hi hC hP hY
    have h1 : i < 2147483648 := by omega
    rw [itd_s] at hY
    unfold wA_X8_yieldOf_b26
    refine ⟨rK_Wld hC, X' 2 0, rF_256 hC, rK_SArr hC, fun x ex => ⟨fun c => absurd c ?_, fun _ x6 e6 x7 e7 => ?_⟩⟩
    · rw [ex, rN_SArr hC]
      show ¬ nI E.1 ≤ nI i
      rw [nI_lei (by omega) h1]; omega
    subst e6 e7
    refine ⟨fun c => ?_, fun c => ?_⟩
    · have ep : prS (fT0 E) kd (nI j) i p = (p.1 / 3, p.2) := by unfold prS; rw [if_neg c]
      rw [ep] at hY
      unfold wA_X8_yieldOf_b56
      intro a ea b eb
      have e2 : b = nI (i + 1) := by rw [eb, nI_succ]
      rw [e2, ea]
      exact ih (i + 1) (p.1 / 3, p.2) S (by omega) hC hP hY
    · have ep : prS (fT0 E) kd (nI j) i p = (p.1 / 3, plRR (fT0 E) (nI i) kd p.2) := by unfold prS; rw [if_pos c]
      rw [ep] at hY
      refine u_X8_plantAll (TP_st hX) (Q' := fun z => z = plRR (fT0 E) (nI i) kd p.2) (fun S2 z hc hp2 e => ?_) hC hP (r_plantAll (F := fT0 E) h12 rfl)
      subst e
      unfold wA_X8_yieldOf_b56
      intro a ea b eb
      have e2 : b = nI (i + 1) := by rw [eb, nI_succ]
      rw [e2, ea]
      exact ih (i + 1) (p.1 / 3, plRR (fT0 E) (nI i) kd p.2) S2 (by omega) hc hp2 hY
theorem wa_yo {Q : Int32 → sT → Prop} {mc ms kc ks D : Nat} {pl kd : Int32} (hW : EW E N) (hw : 0 ≤ (N 66 0).toInt ∧ (N 66 0).toInt ≤ 40) (hk : 0 ≤ kd.toInt ∧ kd.toInt ≤ 2) (hX : TWd S0 X' E) (hD : D < 1000) {R : Int32} (hQ : ∀ S', TP S0 S' → Q R S') : ∀ (d j m : Nat) (S : sT) (U V : yT), j + d = D → m + d < 900000 → TR E N m U V → RC X' (fT0 E) S V → TP S0 S → R = syR (fT0 E) (itd (pdR (fT0 E) pl kd) j d V) → wA_X8_yieldOf_b14 mc ms Q (d + 1) kc ks pl kd (nI D) (X' 1 0) (nI j) S := by
  have h12 := hW.2.1
  have h3 := hW.1
  intro d
  induction d with
  | zero =>
    intro j m S U V hj hm hT hC hP hR
    have hj : j = D := hj
    unfold wA_X8_yieldOf_b14
    refine ⟨fun _ => ⟨rK_Wld hC, X' 3 0, rF_257 hC, rK_FArr hC, fun x ex => ⟨E.2.1 + 1, ?_⟩⟩, fun c => absurd (by rw [hj]; exact Int32.le_refl _) c⟩
    have e2 : x = nI E.2.1 := by rw [ex, rN_FArr hC]
    rw [e2, show (0 : Int32) = nI 0 from rfl]
    exact wa_sy (V := V) h12 hX hQ E.2.1 0 (nI 0) S (by omega) hC hP hR
  | succ d ih =>
    intro j m S U V hj hm hT hC hP hR
    rw [itd_s] at hR
    unfold wA_X8_yieldOf_b14
    refine ⟨fun c => absurd c ?_, fun _ => ⟨E.1 + 1, ?_⟩⟩
    · rw [nI_lei (by omega) (by omega)]; omega
    have hpb := tr_pb (F := fT0 E) (x1 := kd) (x2 := pl) (x3 := nI j) hW rfl rfl hk hT
    have hp := tr_pass (F := fT0 E) hW rfl rfl (by omega) hw hpb
    rw [show (0 : Int32) = nI 0 from rfl]
    exact wa_so (Y := pbR (fT0 E) pl kd (nI j) V) h12 h3 hX hp.1 (fun S2 hc hp2 => ih (j + 1) (m + 1) S2 _ _ (by omega) (by omega) hp.2 hc hp2 hR) E.1 0 (pl, V) S (by omega) hC hP rfl
theorem ra_yieldOf {Q : Int32 → sT → Prop} {pl kd : Int32} (hC : RC X (fF E) S N) (hW : EW E N) (hw : 0 ≤ (N 66 0).toInt ∧ (N 66 0).toInt ≤ 40) (hk : 0 ≤ kd.toInt ∧ kd.toInt ≤ 2) (hD : D < 1000) (hn : n + D < 900000) (hT : TR E N n U (Nw N)) (hQ : ∀ S', FRM (DX X (fF E)) no_ S S' → (AL S → AL S') → RC X (fF E) S' N → Q (syR (fT0 E) (ypR (fT0 E) N pl kd D)) S') : wA_X8_yieldOf 21 349 (X 0 0) pl kd (nI D) S Q := by
  have h3 := hW.1
  have h12 := hW.2.1
  unfold wA_X8_yieldOf wA_X8_yieldOf_b0
  refine ⟨rK_Mod hC trivial, X 1 0, rF_289 hC trivial, rK_Wld hC, 21, 349, by decide, by decide, ra_with hC h3 h12 (by omega) (by omega) (fun S2 X' F2 A2 hX R2 => ⟨D + 1, ?_⟩)⟩
  rw [show (0 : Int32) = nI 0 from rfl]
  exact wa_yo hW hw hk hX hD (fun S' hp => hQ S' (TP_X hp hC).1 (TP_X hp hC).2.1 (TP_X hp hC).2.2) D 0 n S2 U (Nw N) (by omega) hn hT R2 ⟨F2, A2⟩ rfl
/-- the plans, one by one -/
theorem wa_pn {Q : Int32 → sT → Prop} {mc ms D P : Nat} {kd : Int32} (hW : EW E N) (hw : 0 ≤ (N 66 0).toInt ∧ (N 66 0).toInt ≤ 40) (hk : 0 ≤ kd.toInt ∧ kd.toInt ≤ 2) (hD : D < 1000) (hn : n + D < 900000) (hT : TR E N n U (Nw N)) (hP : P ≤ 27) {R : Int32} : ∀ (d j : Nat) (p : Int32 × Int32) (S : sT) (kc ks : Nat), j + d = P → kc + 21 * d ≤ mc → ks + 349 * d ≤ ms → RC X (fF E) S N → (∀ S', FRM (DX X (fF E)) no_ S S' → (AL S → AL S') → RC X (fF E) S' N → Q R S') → R = (itd (plR2 (fT0 E) N kd D) j d p).1 → wA_X8_planNow_b37 mc ms Q (d + 1) kc ks (X 0 0) kd (nI D) (nI P) p.1 p.2 (nI j) S := by
  intro d
  induction d with
  | zero =>
    intro j p S kc ks hj hmc hms hC hQ hR
    have hj : j = P := hj
    unfold wA_X8_planNow_b37
    refine ⟨fun _ => ?_, fun c => absurd (by rw [hj]; exact Int32.le_refl _) c⟩
    have e : R = p.1 := hR
    rw [← e]
    exact hQ S FRM.refl (fun h => h) hC
  | succ d ih =>
    intro j p S kc ks hj hmc hms hC hQ hR
    rw [itd_s] at hR
    unfold wA_X8_planNow_b37
    have g1 : kc + 21 ≤ mc := by omega
    have g3 : ks + 349 + 349 * d ≤ ms := by
      rw [Nat.mul_succ] at hms
      rw [Nat.add_assoc, Nat.add_comm 349]
      exact hms
    have g2 : ks + 349 ≤ ms := Nat.le_trans (Nat.le_add_right _ _) g3
    have g4 : kc + 21 + 21 * d ≤ mc := by omega
    have g5 : j + 1 + d = P := by omega
    clear hms hmc
    refine ⟨fun c => absurd c ?_, fun _ => ⟨rK_Mod hC trivial, 21, 349, g1, g2, ra_yieldOf hC hW hw hk hD hn hT (fun S2 F2 A2 R2 => ?_)⟩⟩
    · rw [nI_lei (by omega) (by omega)]; omega
    have hQ2 : ∀ S', FRM (DX X (fF E)) no_ S2 S' → (AL S2 → AL S') → RC X (fF E) S' N → Q R S' := fun S' F A r => hQ S' (F2.trans F (fun _ _ z => z) (fun _ _ z => z)) (fun h => A (A2 h)) r
    refine ⟨fun c => ?_, fun c => ?_⟩
    · have ep : plR2 (fT0 E) N kd D j p = (nI j, syR (fT0 E) (ypR (fT0 E) N (nI j) kd D)) := by
        unfold plR2
        rw [if_neg (fun z => ?_)]
        rw [ti_lt] at c
        rw [ti_le] at z
        omega
      rw [ep] at hR
      unfold wA_X8_planNow_b71
      intro a ea
      have e2 : a = nI (j + 1) := by rw [ea, nI_succ]
      rw [e2]
      exact ih (j + 1) (nI j, syR (fT0 E) (ypR (fT0 E) N (nI j) kd D)) S2 _ _ g5 g4 g3 R2 hQ2 hR
    · have ep : plR2 (fT0 E) N kd D j p = p := by
        unfold plR2
        rw [if_pos]
        rw [ti_lt] at c
        rw [ti_le]
        omega
      rw [ep] at hR
      unfold wA_X8_planNow_b71
      intro a ea
      have e2 : a = nI (j + 1) := by rw [ea, nI_succ]
      rw [e2]
      exact ih (j + 1) p S2 _ _ g5 g4 g3 R2 hQ2 hR
theorem p3_27 {a : Nat} (h : a ≤ 3) : 3 ^ a ≤ 27 := by
  rcases (show a = 0 ∨ a = 1 ∨ a = 2 ∨ a = 3 by omega) with z | z | z | z <;> rw [z] <;> decide
theorem wa_p3 {Q : Int32 → sT → Prop} {mc ms kc ks : Nat} {kd dd : Int32} (h3 : E.1 ≤ 3) (hC : RC X (fF E) S N) (h : ∃ n9 : Nat, wA_X8_planNow_b37 mc ms Q n9 kc ks (X 0 0) kd dd (nI (3 ^ E.1)) (-1 : Int32) (-1 : Int32) (0 : Int32) S) : ∀ (d j : Nat), j + d = E.1 → wA_X8_planNow_b5 mc ms Q (d + 1) kc ks (X 0 0) kd dd (nI (3 ^ j)) (nI j) S := by
  intro d
  induction d with
  | zero =>
    intro j hj
    have hj : j = E.1 := hj
    unfold wA_X8_planNow_b5
    refine ⟨rK_Mod hC trivial, X 1 0, rF_289 hC trivial, rK_Wld hC, X 2 0, rF_256 hC, rK_SArr hC, fun x ex => ⟨fun _ => by rw [hj]; exact h, fun c => absurd ?_ c⟩⟩
    rw [ex, rN_SArr hC, hj]
    exact Int32.le_refl _
  | succ d ih =>
    intro j hj
    unfold wA_X8_planNow_b5
    refine ⟨rK_Mod hC trivial, X 1 0, rF_289 hC trivial, rK_Wld hC, X 2 0, rF_256 hC, rK_SArr hC, fun x ex => ⟨fun c => absurd c ?_, fun _ a ea b eb => ?_⟩⟩
    · rw [ex, rN_SArr hC]
      show ¬ nI E.1 ≤ nI j
      rw [nI_lei (by omega) (by omega)]; omega
    have e : nI (3 ^ j) * 3 = nI (3 ^ (j + 1)) := by
      rcases (show j = 0 ∨ j = 1 ∨ j = 2 by omega) with z | z | z <;> subst z <;> decide
    have e2 : b = nI (j + 1) := by rw [eb, nI_succ]
    rw [ea, e, e2]
    exact ih (j + 1) (by omega)
theorem ra_planNow {Q : Int32 → sT → Prop} {kd : Int32} (hC : RC X (fF E) S N) (hW : EW E N) (hw : 0 ≤ (N 66 0).toInt ∧ (N 66 0).toInt ≤ 40) (hk : 0 ≤ kd.toInt ∧ kd.toInt ≤ 2) (hD : D < 1000) (hn : n + D < 900000) (hT : TR E N n U (Nw N)) (hQ : ∀ S', FRM (DX X (fF E)) no_ S S' → (AL S → AL S') → RC X (fF E) S' N → Q (plnR (fT0 E) N kd D) S') : wA_X8_planNow 567 9423 (X 0 0) kd (nI D) S Q := by
  have h3 := hW.1
  have hp := p3_27 h3
  unfold wA_X8_planNow wA_X8_planNow_b0
  refine ⟨E.1 + 1, ?_⟩
  have := wa_p3 (Q := Q) (mc := 567) (ms := 9423) (kc := 0) (ks := 0) (kd := kd) (dd := nI D) h3 hC ⟨3 ^ E.1 + 1, by
    have := wa_pn (Q := Q) (mc := 567) (ms := 9423) hW hw hk hD hn hT hp (3 ^ E.1) 0 (-1, -1) S 0 0 (by omega) (by omega) (by omega) hC hQ rfl
    rw [← nI_z] at this
    exact this⟩ E.1 0 (by omega)
  rw [show nI (3 ^ 0) = 1 by decide, ← nI_z] at this
  exact this
theorem m_plan {x0 : Nat} (e0 : x0 = X 0 0) (hn : n < 1000) (h : LI E n Z N) (hl : LN E Z N) : RESA x0 E n X Z N (v_X6_plan E x1 x2 Z) (vT_X6_plan E x1 x2 Z) (wA_X8_plan 567 9423 x0 x1 x2) [xA] := by
  subst e0
  have hW := LJ_EW h
  have h12 := hW.2.1
  have h3 := hW.1
  by_cases ck : isw x1 0 2 = 0
  · refine Or.inr ⟨0, xA, 0, s_up2 (s_up2 N 80 0 0) 80 0 1, rfl, fun Q hq => Or.inr ?_, fun S2 hC Q hQ => ?_, rfl, LJ_80 (LJ_80 h)⟩
    · simp only [vT_X6_checkKind, vT_X6_checkKind_b0, e_isw, ck, not_true_eq_false, false_implies, true_and, forall_const]
      exact hq
    · unfold wA_X8_plan wA_X8_plan_b0
      refine ⟨rK_Mod hC trivial, fun S3 e3 => ?_⟩
      obtain ⟨r3, f3, a3⟩ := RC_80 hC e3
      unfold w_X8_isKind w_X8_isKind_b0
      rw [w_is8, ck]
      refine ⟨Or.inl rfl, fun _ => ?_, fun z => absurd rfl z⟩
      unfold wA_X8_plan_b31
      exact ⟨rK_Mod r3 trivial, ra_ref hC e3 (fun S4 f4 a4 r4 => hQ S4 f4 a4 r4)⟩
  have hck : ∀ {Q : zT → Prop}, Q Z → v_X6_checkKind E x1 Z Q := fun {Q} hq => by
    simp only [v_X6_checkKind, v_X6_checkKind_b0, e_isw, ck, not_false_eq_true, false_implies, and_true, forall_const]
    exact hq
  by_cases c : isw x2 1 30 = 0
  · refine Or.inr ⟨0, xA, 0, s_up2 (s_up2 N 80 0 0) 80 0 1, rfl, fun Q hq => Or.inl (hck (Or.inr (t_chkD c hq))), fun S2 hC Q hQ => ?_, rfl, LJ_80 (LJ_80 h)⟩
    unfold wA_X8_plan wA_X8_plan_b0
    refine ⟨rK_Mod hC trivial, fun S3 e3 => ?_⟩
    obtain ⟨r3, f3, a3⟩ := RC_80 hC e3
    unfold w_X8_isKind w_X8_isKind_b0
    rw [w_is8]
    refine ⟨isw01, fun z => absurd z ck, fun _ => ?_⟩
    rw [w_is8, c]
    refine ⟨fun _ => ?_, fun z => absurd rfl z⟩
    unfold wA_X8_plan_b31
    exact ⟨rK_Mod r3 trivial, ra_ref hC e3 (fun S4 f4 a4 r4 => hQ S4 f4 a4 r4)⟩
  · have hc : 1 ≤ x2.toInt ∧ x2.toInt ≤ ((30 : Nat) : Int) := isw_b c
    have hk : 0 ≤ x1.toInt ∧ x1.toInt ≤ 2 := isw_b ck
    obtain ⟨D, d1, d2, eD⟩ := dayN (m := 30) (by decide) hc
    have h80 : LI E n Z (s_up2 N 80 0 0) := LJ_80 h
    have l80 : LN E Z (s_up2 N 80 0 0) := LN_80 hl
    obtain ⟨hw, z65, z66, z67⟩ := LI_w h80
    have hW80 := LJ_EW h80
    have t0 := TR_0 h80 (LN_TL h80 l80)
    have hp := tr_plan (F := fT0 E) (D := D) h80 rfl rfl hk (by omega) (LN_TL h80 l80)
    have hb := LI_b h
    refine Or.inl ⟨(plV E (Z 0) x1 D (Z 1)).1, zs Z 1 _, s_up2 N 80 0 0, fun Q hq => ?_, fun S2 hC Q hQ => ?_, rfl, TS_LI h80 hp.2.1⟩
    · rw [eD]
      have := s_pn (Z := Z) (X := Z 1) (D := D) (Q := Q) h12 h3 hb.1 hb.2 ck d1 d2 hq
      rw [zs_self] at this
      exact this
    · unfold wA_X8_plan wA_X8_plan_b0
      refine ⟨rK_Mod hC trivial, fun S3 e3 => ?_⟩
      obtain ⟨r3, f3, a3⟩ := RC_80 hC e3
      unfold w_X8_isKind w_X8_isKind_b0
      rw [w_is8]
      refine ⟨isw01, fun z => absurd z ck, fun _ => ?_⟩
      rw [w_is8]
      refine ⟨fun z => absurd z c, fun _ => ⟨rK_Mod r3 trivial, 567, 9423, by decide, by decide, ?_⟩⟩
      rw [eD]
      refine ra_planNow r3 hW80 hw hk (by omega) (n := n) (by omega) t0 (fun S4 f4 a4 r4 => ?_)
      unfold wA_X8_plan_b36
      rw [← hp.1]
      exact hQ S4 (f3.trans f4 (fun _ _ z => z) (fun _ _ z => z)) (fun h => a4 (a3 h)) r4
end
