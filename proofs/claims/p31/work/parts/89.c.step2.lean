/-! ===== p31: work, cuts and harvests, days ===== -/
section
variable {H : Nat → Nat → Nat → Nat} {E : eT} {S : sT} {Z : zT} {M M' : yT} {k i j a b n n' s s' t kc ks mc ms : Nat} {x y y' x2 x3 v : Int32} {Q : Int32 → sT → Prop} {bu st : Nat → Int32} {sc : Nat × (Nat → Int32)} {kk : Nat → Nat → Nat → Int32 → Int32 → Nat → Nat → Int32 → Int32 → Int32 → sT → Prop}
theorem hel_rd {c : Nat} (h : c ≠ 10 ∧ c ≠ 18) : helM i k M c j = M c j := by
  unfold helM
  dsimp only
  rw [up_rd, if_neg (by omega), up_rd, if_neg (by omega), up_rd, if_neg (by omega)]
theorem isw_r3 {r : Nat} (h : r < 3) : ¬ isw (nI r) 0 2 = 0 := by
  unfold isw
  have l0 : (0 : Int32).toInt = 0 := rfl
  have l2 : (2 : Int32).toInt = 2 := rfl
  have lr : (nI r).toInt = r := ti_nI (by omega)
  rw [if_neg (by rw [ti_lt, l0, lr]; omega), if_neg (by rw [ti_lt, l2, lr]; omega)]
  decide
/-- how the stages stand before the plants: as they were, but field k may have been puddled -/
def PU (E : eT) (k : Nat) (st : Nat → Int32) (M : yT) : Prop := ∀ j, j < E.2.1 → st j = M 4 j ∨ (j = k ∧ st j = 0 ∧ M 4 j = 1)
theorem PU_ok (h : PU E k st M) : ∀ j, j < E.2.1 → OKst (st j) (M 4 j) := fun j hj => by
  rcases h j hj with e | ⟨-, e1, e2⟩
  · rw [e]; exact OKst_rf
  · rw [e1, e2]; unfold OKst; decide
theorem l_621 (h : MS H E a b bu st t s y Z S) (hF1 : 1 ≤ E.2.1) (hk : k < E.2.1) (ht : t < 76) (hst : PU E k st (Z 0)) (hK : KC H E a b bu kc ks t kk) : wA_L_law_b621 mc ms kc ks (H 0 9 0) (nI E.1) (nI E.2.1) a b (nI s) y (nI t) x (nI k) S kk sc := by
  have h9 := h.2.2.2.2.2.2.1
  have hsn := h.2.2.2.2.2.2.2.2
  unfold wA_L_law_b621
  intro u eu
  refine bel (nz_nI (by omega) (by omega)) ?_
  obtain ⟨r, r1, r2⟩ := blF_r (x := u) (m := E.2.1) (by omega) (by omega)
  rw [r2]
  obtain ⟨N, hJ⟩ := h.2.2.1
  have hJ : LI E t Z N := hJ
  have hc := c_help hJ r1 hk
  refine ⟨MS_K h, MS_go h (cl := v_X6_help E (nI r) (nI k) Z) (fun P Q Q' a b c d e => u_X6_help a b c d e) hc.1 hc.2 (PI_helM h.2.2.2.1 r1 hk) (fun k _ => hel_rd (by decide)) ⟨by omega, hsn⟩ (fun S1 h1 => ⟨MS_K h1, ?_⟩)⟩
  have hst1 : PU E k st (zs Z 0 (helM r k (Z 0)) 0) := fun j hj => by
    rw [zs_rd, hel_rd (by decide)]; exact hst j hj
  generalize zs Z 0 (helM r k (Z 0)) = Z1 at h1 hst1 ⊢
  have fin : ∀ S2, MS H E a b bu st t s y Z1 S2 → wA_L_law_b884 mc ms kc ks (H 0 9 0) (nI E.1) (nI E.2.1) a b (nI s) y (nI t) S2 kk sc := fun S2 h2 => l_fin h2 (by omega) ht (PU_ok hst1) hK
  refine MS_ask h1 (fun P Q a1 a2 a3 a4 => G_f4 a1 a2 a3 hk a4) (fun S2 h2 => ⟨fun _ => fin S2 h2, fun c2 => ⟨MS_K h2, ?_⟩⟩)
  refine MS_ask h2 (fun P Q a1 a2 a3 a4 => G_m4 a1 a2 a3 a4) (fun S3 h3 => ⟨fun _ => fin S3 h3, fun c3 => ⟨MS_K h3, ?_⟩⟩)
  refine MS_ask h3 (fun P Q a1 a2 a3 a4 => G_f11 a1 a2 a3 hk a4) (fun S4 h4 => ⟨fun _ => fin S4 h4, fun c4 w ew => ?_⟩)
  refine bel (by decide) ⟨MS_K h4, ?_⟩
  obtain ⟨q, q1, q2⟩ := blF_r (x := w) (m := 3) (by decide) (by decide)
  have q2 : blF w 3 = nI q := q2
  rw [q2]
  obtain ⟨N1, hJ1⟩ := h4.2.2.1
  have hJ1 : LI E t Z1 N1 := hJ1
  have l3 : (3 : Int32).toInt = 3 := rfl
  have hp := c_plant (x2 := nI q) hJ1 hk (isw_r3 q1) c2 (fun z => by rw [if_pos z] at c3; exact absurd c3 (by decide)) (by rw [ti_le]; rw [ti_lt] at c4; omega)
  refine MS_go h4 (cl := v_X6_plant E (nI k) (nI q) Z1) (fun P Q Q' a b c d e => u_X6_plant a b c d e) hp.1 hp.2 (PI_begS h4.2.2.2.1 hk) (fun k _ => begS_rd (by omega)) ⟨by omega, hsn⟩ (fun S5 h5 => l_fin h5 (by omega) ht (fun j hj => ?_) hK)
  rw [zs_rd]
  by_cases e : j = k
  · rw [e, (begS_k (k := k) (x := nI q) (M := Z1 0)).1.1]
    rcases hst1 k hk with z | ⟨-, z, -⟩
    · rw [z, c2]; unfold OKst; decide
    · rw [z]; unfold OKst; decide
  · rw [begS_rd (fun z => e z.2)]
    exact PU_ok hst1 j hj
theorem l_592 (h : MS H E a b bu st t s y Z S) (hF1 : 1 ≤ E.2.1) (hk : k < E.2.1) (ht : t < 76) (hst : ∀ k, k < E.2.1 → st k = Z 0 4 k) (hK : KC H E a b bu kc ks t kk) : wA_L_law_b592 mc ms kc ks (H 0 9 0) (nI E.1) (nI E.2.1) a b (nI s) y (nI t) x (nI k) S kk sc := by
  have hsn := h.2.2.2.2.2.2.2.2
  have no : ∀ S2, MS H E a b bu st t s y Z S2 → wA_L_law_b621 mc ms kc ks (H 0 9 0) (nI E.1) (nI E.2.1) a b (nI s) y (nI t) x (nI k) S2 kk sc := fun S2 h2 => l_621 h2 hF1 hk ht (fun j hj => Or.inl (hst j hj)) hK
  unfold wA_L_law_b592
  refine ⟨MS_K h, MS_ask h (fun P Q a1 a2 a3 a4 => G_f4 a1 a2 a3 hk a4) (fun S1 h1 => ⟨fun _ => no S1 h1, fun c1 => ⟨MS_K h1, ?_⟩⟩)⟩
  refine MS_ask h1 (fun P Q a1 a2 a3 a4 => G_f1 a1 a2 a3 hk a4) (fun S2 h2 => ⟨fun _ => no S2 h2, fun c2 => ⟨MS_K h2, ?_⟩⟩)
  obtain ⟨N, hJ⟩ := h2.2.2.1
  have hJ : LI E t Z N := hJ
  have hc := c_puddle hJ hk c1 (by rw [ti_le]; rw [ti_lt] at c2; omega)
  refine MS_go h2 (cl := v_X6_puddle E (nI k) Z) (fun P Q Q' a b c d e => u_X6_puddle a b c d e) hc.1 hc.2 (PI_pudM h2.2.2.2.1 hk) (fun k _ => pudM_rd (by omega)) ⟨by omega, hsn⟩ (fun S3 h3 => l_621 h3 hF1 hk ht (fun j hj => ?_) hK)
  rw [zs_rd]
  by_cases e : j = k
  · refine Or.inr ⟨e, by rw [e, hst k hk, c1], ?_⟩
    rw [e]
    unfold pudM
    rw [up_rd, if_neg (by omega), up_rd, if_pos ⟨rfl, rfl⟩]
  · rw [pudM_rd (fun z => e z.2)]
    exact Or.inl (hst j hj)
theorem cut_rd {c : Nat} (h : c ≠ 73 ∧ c ≠ 20 ∧ c ≠ 21) : cutM k v M c j = M c j := by
  unfold cutM
  rw [up_rd, up_rd, up_rd, if_neg (by omega), if_neg (by omega), if_neg (by omega)]
theorem l_813 (h : MS H E a b bu st (t + 1) s y Z S) (hk : k < E.2.1) (ht : t < 76) (hst : ∀ k, k < E.2.1 → st k = Z 0 4 k) (hK : KC H E a b bu kc ks t kk) (hx : x = 0 ∨ x = 1) (c1 : Z 0 4 k = 5) (hv : v = ryC (Z 0) k) (hP : PI E t s y (Z 0)) (e : y' = y + v) : wA_L_law_b813 mc ms kc ks (H 0 9 0) (nI E.1) (nI E.2.1) a b (nI s) y' (nI t) v x (nI k) (H 0 9 0) S kk sc := by
  have hsn := h.2.2.2.2.2.2.2.2
  obtain ⟨N, hJ⟩ := h.2.2.1
  have hJ : LI E (t + 1) Z N := hJ
  have hW := LJ_EW hJ
  have hy := LI_yl hJ hk
  have hc := c_harvest hJ hk hx c1
  unfold wA_L_law_b813
  refine ⟨MS_K h, ?_⟩
  refine MS_go h (cl := v_X6_harvest E (nI k) x Z) (fun P Q Q' a b c d e => u_X6_harvest a b c d e) hc.1 hc.2 (PI_harM (x := x) hP hk (hW.2.2.1 k hk) (by omega) hy.2) (fun k _ => harM_rd (by omega)) ⟨by omega, hsn⟩ (fun S3 h3 => ⟨fun _ => ?_, fun z => z hv.symm⟩)
  rw [e, hv]
  refine l_fin h3 (by omega) ht (fun j hj => ?_) hK
  rw [zs_rd]
  by_cases e : j = k
  · rw [e, har_4.1, hst k hk, c1]
    unfold OKst
    decide
  · rw [harM_rd (by omega), hst j hj]
    exact OKst_rf
theorem l_687 (h : MS H E a b bu st t s y Z S) (hk : k < E.2.1) (ht : t < 76) (hst : ∀ k, k < E.2.1 → st k = Z 0 4 k) (hK : KC H E a b bu kc ks t kk) : wA_L_law_b687 mc ms kc ks (H 0 9 0) (nI E.1) (nI E.2.1) a b (nI s) y (nI t) x (nI k) S kk sc := by
  have hsn := h.2.2.2.2.2.2.2.2
  have l5 : (5 : Int32).toInt = 5 := rfl
  have l100 : (100 : Int32).toInt = 100 := rfl
  have l110 : (110 : Int32).toInt = 110 := rfl
  have l90 : (90 : Int32).toInt = 90 := rfl
  unfold wA_L_law_b687
  refine ⟨MS_K h, MS_ask h (fun P Q a1 a2 a3 a4 => G_f4 a1 a2 a3 hk a4) (fun S1 h1 => ⟨fun c => ⟨MS_K h1, ?_⟩, fun _ => l_fin h1 (by omega) ht (fun k hk => by rw [hst k hk]; exact OKst_rf) hK⟩)⟩
  refine MS_ask h1 (fun P Q a1 a2 a3 a4 => G_f10 a1 a2 a3 hk a4) (fun S2 h2 => ⟨MS_K h2, ?_⟩)
  have c1 : Z 0 4 k = 5 := by
    have := (MS_iF h2 hk).2.1
    rw [ti_le, l5] at c
    rw [ti_eq, l5]; omega
  obtain ⟨N, hJ⟩ := h2.2.2.1
  have hJ : LI E t Z N := hJ
  have hy := (LI_yl hJ hk).2
  obtain ⟨u, hu, hcl, hL⟩ := c_cut hJ (by omega) hk c1
  obtain ⟨hP, -, m1, m2⟩ := PI_cutM h2.2.2.2.1 hk c1 hy hu
  have ht2 := cut_t hy hu
  generalize hv : ryC (Z 0) k * (90 + u) / 100 = w at hcl hL hP m1 m2 ht2
  refine MS_go h2 (cl := v_X6_cut E (nI k) Z) (fun P Q Q' a b c d e => u_X6_cut a b c d e) hcl hL (PI_mono hP (Nat.le_succ t)) (fun k _ => cut_rd (by decide)) ⟨by omega, by omega⟩ (fun S3 h3 p1 e1 p2 e2 => ?_)
  have s1 : (ryC (Z 0) k * 110).toInt = (ryC (Z 0) k).toInt * 110 := by rw [ti_mul (by rw [l110]; omega) (by rw [l110]; omega), l110]
  have s2 : (ryC (Z 0) k * 110 / 100).toInt = (ryC (Z 0) k).toInt * 110 / 100 := by rw [ti_div (by rw [s1]; omega) (by rw [l100]; decide), s1, l100]
  have s3 : (ryC (Z 0) k * 90).toInt = (ryC (Z 0) k).toInt * 90 := by rw [ti_mul (by rw [l90]; omega) (by rw [l90]; omega), l90]
  have s4 : (ryC (Z 0) k * 90 / 100).toInt = (ryC (Z 0) k).toInt * 90 / 100 := by rw [ti_div (by rw [s3]; omega) (by rw [l100]; decide), s3, l100]
  subst e1 e2
  refine ⟨fun z => by rw [ti_lt, s2] at z; omega, fun _ p3 e3 p4 e4 => ?_⟩
  subst e3 e4
  refine ⟨fun z => by rw [ti_lt, s4] at z; omega, fun _ => ⟨MS_K h3, ?_⟩⟩
  have z0 : zs Z 0 (cutM k w (Z 0)) 0 = cutM k w (Z 0) := zs_rd _ _ _
  refine MS_ask h3 (fun P Q a1 a2 a3 a4 => G_t0 a1 a2 a3 hk a4) (fun S4 h4 => ⟨fun z => by rw [z0, ti_lt] at z; omega, fun _ => ⟨MS_K h4, ?_⟩⟩)
  refine MS_ask h4 (fun P Q a1 a2 a3 a4 => G_t1 a1 a2 a3 hk a4) (fun S5 h5 => ⟨fun _ p5 e5 => ?_, fun z => absurd (by rw [z0, ti_le]; exact m2) z⟩)
  have hst2 : ∀ k', k' < E.2.1 → st k' = zs Z 0 (cutM k w (Z 0)) 0 4 k' := fun k' hk' => by rw [z0, cut_rd (by decide)]; exact hst k' hk'
  have hv2 : ryC (Z 0) k = ryC (zs Z 0 (cutM k w (Z 0)) 0) k := by
    rw [z0]; exact (ryC_c (cut_rd (by decide)) (cut_rd (by decide)) (cut_rd (by decide)) (cut_rd (by decide))).symm
  have c2 : zs Z 0 (cutM k w (Z 0)) 0 4 k = 5 := by rw [z0, cut_rd (by decide)]; exact c1
  have hP2 : PI E t s y (zs Z 0 (cutM k w (Z 0)) 0) := by rw [z0]; exact hP
  refine bel (by decide) ⟨fun _ p6 e6 p7 e7 => ?_, fun _ => l_fin h5 (by omega) ht (fun k hk => by rw [hst2 k hk]; exact OKst_rf) hK⟩
  refine bel (by decide) ⟨fun _ => ?_, fun _ => ?_⟩
  · exact l_813 h5 hk ht hst2 hK (Or.inl rfl) c2 hv2 hP2 e6
  · exact l_813 h5 hk ht hst2 hK (Or.inr rfl) c2 hv2 hP2 e6
theorem isw_rr {r : Nat} {lo hi : Int32} (h1 : lo.toInt ≤ (r : Int)) (h2 : (r : Int) ≤ hi.toInt) (hm : r < 1000) : ¬ isw (nI r) lo hi = 0 := by
  unfold isw
  have lr : (nI r).toInt = r := ti_nI (by omega)
  rw [if_neg (by rw [ti_lt, lr]; omega), if_neg (by rw [ti_lt, lr]; omega)]
  decide
/-- days -/
theorem l_871 {r1 r2 r3 : Nat} (h : MS H E a b bu st t s y Z S) (ht : t < 76) (hst : ∀ k, k < E.2.1 → st k = Z 0 4 k) (hK : KC H E a b bu kc ks t kk) (g1 : r1 ≤ 200) (g2 : r2 ≤ 40) (g3 : r3 ≤ 30) : wA_L_law_b871 mc ms kc ks (H 0 9 0) (nI E.1) (nI E.2.1) a b (nI s) y (nI t) (nI r3) (nI r2) (nI r1) (H 0 9 0) S kk sc := by
  have hsn := h.2.2.2.2.2.2.2.2
  have hE1 := h.2.2.2.2.2.1
  obtain ⟨l0, l1, l2, l3, l4, l5, -⟩ := lit_ti
  have l200 : (200 : Int32).toInt = 200 := rfl
  have l40 : (40 : Int32).toInt = 40 := rfl
  have l30 : (30 : Int32).toInt = 30 := rfl
  have e1 : (nI r1).toInt = r1 := ti_nI (by omega)
  have e2 : (nI r2).toInt = r2 := ti_nI (by omega)
  obtain ⟨N, hJ⟩ := h.2.2.1
  have hJ : LI E t Z N := hJ
  obtain ⟨hcl, N', hJ'⟩ := c_day (x1 := nI r1) (x2 := nI r2) (x3 := nI r3) hJ (by omega) (isw_rr (by rw [l0]; omega) (by rw [l200]; omega) (by omega)) (isw_rr (by rw [l0]; omega) (by rw [l40]; omega) (by omega)) (isw_rr (by rw [l0]; omega) (by rw [l30]; omega) (by omega))
  obtain ⟨hP, hS⟩ := PI_day (r := nI r3) hJ hJ' h.2.2.2.1 hE1 (by omega) (by omega) (by omega)
  unfold wA_L_law_b871
  refine ⟨MS_K h, ?_⟩
  refine MS_go h (cl := v_X6_day E (nI r1) (nI r2) (nI r3) Z) (fun P Q Q' a b c d e => u_X6_day a b c d e) hcl ⟨N', hJ'⟩ (PI_mono hP (Nat.le_succ t)) (fun k _ => fr_pass (by decide) (by decide)) ⟨by omega, by omega⟩ (fun S2 h2 => ⟨MS_K h2, ?_⟩)
  refine MS_ask h2 (fun P Q a1 a2 a3 a4 => G_m2 a1 a2 a3 a4) (fun S3 h3 => ⟨fun _ => l_fin h3 (by omega) ht (fun k hk => ?_) hK, fun z => z (by rw [zs_rd])⟩)
  rw [zs_rd, hst k hk]
  obtain ⟨s1, s2⟩ := hS k hk
  by_cases c : (Z 0 4 k).toInt < 2
  · rw [s1 c]; exact OKst_rf
  · refine ⟨Or.inl (by rw [ti_le]; exact s2 (by omega)), Or.inr (Or.inl (by rw [ti_le, l2]; omega))⟩
end
