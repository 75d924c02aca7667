/-! ===== p31: the law's sixteen things ===== -/
section
variable {H : Nat → Nat → Nat → Nat} {E : eT} {S : sT} {Z : zT} {M M' : yT} {k i j a b n n' s s' t kc ks mc ms : Nat} {x y y' x2 x3 v : Int32} {Q : Int32 → sT → Prop} {bu st : Nat → Int32} {sc : Nat × (Nat → Int32)} {kk : Nat → Nat → Nat → Int32 → Int32 → Nat → Nat → Int32 → Int32 → Int32 → sT → Prop}
/-- what the next time wants -/
def KC (H : Nat → Nat → Nat → Nat) (E : eT) (a b : Nat) (bu : Nat → Int32) (kc ks t : Nat) (kk : Nat → Nat → Nat → Int32 → Int32 → Nat → Nat → Int32 → Int32 → Int32 → sT → Prop) : Prop := ∀ (S1 : sT) (st' : Nat → Int32) (Z' : zT) (s' : Nat) (y' : Int32), MS H E a b bu st' (t + 1) s' y' Z' S1 → (∀ k, k < E.2.1 → st' k = Z' 0 4 k) → kk kc ks (H 0 9 0) (nI E.1) (nI E.2.1) a b (nI s') y' (nI (t + 1)) S1
theorem l_fin (h : MS H E a b bu st n s y Z S) (hn : n ≤ t + 1) (ht : t < 76) (hst : ∀ k, k < E.2.1 → OKst (st k) (Z 0 4 k)) (hK : KC H E a b bu kc ks t kk) : wA_L_law_b884 mc ms kc ks (H 0 9 0) (nI E.1) (nI E.2.1) a b (nI s) y (nI t) S kk sc :=
  l_884 (MS_mono h hn (by omega)) hst (fun S1 st' h1 e => hK S1 st' Z s y h1 e)
theorem OK_eq (h : ∀ k, k < E.2.1 → st k = Z 0 4 k) (e : ∀ k, k < E.2.1 → M 4 k = Z 0 4 k) : ∀ k, k < E.2.1 → OKst (st k) (zs Z 0 M 0 4 k) := fun k hk => by
  rw [zs_rd, e k hk, h k hk]; exact OKst_rf
/-- gates -/
theorem l_gate (h : MS H E a b bu st t s y Z S) (hk : k < E.2.1) (ht : t < 76) (hst : ∀ k, k < E.2.1 → st k = Z 0 4 k) (hK : KC H E a b bu kc ks t kk) (hv : v = Z 0 12 k) : wA_L_law_b377 mc ms kc ks (H 0 9 0) (nI E.1) (nI E.2.1) a b (nI s) y (nI t) x (nI k) v S kk sc := by
  have n3 : ¬ (3 : Int32) = 0 := by decide
  have go : ∀ (w : Int32) (S1 : sT), (w = 0 ∧ blF (x >>> ((6 : Int32) &&& 31)) 3 ≤ 0 ∨ w = 1 ∧ ¬ blF (x >>> ((6 : Int32) &&& 31)) 3 ≤ 0) → MS H E a b bu st t s y Z S1 → wA_L_law_b399 mc ms kc ks (H 0 9 0) (nI E.1) (nI E.2.1) a b (nI s) y (nI t) x (nI k) v w (nI k) (H 0 9 0) S1 kk sc := by
    intro w S1 hw h1
    obtain ⟨N, hJ⟩ := h1.2.2.1
    have hJ : LI E t Z N := hJ
    have hc := c_gate (x2 := w) hJ hk (hw.elim (fun z => Or.inl z.1) (fun z => Or.inr z.1))
    unfold wA_L_law_b399
    refine ⟨MS_K h1, ?_⟩
    refine MS_go h1 (cl := v_X6_gate E (nI k) w Z) (fun P Q Q' a b c d e => u_X6_gate a b c d e) hc.1 hc.2 (PI_o h1.2.2.2.1 (by omega)) (fun k _ => if_neg (fun z => by omega)) ⟨by omega, h1.2.2.2.2.2.2.2.2⟩ (fun S2 h2 => ⟨fun z => absurd hv.symm z, fun _ => ⟨MS_K h2, ?_⟩⟩)
    refine MS_ask h2 (fun P Q a1 a2 a3 a4 => G_f13 a1 a2 a3 hk a4) (fun S3 h3 u eu => ?_)
    subst eu
    have e12 : zs Z 0 (s_up2 (Z 0) 12 k w) 0 12 k = w := by rw [zs_rd, up_rd, if_pos ⟨rfl, rfl⟩]
    have end432 : ∀ S4, MS H E a b bu st t s y (zs Z 0 (s_up2 (Z 0) 12 k w)) S4 → ∀ z, (if zs Z 0 (s_up2 (Z 0) 12 k w) 0 12 k = 0 then (0 : Int32) else 1) = z → wA_L_law_b432 mc ms kc ks (H 0 9 0) (nI E.1) (nI E.2.1) a b (nI s) y (nI t) z (if zs Z 0 (s_up2 (Z 0) 12 k w) 0 12 k = 0 then 0 else 1) S4 kk sc := fun S4 h4 z ez => by
      unfold wA_L_law_b432
      exact ⟨fun _ => l_fin h4 (by omega) ht (OK_eq hst (fun k _ => if_neg (fun z => by omega))) hK, fun q => absurd ez q⟩
    refine bel n3 ⟨fun z => ?_, fun z => ?_⟩
    · refine end432 S3 h3 0 ?_
      rw [e12]
      rcases hw with ⟨w1, -⟩ | ⟨-, w2⟩
      · rw [w1]; rfl
      · exact absurd z w2
    · refine end432 S3 h3 1 ?_
      rw [e12]
      rcases hw with ⟨-, w2⟩ | ⟨w1, -⟩
      · exact absurd w2 z
      · rw [w1]; rfl
  unfold wA_L_law_b377
  intro u eu
  subst eu
  exact bel n3 ⟨fun z => go 0 S (Or.inl ⟨rfl, z⟩) h, fun z => go 1 S (Or.inr ⟨rfl, z⟩) h⟩
/-- stones -/
theorem l_stones (h : MS H E a b bu st t s y Z S) (hk : k < E.2.1) (ht : t < 76) (hst : ∀ k, k < E.2.1 → st k = Z 0 4 k) (hK : KC H E a b bu kc ks t kk) : w_L_below x (6 : Int32) S (fun x133 S132 =>
    s_K S132 (H 0 9 0) = 8 ∧
    w_X6_stones (H 0 9 0) (nI k) x133 S132 (fun x135 S134 =>
    ((0 ≤ x135 → wA_L_law_b884 mc ms kc ks (H 0 9 0) (nI E.1) (nI E.2.1) a b (nI s) y (nI t) S134 kk sc) ∧
    (¬ 0 ≤ x135 → False)))) := by
  refine bel (by decide) ⟨MS_K h, ?_⟩
  obtain ⟨r, r1, r2⟩ := blF_r (x := x) (m := 6) (by decide) (by decide)
  have r2 : blF x 6 = nI r := r2
  rw [r2]
  have hs : ¬ isw (nI r) 0 5 = 0 := by
    unfold isw
    have l0 : (0 : Int32).toInt = 0 := rfl
    have l5 : (5 : Int32).toInt = 5 := rfl
    have lr : (nI r).toInt = r := ti_nI (by omega)
    rw [if_neg (by rw [ti_lt, l0, lr]; omega), if_neg (by rw [ti_lt, l5, lr]; omega)]
    decide
  obtain ⟨N, hJ⟩ := h.2.2.1
  have hJ : LI E t Z N := hJ
  have hc := c_stones hJ hk hs
  refine MS_go h (cl := v_X6_stones E (nI k) (nI r) Z) (fun P Q Q' a b c d e => u_X6_stones a b c d e) hc.1 hc.2 (PI_o h.2.2.2.1 (by omega)) (fun k _ => if_neg (fun z => by omega)) ⟨by omega, h.2.2.2.2.2.2.2.2⟩ (fun S2 h2 => ⟨fun _ => l_fin h2 (by omega) ht (OK_eq hst (fun k _ => if_neg (fun z => by omega))) hK, fun z => z ?_⟩)
  have := (MS_iF h hk).2.2.1
  rw [ti_le]
  exact this.2.2.2.1
/-- turns -/
theorem l_rotate (h : MS H E a b bu st t s y Z S) (hi : i < E.1) (ht : t < 76) (hst : ∀ k, k < E.2.1 → st k = Z 0 4 k) (hK : KC H E a b bu kc ks t kk) (hx : x = 0 ∨ x = 1) : wA_L_law_b478 mc ms kc ks (H 0 9 0) (nI E.1) (nI E.2.1) a b (nI s) y (nI t) x (nI i) (H 0 9 0) S kk sc := by
  obtain ⟨N, hJ⟩ := h.2.2.1
  have hJ : LI E t Z N := hJ
  have hc := c_rotate hJ hi hx
  unfold wA_L_law_b478
  refine ⟨MS_K h, ?_⟩
  exact MS_go h (cl := v_X6_rotate E (nI i) x Z) (fun P Q Q' a b c d e => u_X6_rotate a b c d e) hc.1 hc.2 (PI_o h.2.2.2.1 (by omega)) (fun k _ => if_neg (fun z => by omega)) ⟨by omega, h.2.2.2.2.2.2.2.2⟩ (fun S2 h2 => l_fin h2 (by omega) ht (OK_eq hst (fun k _ => if_neg (fun z => by omega))) hK)
/-- ducks -/
theorem l_ducks (h : MS H E a b bu st t s y Z S) (hk : k < E.2.1) (ht : t < 76) (hst : ∀ k, k < E.2.1 → st k = Z 0 4 k) (hK : KC H E a b bu kc ks t kk) (hx : x = 0 ∨ x = 1) : wA_L_law_b518 mc ms kc ks (H 0 9 0) (nI E.1) (nI E.2.1) a b (nI s) y (nI t) x (nI k) (H 0 9 0) S kk sc := by
  obtain ⟨N, hJ⟩ := h.2.2.1
  have hJ : LI E t Z N := hJ
  have hc := c_ducks hJ hk hx
  unfold wA_L_law_b518
  refine ⟨MS_K h, ?_⟩
  exact MS_go h (cl := v_X6_ducks E (nI k) x Z) (fun P Q Q' a b c d e => u_X6_ducks a b c d e) hc.1 hc.2 (PI_o h.2.2.2.1 (by omega)) (fun k _ => if_neg (fun z => by omega)) ⟨by omega, h.2.2.2.2.2.2.2.2⟩ (fun S2 h2 => l_fin h2 (by omega) ht (OK_eq hst (fun k _ => if_neg (fun z => by omega))) hK)
theorem ins_rd {c : Nat} (h : c ≠ 17 ∧ c ≠ 15 ∧ c ≠ 36) : insM E i M c j = M c j := by
  unfold insM
  rw [up_rd, if_neg (by omega)]
  refine insP_inv (R := fun p => p.2 c j = M c j) rfl (fun k p _ hp => ?_)
  unfold fnS
  dsimp only
  rw [up_rd, up_rd, if_neg (by omega), if_neg (by omega)]
  exact hp
/-- inspections -/
theorem l_inspect (h : MS H E a b bu st t s y Z S) (hi : i < E.1) (ht : t < 76) (hst : ∀ k, k < E.2.1 → st k = Z 0 4 k) (hK : KC H E a b bu kc ks t kk) : w_X6_inspect (H 0 9 0) (nI i) S (fun x144 S143 =>
    ∀ x145 : Int32, x145 = x144 - x144 / (5 : Int32) * (5 : Int32) →
    ((x145 = 0 → wA_L_law_b884 mc ms kc ks (H 0 9 0) (nI E.1) (nI E.2.1) a b (nI s) y (nI t) S143 kk sc) ∧
    (¬ x145 = 0 → False))) := by
  obtain ⟨N, hJ⟩ := h.2.2.1
  have hJ : LI E t Z N := hJ
  have h9 := h.2.2.2.2.2.2.1
  have hc := c_inspect hJ hi
  obtain ⟨hp, r, r1, r2⟩ := PI_insM (i := i) h.2.2.2.1 hi (by omega) (fun k hk => by have := (MS_iF h hk).2.2.1; omega)
  refine MS_go h (cl := v_X6_inspect E (nI i) Z) (fun P Q Q' a b c d e => u_X6_inspect a b c d e) hc.1 (n' := t + 1) (LG_mono hc.2 (by omega)) hp (fun k _ => ins_rd (by decide)) ⟨by omega, by have := h.2.2.2.2.2.2.2.2; omega⟩ (fun S2 h2 u eu => ⟨fun _ => l_fin h2 (by omega) ht (OK_eq hst (fun k _ => ins_rd (by decide))) hK, fun z => z ?_⟩)
  have l5 : (5 : Int32).toInt = 5 := rfl
  have l0 : (0 : Int32).toInt = 0 := rfl
  have lr : (nI (5 * r)).toInt = ((5 * r : Nat) : Int) := ti_nI (by omega)
  rw [eu, r2, ti_eq, ti_rem (by rw [lr]; omega) (by rw [l5]; decide), lr, l5, l0]
  omega
theorem vot_rd {c : Nat} (h : c ≠ 34 ∧ c ≠ 35 ∧ c ≠ 40) : votM E i M c j = M c j := by
  unfold votM
  dsimp only
  rw [up_rd, if_neg (by omega)]
  cases mdC E M (nI i) with
  | none => rfl
  | some a =>
    dsimp only
    split
    · rfl
    · rw [up_rd, up_rd, if_neg (by omega), if_neg (by omega)]
/-- votes -/
theorem l_vote (h : MS H E a b bu st t s y Z S) (hi : i < E.1) (ht : t < 76) (hst : ∀ k, k < E.2.1 → st k = Z 0 4 k) (hK : KC H E a b bu kc ks t kk) : w_X6_vote (H 0 9 0) (nI i) S (fun x154 S153 =>
    s_K S153 (H 0 9 0) = 8 ∧
    w_X6_ofSociety (H 0 9 0) (nI i) (6 : Int32) S153 (fun x156 S155 =>
    ((x156 < x154 → wA_L_law_b552 mc ms kc ks S155 sc) ∧
    (¬ x156 < x154 → s_K S155 (H 0 9 0) = 8 ∧
    w_X6_ofSociety (H 0 9 0) (nI i) (5 : Int32) S155 (fun x159 S158 =>
    ((x159 = 0 → wA_L_law_b884 mc ms kc ks (H 0 9 0) (nI E.1) (nI E.2.1) a b (nI s) y (nI t) S158 kk sc) ∧
    (¬ x159 = 0 → wA_L_law_b552 mc ms kc ks S158 sc))))))) := by
  obtain ⟨N, hJ⟩ := h.2.2.1
  have hJ : LI E t Z N := hJ
  have h12 := h.1.1.1.2.1
  have hc := c_vote hJ hi
  have hl := mem_len E i
  refine MS_go h (cl := v_X6_vote E (nI i) Z) (fun P Q Q' a b c d e => u_X6_vote a b c d e) hc.1 hc.2 (PI_votM h.2.2.2.1) (fun k _ => vot_rd (by decide)) ⟨by omega, h.2.2.2.2.2.2.2.2⟩ (fun S2 h2 => ⟨MS_K h2, ?_⟩)
  refine MS_ask h2 (fun P Q a1 a2 a3 a4 => G_s6 a1 a2 a3 hi a4) (fun S3 h3 => ⟨fun z => ?_, fun _ => ⟨MS_K h3, ?_⟩⟩)
  · have hy := yes_b (E := E) (M := Z 0) (i := i) (r := mdC E (Z 0) (nI i)) h12
    rw [ti_lt, ti_nI (by omega)] at z
    omega
  · refine MS_ask h3 (fun P Q a1 a2 a3 a4 => G_s5 a1 a2 a3 hi a4) (fun S4 h4 => ⟨fun _ => l_fin h4 (by omega) ht (OK_eq hst (fun k _ => vot_rd (by decide))) hK, fun z => absurd ?_ z⟩)
    rw [zs_rd]
    unfold votM
    exact if_pos ⟨rfl, rfl⟩
/-- sales -/
theorem l_sell (h : MS H E a b bu st t s y Z S) (hk : k < E.2.1) (ht : t < 76) (hst : ∀ k, k < E.2.1 → st k = Z 0 4 k) (hK : KC H E a b bu kc ks t kk) : w_X6_ofOwner (H 0 9 0) (nI k) (2 : Int32) S (fun x163 S162 =>
    ((¬ x163 = 0 → s_K S162 (H 0 9 0) = 8 ∧
    w_X6_sell (H 0 9 0) (nI k) (1 : Int32) S162 (fun x166 S165 =>
    s_K S165 (H 0 9 0) = 8 ∧
    w_X6_ofOwner (H 0 9 0) (nI k) (0 : Int32) S165 (fun x168 S167 =>
    ((x166 = x168 → ∀ x170 : Int32, x170 = nI s + 1 →
    wA_L_law_b884 mc ms kc ks (H 0 9 0) (nI E.1) (nI E.2.1) a b x170 y (nI t) S167 kk sc) ∧
    (¬ x166 = x168 → False))))) ∧
    (x163 = 0 → wA_L_law_b884 mc ms kc ks (H 0 9 0) (nI E.1) (nI E.2.1) a b (nI s) y (nI t) S162 kk sc))) := by
  have hsn := h.2.2.2.2.2.2.2.2
  refine MS_ask h (fun P Q a1 a2 a3 a4 => G_o2 a1 a2 a3 hk a4) (fun S1 h1 => ⟨fun c => ⟨MS_K h1, ?_⟩, fun _ => l_fin h1 (by omega) ht (fun k hk => by rw [hst k hk]; exact OKst_rf) hK⟩)
  obtain ⟨N, hJ⟩ := h1.2.2.1
  have hJ : LI E t Z N := hJ
  have l0 : (0 : Int32).toInt = 0 := rfl
  have l1 : (1 : Int32).toInt = 1 := rfl
  have h19 := (h1.2.2.2.1.1 k hk).2.2.2
  have hge : 1 ≤ (Z 0 19 k).toInt := by rw [ti_eq, l0] at c; omega
  have hc := c_sell (x2 := 1) hJ hk (by decide) (by rw [ti_le, l1]; exact hge)
  have q : ∀ c j, c ≠ 17 → c ≠ 19 → selM k 1 (Z 0) c j = Z 0 c j := fun c i hc hd => (if_neg (fun x => hc x.1)).trans (if_neg (fun x => hd x.1))
  refine MS_go h1 (cl := v_X6_sell E (nI k) 1 Z) (fun P Q Q' a b c d e => u_X6_sell a b c d e) hc.1 (n' := t + 1) (LG_mono hc.2 (by omega)) (PI_mono (PI_selM h1.2.2.2.1 hk (by omega) hge (by omega) h1.1.1.1.2.1) (by omega)) (fun k _ => q 14 k (by decide) (by decide)) ⟨by omega, by omega⟩ (fun S2 h2 => ⟨MS_K h2, ?_⟩)
  refine MS_ask h2 (fun P Q a1 a2 a3 a4 => G_o0 a1 a2 a3 hk a4) (fun S3 h3 => ⟨fun _ u eu => ?_, fun z => z ?_⟩)
  · rw [eu, ← nI_succ]
    exact l_fin h3 (by omega) ht (OK_eq hst (fun k _ => q 4 k (by decide) (by decide))) hK
  · rw [zs_rd]
    unfold selM
    rw [up_rd, if_pos ⟨rfl, rfl⟩]
end
