/-! ===== p31: harvest, cut, inspect, vote keep what holds ===== -/
theorem rg_1 (a b : Int32) : a + b - a = b := by grind
theorem rg_2 (a b c : Int32) : a - b + (c - b - c) = a - (b + b) := by grind
theorem rg_3 (a p x q : Int32) : a - p + (x - q - x) = a - (p + q) := by grind
section
variable {E : eT} {M M' : yT} {t s k j i : Nat} {x y : Int32}
theorem har_4 : harM E k x M 4 k = 0 ∧ harM E k x M 19 k = M 19 k + (ryC M k - ryC M k / 10) ∧ harM E k x M 74 0 = M 74 0 + ryC M k ∧ ∀ j, harM E k x M 36 j = if j = E.2.2 k then M 36 (E.2.2 k) + ryC M k / 10 else M 36 j := by
  unfold harM
  dsimp only
  split <;> simp only [up_rd, Nat.reduceEqDiff, false_and, and_self, if_true, if_false, true_and, and_true, implies_true]
theorem PI_harM (h : PI E t s y M) (hk : k < E.2.1) (hE : E.2.2 k < E.1) (ht : t ≤ 1000) (hy : 0 ≤ (ryC M k).toInt ∧ (ryC M k).toInt ≤ 80) : PI E (t + 1) s (y + ryC M k) (harM E k x M) := by
  obtain ⟨e4, e19, e74, e36⟩ := har_4 (E := E) (M := M) (k := k) (x := x)
  have l0 : (0 : Int32).toInt = 0 := rfl
  have l10 : (10 : Int32).toInt = 10 := rfl
  have s1 : (ryC M k / 10).toInt = (ryC M k).toInt / 10 := by rw [ti_div hy.1 (by rw [l10]; decide), l10]
  have s2 : (ryC M k - ryC M k / 10).toInt = (ryC M k).toInt - (ryC M k).toInt / 10 := by rw [ti_sub (by omega) (by omega), s1]
  have hg : ryC M k / 10 = nI (ryC M k / 10).toInt.toNat := by rw [ti_eq, ti_nI (by omega)]; omega
  obtain ⟨hP, h1, h2, h3, ⟨f, g, h4, h5, h6, h7⟩, h8, h9⟩ := h
  refine ⟨fun k' hk' => ?_, fun i hi => by rw [harM_rd (by omega)]; exact h1 i hi, ?_, ?_, ⟨f, g + (ryC M k / 10).toInt.toNat, by omega, by omega, ?_, ?_⟩, ?_, ?_⟩
  · by_cases e : k' = k
    · subst e
      have hp := hP k' hk'
      have s3 : (M 19 k' + (ryC M k' - ryC M k' / 10)).toInt = (M 19 k').toInt + ((ryC M k').toInt - (ryC M k').toInt / 10) := by
        have := hp.2.2.2
        rw [ti_add (by omega) (by omega), s2]
      unfold PK tF at hp ⊢
      rw [e4, e19, s3, harM_rd (c := 1) (by omega), harM_rd (c := 14) (by omega), harM_rd (c := 3) (by omega), harM_rd (c := 20) (by omega), harM_rd (c := 21) (by omega), l0]
      exact ⟨hp.1, fun z => by omega, ⟨hp.2.2.1.1, fun z => by omega, fun z => absurd z (by decide)⟩, by omega, by omega⟩
    · exact PK_c (PK_mono (hP k' hk') (by omega)) (fun c z => harM_rd (by omega))
  · unfold CLO at h2 ⊢
    rw [sm_c (f := harM E k x M 1) (g := M 1) (fun a _ => harM_rd (by omega)), sm_c (f := harM E k x M 37) (g := M 37) (fun a _ => harM_rd (by omega)), harM_rd (c := 68) (by omega), harM_rd (c := 69) (by omega), harM_rd (c := 70) (by omega), harM_rd (c := 71) (by omega), harM_rd (c := 72) (by omega)]
    exact h2
  · rw [sm_c (f := harM E k x M 18) (g := M 18) (fun a _ => harM_rd (by omega))]; exact h3
  · rw [sm_c (f := harM E k x M 17) (g := M 17) (fun a _ => harM_rd (by omega))]; exact h6
  · rw [sm_up (f := M 36) (g := harM E k x M 36) (a := E.2.2 k) hE (fun a _ ha => by rw [e36, if_neg ha]), e36, if_pos rfl, rg_1, h7, hg, nI_add]
    rw [ti_nI (by omega)]
    congr 1
    omega
  · rw [harM_rd (c := 68) (by omega)]; exact h8
  · rw [e74, h9]
theorem cut_t {r u : Int32} (hr : 0 ≤ r.toInt ∧ r.toInt ≤ 80) (hu : 0 ≤ u.toInt ∧ u.toInt ≤ 20) : (90 * r.toInt ≤ 100 * (r * (90 + u) / 100).toInt + 99 ∧ 100 * (r * (90 + u) / 100).toInt ≤ 110 * r.toInt) ∧ 0 ≤ (r * (90 + u) / 100).toInt := by
  have l90 : (90 : Int32).toInt = 90 := rfl
  have l100 : (100 : Int32).toInt = 100 := rfl
  have s1 : (90 + u).toInt = 90 + u.toInt := by rw [ti_add (by omega) (by omega), l90]
  generalize 90 + u = w at s1
  have q1 : r.toInt * 90 ≤ r.toInt * w.toInt := Int.mul_le_mul_of_nonneg_left (by omega) hr.1
  have q2 : r.toInt * w.toInt ≤ r.toInt * 110 := Int.mul_le_mul_of_nonneg_left (by omega) hr.1
  have s2 : (r * w).toInt = r.toInt * w.toInt := ti_mul (by omega) (by omega)
  have s3 : (r * w / 100).toInt = r.toInt * w.toInt / 100 := by rw [ti_div (by omega) (by rw [l100]; decide), s2, l100]
  omega
theorem PI_cutM {u : Int32} (h : PI E t s y M) (hk : k < E.2.1) (c1 : M 4 k = 5) (hr : 0 ≤ (ryC M k).toInt ∧ (ryC M k).toInt ≤ 80) (hu : 0 ≤ u.toInt ∧ u.toInt ≤ 20) : PI E t s y (cutM k (ryC M k * (90 + u) / 100) M) ∧ ((M 20 k).toInt ≤ (ryC M k).toInt ∧ (cutM k (ryC M k * (90 + u) / 100) M 20 k).toInt ≤ (ryC M k).toInt ∧ (ryC M k).toInt ≤ (cutM k (ryC M k * (90 + u) / 100) M 21 k).toInt) := by
  have hc := cut_t hr hu
  have hp := h.1 k hk
  generalize hv : ryC M k * (90 + u) / 100 = v at hc
  have l100 : (100 : Int32).toInt = 100 := rfl
  have l109 : (109 : Int32).toInt = 109 := rfl
  have l110 : (110 : Int32).toInt = 110 := rfl
  have l90 : (90 : Int32).toInt = 90 := rfl
  have l1 : (1 : Int32).toInt = 1 := rfl
  have l5 : (5 : Int32).toInt = 5 := rfl
  have a1 : (100 * v).toInt = 100 * v.toInt := by rw [ti_mul (by rw [l100]; omega) (by rw [l100]; omega), l100]
  have a2 : (100 * v + 109).toInt = 100 * v.toInt + 109 := by rw [ti_add (by omega) (by omega), a1, l109]
  have a3 : ((100 * v + 109) / 110).toInt = (100 * v.toInt + 109) / 110 := by rw [ti_div (by omega) (by rw [l110]; decide), a2, l110]
  have b0 : (v + 1).toInt = v.toInt + 1 := by rw [ti_add (by omega) (by omega), l1]
  have b1 : (100 * (v + 1)).toInt = 100 * (v.toInt + 1) := by rw [ti_mul (by rw [l100]; omega) (by rw [l100]; omega), l100, b0]
  have b2 : (100 * (v + 1) - 1).toInt = 100 * (v.toInt + 1) - 1 := by rw [ti_sub (by omega) (by omega), b1, l1]
  have b3 : ((100 * (v + 1) - 1) / 90).toInt = (100 * (v.toInt + 1) - 1) / 90 := by rw [ti_div (by omega) (by rw [l90]; decide), b2, l90]
  have e20 : cutM k v M 20 k = s_max (M 20 k) ((100 * v + 109) / 110) := by unfold cutM; simp only [up_rd, Nat.reduceEqDiff, false_and, and_self, if_true, if_false]
  have e21 : cutM k v M 21 k = s_min (M 21 k) ((100 * (v + 1) - 1) / 90) := by unfold cutM; simp only [up_rd, and_self, if_true]
  have q : ∀ c j, c ≠ 73 → ¬ ((c = 20 ∨ c = 21) ∧ j = k) → cutM k v M c j = M c j := fun c j h1 h2 => by
    unfold cutM
    rw [up_rd, up_rd, up_rd, if_neg (by omega), if_neg (by omega), if_neg (by omega)]
  have ht := hp.2.2.1.2.2 c1
  have m1 : (cutM k v M 20 k).toInt ≤ (ryC M k).toInt := by rw [e20, ti_max, a3]; split <;> omega
  have m2 : (ryC M k).toInt ≤ (cutM k v M 21 k).toInt := by rw [e21, ti_min, b3]; split <;> omega
  refine ⟨⟨fun k' hk' => ?_, PG_c h.2 (fun c j z => q c j (by omega) (by omega))⟩, ht.1, m1, m2⟩
  by_cases e : k' = k
  · subst e
    have ey := ryC_c (M' := cutM k' v M) (M := M) (k := k') (q 4 _ (by decide) (by omega)) (q 5 _ (by decide) (by omega)) (q 7 _ (by decide) (by omega)) (q 9 _ (by decide) (by omega))
    unfold PK tF at hp ⊢
    rw [ey, q 1 k' (by decide) (by omega), q 14 k' (by decide) (by omega), q 3 k' (by decide) (by omega), q 4 k' (by decide) (by omega), q 5 k' (by decide) (by omega), q 6 k' (by decide) (by omega), q 19 k' (by decide) (by omega)]
    exact ⟨hp.1, hp.2.1, ⟨by omega, fun z1 z2 => by rw [c1, l5] at z2; omega, fun _ => ⟨m1, m2⟩⟩, hp.2.2.2⟩
  · exact PK_c (h.1 k' hk') (fun c z => q c k' (by omega) (fun x => e x.2))
/-- what is fined: 5 for each stone -/
theorem insP_b (h12 : E.2.1 ≤ 12) (hst : ∀ k, k < E.2.1 → 0 ≤ (M 15 k).toInt ∧ (M 15 k).toInt ≤ 5) : (∃ r : Nat, 5 * r ≤ 300 ∧ (insP E i M).1 = nI (5 * r)) ∧ sm ((insP E i M).2 17) E.2.1 = sm (M 17) E.2.1 - (insP E i M).1 ∧ (∀ c j, c ≠ 17 → c ≠ 15 → (insP E i M).2 c j = M c j) := by
  unfold insP
  rw [mem_foldl]
  have l5 : (5 : Int32).toInt = 5 := rfl
  have := itd_inv (f := fun k (p : Int32 × yT) => if E.2.2 k = i then fnS k p else p) (R := fun a (p : Int32 × yT) => (∃ r : Nat, 5 * r ≤ 25 * a ∧ p.1 = nI (5 * r)) ∧ sm (p.2 17) E.2.1 = sm (M 17) E.2.1 - p.1 ∧ (∀ c j, c ≠ 17 → c ≠ 15 → p.2 c j = M c j) ∧ ∀ k, k < E.2.1 → 0 ≤ (p.2 15 k).toInt ∧ (p.2 15 k).toInt ≤ 5) E.2.1 0 (0, M) (fun a p _ ha hp => by
    obtain ⟨⟨r, r1, r2⟩, p1, p2, p3⟩ := hp
    by_cases c : E.2.2 a = i
    · rw [if_pos c]
      have hb := p3 a (by omega)
      have s1 : (5 * p.2 15 a).toInt = 5 * (p.2 15 a).toInt := by rw [ti_mul (by rw [l5]; omega) (by rw [l5]; omega), l5]
      have hw : 5 * p.2 15 a = nI (5 * (p.2 15 a).toInt.toNat) := by rw [ti_eq, s1, ti_nI (by omega)]; omega
      unfold fnS
      dsimp only
      refine ⟨⟨r + (p.2 15 a).toInt.toNat, by omega, ?_⟩, ?_, fun c' j h1 h2 => ?_, fun k hk => ?_⟩
      · rw [hw, r2, nI_add]
        congr 1
        omega
      · rw [sm_o (by decide), sm_w (show a < E.2.1 by omega), p1]
        exact rg_3 _ _ _ _
      · rw [up_rd, up_rd, if_neg (by omega), if_neg (by omega)]; exact p2 c' j h1 h2
      · rw [up_rd, up_rd]
        by_cases e : k = a
        · rw [if_pos ⟨rfl, e⟩]; decide
        · rw [if_neg (by omega), if_neg (by omega)]; exact p3 k hk
    · rw [if_neg c]
      exact ⟨⟨r, by omega, r2⟩, p1, p2, p3⟩) ⟨⟨0, by omega, rfl⟩, by rw [Int32.sub_zero], fun _ _ _ _ => rfl, hst⟩
  simp only [Nat.zero_add] at this
  obtain ⟨⟨r, r1, r2⟩, p1, p2, p3⟩ := this
  exact ⟨⟨r, by omega, r2⟩, p1, p2⟩
theorem rg_4 (a f q : Int32) : a - f - q = a - (f + q) := by grind
theorem PI_insM (h : PI E t s y M) (hi : i < E.1) (h12 : E.2.1 ≤ 12) (hst : ∀ k, k < E.2.1 → 0 ≤ (M 15 k).toInt ∧ (M 15 k).toInt ≤ 5) : PI E (t + 1) s y (insM E i M) ∧ ∃ r : Nat, 5 * r ≤ 300 ∧ (insP E i M).1 = nI (5 * r) := by
  obtain ⟨⟨r, r1, r2⟩, p1, p2⟩ := insP_b (i := i) h12 hst
  refine ⟨?_, r, r1, r2⟩
  obtain ⟨hP, h1, h2, h3, ⟨f, g, h4, h5, h6, h7⟩, h8, h9⟩ := h
  have q : ∀ c j, c ≠ 17 → c ≠ 15 → c ≠ 36 → insM E i M c j = M c j := fun c j a1 a2 a3 => by
    unfold insM
    rw [up_rd, if_neg (by omega)]; exact p2 c j a1 a2
  refine ⟨fun k' hk' => PK_c (PK_mono (hP k' hk') (by omega)) (fun c z => q c k' (by omega) (by omega) (by omega)), fun a ha => by rw [q 41 a (by decide) (by decide) (by decide)]; exact h1 a ha, ?_, ?_, ⟨f + 5 * r, g, by omega, by omega, ?_, ?_⟩, ?_, ?_⟩
  · unfold CLO at h2 ⊢
    rw [sm_c (f := insM E i M 1) (g := M 1) (fun a _ => q 1 a (by decide) (by decide) (by decide)), sm_c (f := insM E i M 37) (g := M 37) (fun a _ => q 37 a (by decide) (by decide) (by decide)), q 68 0 (by decide) (by decide) (by decide), q 69 0 (by decide) (by decide) (by decide), q 70 0 (by decide) (by decide) (by decide), q 71 0 (by decide) (by decide) (by decide), q 72 0 (by decide) (by decide) (by decide)]
    exact h2
  · rw [sm_c (f := insM E i M 18) (g := M 18) (fun a _ => q 18 a (by decide) (by decide) (by decide))]; exact h3
  · unfold insM
    rw [sm_o (by decide), p1, h6, r2, rg_4, nI_add]
  · unfold insM
    rw [sm_w hi, rg_1, sm_c (f := (insP E i M).2 36) (g := M 36) (fun a _ => p2 36 a (by decide) (by decide)), h7, r2, nI_add]
    congr 1
    omega
  · rw [q 68 0 (by decide) (by decide) (by decide)]; exact h8
  · rw [q 74 0 (by decide) (by decide) (by decide)]; exact h9
theorem PI_votM (h : PI E t s y M) : PI E t s y (votM E i M) := by
  unfold votM
  refine PI_o ?_ (by omega)
  cases mdC E M (nI i) with
  | none => exact h
  | some a =>
    dsimp only
    split
    · exact h
    · exact PI_o (PI_o h (by omega)) (by omega)
/-- not more say yes than there are -/
theorem yes_b (h12 : E.2.1 ≤ 12) {r : Option Nat} : 0 ≤ (yesC E M i r).toInt ∧ (yesC E M i r).toInt ≤ ((ce_mem E i).length : Int) := by
  have hl := mem_len E i
  have l1 : (1 : Int32).toInt = 1 := rfl
  unfold yesC
  have key : ∀ (l : List Nat) (a : Int32), 0 ≤ a.toInt → a.toInt + l.length ≤ 100 → a.toInt ≤ (l.foldl (fun s k => ysC M (flC E M i r) k s) a).toInt ∧ (l.foldl (fun s k => ysC M (flC E M i r) k s) a).toInt ≤ a.toInt + l.length := by
    intro l
    induction l with
    | nil => intro a h1 h2; exact ⟨Int.le_refl _, by simp⟩
    | cons b l ih =>
      intro a h1 h2
      rw [List.length_cons] at h2
      have hs : a.toInt ≤ (ysC M (flC E M i r) b a).toInt ∧ (ysC M (flC E M i r) b a).toInt ≤ a.toInt + 1 := by
        have sa : (a + 1).toInt = a.toInt + 1 := by rw [ti_add (by omega) (by omega), l1]
        unfold ysC
        split
        · split <;> omega
        · omega
      have := ih (ysC M (flC E M i r) b a) (by omega) (by omega)
      rw [List.foldl_cons, List.length_cons]
      omega
  have := key (ce_mem E i) 0 (by decide) (by have l0 : (0 : Int32).toInt = 0 := rfl; omega)
  have l0 : (0 : Int32).toInt = 0 := rfl
  rw [l0] at this
  omega
end
