/-! ===== p31: sums of a column, and what holds between two calls beside LJ ===== -/
/-- f 0 + .. + f (n - 1) -/
def sm (f : Nat → Int32) (n : Nat) : Int32 := itd (fun k s => s + f k) 0 n 0
theorem sm_0 (f : Nat → Int32) : sm f 0 = 0 := rfl
theorem sm_s (f : Nat → Int32) (n : Nat) : sm f (n + 1) = sm f n + f n := by
  unfold sm
  rw [itd_last, Nat.zero_add]
theorem sm_c {f g : Nat → Int32} {n : Nat} (h : ∀ k, k < n → f k = g k) : sm f n = sm g n := by
  induction n with
  | zero => rfl
  | succ n ih => rw [sm_s, sm_s, ih (fun k hk => h k (by omega)), h n (by omega)]
theorem i_ring1 (a b c d : Int32) : a + (b - c) + d = a + d + (b - c) := by
  rw [Int32.sub_eq_add_neg]; ac_rfl
theorem i_ring2 (a b c : Int32) : a + b = a + c + (b - c) := by
  have h : c + (b - c) = b := by
    rw [Int32.sub_eq_add_neg, Int32.add_comm b, ← Int32.add_assoc, Int32.add_right_neg, Int32.zero_add]
  rw [Int32.add_assoc, h]
theorem sm_up {f g : Nat → Int32} {n a : Nat} (ha : a < n) (h : ∀ k, k < n → k ≠ a → g k = f k) : sm g n = sm f n + (g a - f a) := by
  induction n with
  | zero => omega
  | succ n ih =>
    rw [sm_s, sm_s]
    by_cases e : a = n
    · subst e
      rw [sm_c (fun k hk => h k (by omega) (by omega))]
      exact i_ring2 _ _ _
    · rw [ih (by omega) (fun k hk hne => h k (by omega) hne), h n (by omega) (by omega)]
      exact i_ring1 _ _ _ _
theorem sm_w {M : yT} {c k n : Nat} {v : Int32} (hk : k < n) : sm (s_up2 M c k v c) n = sm (M c) n + (v - M c k) := by
  rw [sm_up (f := M c) (g := s_up2 M c k v c) (a := k) hk (fun j _ hj => if_neg (fun z => hj z.2))]
  rw [up_rd, if_pos ⟨rfl, rfl⟩]
theorem sm_o {M : yT} {c c' k n : Nat} {v : Int32} (h : c' ≠ c) : sm (s_up2 M c k v c') n = sm (M c') n := sm_c (fun j _ => if_neg (fun z => h z.1))
section
variable {E : eT} {M M' : yT} {t s k j i : Nat} {y : Int32}
/-- what is thought of a field's yield -/
def tF (M : yT) (k : Nat) : Prop := (M 20 k).toInt ≤ (M 21 k).toInt ∧ (2 ≤ (M 4 k).toInt → (M 4 k).toInt ≤ 4 → M 20 k = 0 ∧ M 21 k = 120) ∧ (M 4 k = 5 → (M 20 k).toInt ≤ (ryC M k).toInt ∧ (ryC M k).toInt ≤ (M 21 k).toInt)
def PK (M : yT) (t k : Nat) : Prop := ((0 ≤ (M 14 k).toInt ∧ (M 1 k).toInt ≤ (M 14 k).toInt) ∧ (0 < (M 1 k).toInt → M 3 k = 0)) ∧ ((M 4 k).toInt = 4 → 100 + 40 * (M 5 k).toInt ≤ (M 6 k).toInt) ∧ tF M k ∧ (0 ≤ (M 19 k).toInt ∧ (M 19 k).toInt ≤ 80 * (t : Int))
/-- all water that came is somewhere -/
def CLO (E : eT) (M : yT) : Prop := M 69 0 = sm (M 1) E.2.1 + M 68 0 + sm (M 37) E.1 + (M 70 0 + M 71 0 + M 72 0)
/-- coins and chests: fines f, tenths g -/
def CO (E : eT) (t s : Nat) (M : yT) : Prop := ∃ f g : Nat, f ≤ 300 * t ∧ g ≤ 8 * t ∧ sm (M 17) E.2.1 = nI (20 * E.2.1 + s) - nI f ∧ sm (M 36) E.1 = nI (f + g)
def PG (E : eT) (t s : Nat) (y : Int32) (M : yT) : Prop := (∀ i : Nat, i < E.1 → 0 ≤ (M 41 i).toInt) ∧ CLO E M ∧ sm (M 18) E.2.1 = 0 ∧ CO E t s M ∧ (M 68 0).toInt < 27 ∧ M 74 0 = y
def PI (E : eT) (t s : Nat) (y : Int32) (M : yT) : Prop := (∀ k : Nat, k < E.2.1 → PK M t k) ∧ PG E t s y M
theorem ryC_c (h4 : M' 4 k = M 4 k) (h5 : M' 5 k = M 5 k) (h7 : M' 7 k = M 7 k) (h9 : M' 9 k = M 9 k) : ryC M' k = ryC M k := by
  unfold ryC
  rw [h4, h5, h7, h9]
theorem PK_c (h : PK M t k) (hc : ∀ c, c = 1 ∨ c = 3 ∨ c = 4 ∨ c = 5 ∨ c = 6 ∨ c = 7 ∨ c = 9 ∨ c = 14 ∨ c = 19 ∨ c = 20 ∨ c = 21 → M' c k = M c k) : PK M' t k := by
  have e4 := hc 4 (by omega)
  have ey := ryC_c (M' := M') (M := M) e4 (hc 5 (by omega)) (hc 7 (by omega)) (hc 9 (by omega))
  unfold PK tF at h ⊢
  rw [ey, e4, hc 1 (by omega), hc 3 (by omega), hc 5 (by omega), hc 6 (by omega), hc 14 (by omega), hc 19 (by omega), hc 20 (by omega), hc 21 (by omega)]
  exact h
theorem PK_mono {t' : Nat} (h : PK M t k) (ht : t ≤ t') : PK M t' k := by
  obtain ⟨h1, h2, h3, h4, h5⟩ := h
  exact ⟨h1, h2, h3, h4, by omega⟩
theorem CO_mono {t' : Nat} (h : CO E t s M) (ht : t ≤ t') : CO E t' s M := by
  obtain ⟨f, g, h1, h2, h3⟩ := h
  exact ⟨f, g, by omega, by omega, h3⟩
theorem PI_mono {t' : Nat} (h : PI E t s y M) (ht : t ≤ t') : PI E t' s y M :=
  ⟨fun k hk => PK_mono (h.1 k hk) ht, h.2.1, h.2.2.1, h.2.2.2.1, CO_mono h.2.2.2.2.1 ht, h.2.2.2.2.2⟩
theorem PG_c (h : PG E t s y M) (hc : ∀ c j, c = 1 ∨ c = 17 ∨ c = 18 ∨ c = 36 ∨ c = 37 ∨ c = 41 ∨ c = 68 ∨ c = 69 ∨ c = 70 ∨ c = 71 ∨ c = 72 ∨ c = 74 → M' c j = M c j) : PG E t s y M' := by
  obtain ⟨h1, h2, h3, ⟨f, g, h4, h5, h6, h7⟩, h8, h9⟩ := h
  refine ⟨fun i hi => by rw [hc 41 i (by omega)]; exact h1 i hi, ?_, ?_, ⟨f, g, h4, h5, ?_, ?_⟩, ?_, ?_⟩
  · unfold CLO at h2 ⊢
    rw [sm_c (f := M' 1) (g := M 1) (fun k _ => hc 1 k (by omega)), sm_c (f := M' 37) (g := M 37) (fun k _ => hc 37 k (by omega)), hc 68 0 (by omega), hc 69 0 (by omega), hc 70 0 (by omega), hc 71 0 (by omega), hc 72 0 (by omega)]
    exact h2
  · rw [sm_c (f := M' 18) (g := M 18) (fun k _ => hc 18 k (by omega))]; exact h3
  · rw [sm_c (f := M' 17) (g := M 17) (fun k _ => hc 17 k (by omega))]; exact h6
  · rw [sm_c (f := M' 36) (g := M 36) (fun k _ => hc 36 k (by omega))]; exact h7
  · rw [hc 68 0 (by omega)]; exact h8
  · rw [hc 74 0 (by omega)]; exact h9
/-- a write that nothing of it sees -/
theorem PI_o {c a : Nat} {v : Int32} (h : PI E t s y M) (hc : c = 2 ∨ c = 8 ∨ c = 10 ∨ c = 11 ∨ c = 12 ∨ c = 15 ∨ c = 16 ∨ c = 34 ∨ c = 35 ∨ c = 38 ∨ c = 40 ∨ c = 73) : PI E t s y (s_up2 M c a v) :=
  ⟨fun k hk => PK_c (h.1 k hk) (fun c' z => if_neg (fun x => by omega)), PG_c h.2 (fun c' j z => if_neg (fun x => by omega))⟩
theorem PI_help {a b : Int32} (h : PI E t s y M) (hj : j < E.2.1) (hk : k < E.2.1) (ha : a = M 18 j + 1) (hb : b = s_up2 M 18 j a 18 k - 1) : PI E t s y (s_up2 (s_up2 M 18 j a) 18 k b) := by
  refine ⟨fun k' hk' => PK_c (h.1 k' hk') (fun c' z => (if_neg (fun x => by omega)).trans (if_neg (fun x => by omega))), ?_⟩
  obtain ⟨h1, h2, h3, ⟨f, g, h4, h5, h6, h7⟩, h8, h9⟩ := h.2
  have q : ∀ c i, c ≠ 18 → s_up2 (s_up2 M 18 j a) 18 k b c i = M c i := fun c i hc => (if_neg (fun x => hc x.1)).trans (if_neg (fun x => hc x.1))
  refine ⟨fun i hi => by rw [q 41 i (by decide)]; exact h1 i hi, ?_, ?_, ⟨f, g, h4, h5, ?_, ?_⟩, ?_, ?_⟩
  · unfold CLO at h2 ⊢
    rw [sm_o (by decide), sm_o (by decide), sm_o (by decide), sm_o (by decide), q 68 0 (by decide), q 69 0 (by decide), q 70 0 (by decide), q 71 0 (by decide), q 72 0 (by decide)]
    exact h2
  · rw [sm_w hk, sm_w hj, h3, hb, ha]
    have e1 : ∀ x : Int32, x - 1 - x = -1 := fun x => by
      rw [Int32.sub_eq_add_neg, Int32.sub_eq_add_neg, Int32.add_comm x, Int32.add_assoc, Int32.add_right_neg, Int32.add_zero]
    have e2 : ∀ x : Int32, x + 1 - x = 1 := fun x => by
      rw [Int32.sub_eq_add_neg, Int32.add_comm x, Int32.add_assoc, Int32.add_right_neg, Int32.add_zero]
    rw [e1, e2]; decide
  · rw [sm_o (by decide), sm_o (by decide)]; exact h6
  · rw [sm_o (by decide), sm_o (by decide)]; exact h7
  · rw [q 68 0 (by decide)]; exact h8
  · rw [q 74 0 (by decide)]; exact h9
theorem PI_helM (h : PI E t s y M) (hj : j < E.2.1) (hk : k < E.2.1) : PI E t s y (helM j k M) := PI_o (PI_help h hj hk rfl rfl) (by omega)
theorem PI_selM (h : PI E t s y M) (hk : k < E.2.1) (ht : t ≤ 1000) (h1 : 1 ≤ (M 19 k).toInt) (hs : s ≤ 1000) (h12 : E.2.1 ≤ 12) : PI E t (s + 1) y (selM k 1 M) := by
  have l1 : (1 : Int32).toInt = 1 := rfl
  have q : ∀ c i, c ≠ 17 → c ≠ 19 → selM k 1 M c i = M c i := fun c i hc hd => (if_neg (fun x => hc x.1)).trans (if_neg (fun x => hd x.1))
  refine ⟨fun k' hk' => ?_, ?_⟩
  · have hp := h.1 k' hk'
    by_cases e : k' = k
    · subst e
      have e19 : selM k' 1 M 19 k' = M 19 k' - 1 := by unfold selM; rw [up_rd, if_neg (by omega), up_rd, if_pos ⟨rfl, rfl⟩]
      have ey := ryC_c (M' := selM k' 1 M) (M := M) (k := k') (q 4 _ (by decide) (by decide)) (q 5 _ (by decide) (by decide)) (q 7 _ (by decide) (by decide)) (q 9 _ (by decide) (by decide))
      unfold PK tF at hp ⊢
      have s1 : (M 19 k' - 1).toInt = (M 19 k').toInt - 1 := by rw [ti_sub (by omega) (by omega), l1]
      rw [ey, e19, s1, q 1 _ (by decide) (by decide), q 14 _ (by decide) (by decide), q 3 _ (by decide) (by decide), q 4 _ (by decide) (by decide), q 5 _ (by decide) (by decide), q 6 _ (by decide) (by decide), q 20 _ (by decide) (by decide), q 21 _ (by decide) (by decide)]
      exact ⟨hp.1, hp.2.1, hp.2.2.1, by omega, by omega⟩
    · exact PK_c hp (fun c' z => (if_neg (fun x => e x.2)).trans (if_neg (fun x => e x.2)))
  · obtain ⟨h1, h2, h3, ⟨f, g, h4, h5, h6, h7⟩, h8, h9⟩ := h.2
    unfold selM
    refine ⟨fun i hi => by rw [show s_up2 (s_up2 M 19 k (M 19 k - 1)) 17 k (M 17 k + 1) 41 i = M 41 i from q 41 i (by decide) (by decide)]; exact h1 i hi, ?_, ?_, ⟨f, g, h4, h5, ?_, ?_⟩, ?_, ?_⟩
    · unfold CLO at h2 ⊢
      rw [sm_o (by decide), sm_o (by decide), sm_o (by decide), sm_o (by decide)]
      exact h2
    · rw [sm_o (by decide), sm_o (by decide)]; exact h3
    · rw [sm_w hk, sm_o (by decide), h6]
      have e2 : s_up2 M 19 k (M 19 k - 1) 17 k = M 17 k := if_neg (fun x => by omega)
      have e3 : M 17 k + 1 - M 17 k = 1 := by rw [Int32.sub_eq_add_neg, Int32.add_comm (M 17 k), Int32.add_assoc, Int32.add_right_neg, Int32.add_zero]
      rw [e2, e3, show 20 * E.2.1 + (s + 1) = 20 * E.2.1 + s + 1 by omega, nI_succ, Int32.sub_eq_add_neg, Int32.sub_eq_add_neg]
      ac_rfl
    · rw [sm_o (by decide), sm_o (by decide)]; exact h7
    · exact h8
    · exact h9
/-- a write at one field whose own part is shown -/
theorem PI_k {Y : yT} (h : PI E t s y M) (ho : ∀ c j, j ≠ k → Y c j = M c j) (hc : ∀ c, c = 1 ∨ c = 17 ∨ c = 18 → Y c k = M c k) (hc2 : ∀ c j, 32 ≤ c → Y c j = M c j) (hp : PK Y t k) : PI E t s y Y := by
  refine ⟨fun k' hk' => ?_, PG_c h.2 (fun c j z => ?_)⟩
  · by_cases e : k' = k
    · rw [e]; exact hp
    · exact PK_c (h.1 k' hk') (fun c _ => ho c k' e)
  · by_cases e : j = k
    · subst e
      by_cases z2 : c < 32
      · exact hc c (by omega)
      · exact hc2 c j (by omega)
    · exact ho c j e
theorem PI_pudM (h : PI E t s y M) (hk : k < E.2.1) : PI E t s y (pudM k M) := by
  have hp := h.1 k hk
  refine PI_k (k := k) h (fun c j hj => pudM_rd (fun z => hj z.2)) (fun c z => pudM_rd (by omega)) (fun c j z => pudM_rd (by omega)) ?_
  have e4 : pudM k M 4 k = 1 := by unfold pudM; simp only [up_rd, Nat.reduceEqDiff, false_and, and_self, if_true, if_false]
  have q : ∀ c, c ≠ 4 → c ≠ 2 → pudM k M c k = M c k := fun c h1 h2 => pudM_rd (by omega)
  have l1 : (1 : Int32).toInt = 1 := rfl
  unfold PK tF at hp ⊢
  rw [e4, q 1 (by decide) (by decide), q 14 (by decide) (by decide), q 3 (by decide) (by decide), q 19 (by decide) (by decide), q 20 (by decide) (by decide), q 21 (by decide) (by decide), l1]
  exact ⟨hp.1, fun z => by omega, ⟨hp.2.2.1.1, fun z => by omega, fun z => absurd z (by decide)⟩, hp.2.2.2⟩
theorem PI_begS {x : Int32} (h : PI E t s y M) (hk : k < E.2.1) : PI E t s y (begS k x M) := by
  have hp := h.1 k hk
  refine PI_k (k := k) h (fun c j hj => begS_rd (fun z => hj z.2)) (fun c z => begS_rd (by omega)) (fun c j z => begS_rd (by omega)) ?_
  obtain ⟨⟨b4, b5, b6, b7⟩, b10, b20, b21⟩ := begS_k (k := k) (x := x) (M := M)
  have l2 : (2 : Int32).toInt = 2 := rfl
  unfold PK tF at hp ⊢
  rw [b4, b20, b21, begS_rd (c := 1) (by omega), begS_rd (c := 14) (by omega), begS_rd (c := 3) (by omega), begS_rd (c := 19) (by omega), l2]
  exact ⟨hp.1, fun z => by omega, ⟨by decide, fun _ _ => ⟨rfl, rfl⟩, fun z => absurd z (by decide)⟩, hp.2.2.2⟩
end
