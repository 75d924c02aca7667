/-! ===== p31: the facts that isSo asks, out of what holds ===== -/
section
variable {E : eT} {M M1 N : yT} {Z : zT} {n t s k j i a : Nat} {y x : Int32}
theorem sus_in (h : susC E M i = some a) : a < E.2.1 ∧ E.2.2 a = i := by
  unfold susC at h
  split at h
  · have h2 := mem_foldl E i (fun k (p : Option Nat × Int32) => susB M (susP E M i).1 (susP E M i).2 k p) (none, 0)
    rw [h2] at h
    have := itd_inv (f := fun k (p : Option Nat × Int32) => if E.2.2 k = i then susB M (susP E M i).1 (susP E M i).2 k p else p) (R := fun _ (p : Option Nat × Int32) => ∀ b, p.1 = some b → b < E.2.1 ∧ E.2.2 b = i) E.2.1 0 (none, 0) (fun k p _ hk hp => by
      by_cases c : E.2.2 k = i
      · rw [if_pos c]
        unfold susB
        split
        · exact hp
        · intro b hb
          cases hb
          exact ⟨by omega, c⟩
      · rw [if_neg c]; exact hp) (fun b hb => by cases hb)
    exact this a h
  · cases h
theorem susR_in {F : fT} : susR F N x = -1 ∨ ∃ k, k < F.2.1 ∧ susR F N x = nI k ∧ ¬ N 11 k = 0 := by
  unfold susR
  have := itd_inv (f := srB N x (srP F N x).1 (srP F N x).2) (R := fun _ (p : Int32 × Int32) => p.1 = -1 ∨ ∃ k, k < F.2.1 ∧ p.1 = nI k ∧ ¬ N 11 k = 0) F.2.1 0 (-1, 0) (fun k p _ hk hp => by
    unfold srB
    split
    · split
      · exact hp
      · rename_i c
        split
        · exact Or.inr ⟨k, by omega, rfl, c⟩
        · exact hp
    · exact hp) (Or.inl rfl)
  exact this
theorem sus_ok (h : LJ E n M M1 N) (hn : n ≤ 1000) : ∀ i a, i < E.1 → susC E M i = some a → a < E.2.1 ∧ E.2.2 a = i ∧ ¬ M 11 a = 0 := by
  intro i a hi ha
  have h12 := (LJ_EW h).2.1
  obtain ⟨g1, g2⟩ := sus_in ha
  have hL : LI E n (fun w => if w = 0 then M else M1) N := h
  have e := (sus_eq (F := fF E) hL hn rfl hi).1
  have e : onI (susC E M i) = susR (fF E) N (nI i) := e
  rw [ha] at e
  refine ⟨g1, g2, ?_⟩
  rcases susR_in (F := fF E) (N := N) (x := nI i) with c | ⟨k, k1, k2, k3⟩
  · rw [c] at e
    exact absurd e (onI_ne (show a < 2147483648 by omega))
  · rw [k2] at e
    have k1 : k < E.2.1 := k1
    have ea : a = k := (nI_inj3 (show a < 2147483648 by omega) (show k < 2147483648 by omega)).mp e
    rw [ea, h.2.2.2.2.2.2.1 k k1]
    exact k3
theorem FK_of (h : LJ E n M M1 N) (hp : PI E t s y M) (hk : k < E.2.1) : FK M (M 14 k) k := by
  obtain ⟨l0, l1, l2, l3, l4, l5, l20, l99⟩ := lit_ti
  have l80 : (80 : Int32).toInt = 80 := rfl
  have l100 : (100 : Int32).toInt = 100 := rfl
  have l50 : (50 : Int32).toInt = 50 := rfl
  have lm : (-1 : Int32).toInt = -1 := by decide
  have hi := h.2.2.1 k hk
  have hlo := h.2.2.2.2.2.2.2.2.1 k hk
  have hg := h.2.2.2.2.2.2.2.2.2.2.1.2.2.1 k hk
  have hy := yl_eq CD_Ch (LJ_dRel h) hk
  obtain ⟨⟨⟨p0, p1⟩, p2⟩, p3, ⟨p4, p5, p6⟩, p7⟩ := hp.1 k hk
  obtain ⟨⟨a1, a2, a3, a4, a5⟩, ⟨b1, b2, b3, b4, b5, b6⟩, -, d1⟩ := hi
  have hv : 0 ≤ (M 7 k).toInt ∧ (M 7 k).toInt ≤ 100 := by
    by_cases c : (M 4 k).toInt < 2
    · rw [(hlo c).2.2, l0]; omega
    · have := (d1 (by omega)).1; omega
  have hki : 0 ≤ (M 5 k).toInt ↔ 2 ≤ (M 4 k).toInt := by
    by_cases c : (M 4 k).toInt < 2
    · rw [(hlo c).1, lm]; omega
    · have := (d1 (by omega)).1; omega
  unfold FK
  simp only [ti_lt, ti_le, l0, l2, l3, l5, l99, l80, l100, l50]
  refine ⟨⟨by omega, by omega⟩, ⟨by omega, by omega⟩, ?_, by omega, ⟨by omega, by omega⟩, ⟨by omega, by omega⟩, ⟨by omega, by omega⟩, hki, ?_, by omega, by omega, by omega⟩
  · by_cases c : 0 < (M 1 k).toInt
    · exact Or.inr (p2 c)
    · exact Or.inl (by omega)
  · by_cases c : 5 ≤ (M 4 k).toInt
    · exact Or.inl c
    · refine Or.inr ?_
      unfold ryC
      rw [if_neg (fun z => by rw [z, l5] at c; omega)]
theorem FC_of (h : LJ E n M M1 N) (hp : PI E t s y M) (hi : i < E.1) : FC M i := by
  have l0 : (0 : Int32).toInt = 0 := rfl
  have h37 := (h.2.2.2.2.2.2.2.2.2.2.1.2.1 i hi).1
  have h41 := hp.2.1 i hi
  unfold FC
  simp only [ti_lt, ti_le, l0]
  exact ⟨by omega, h41⟩
theorem fc_1 (n s f : Int32) : 20 * n + s - f - 20 * n - s = -f := by grind
theorem fc_2 (f : Int32) : -(-f) = f := by grind
theorem FG_of (h : LJ E n M M1 N) (hp : PI E t s y M) (ht : t ≤ 1000) : FG E M (nI s) := by
  have l0 : (0 : Int32).toInt = 0 := rfl
  have l27 : (27 : Int32).toInt = 27 := rfl
  obtain ⟨-, g1, g2, g3, ⟨f, g, g4, g5, g6, g7⟩, g8, g9⟩ := hp
  have h68 := h.2.2.2.2.2.2.2.2.2.2.1.1.1
  have e20 : nI (20 * E.2.1 + s) = 20 * nI E.2.1 + nI s := by
    rw [← nI_add]
    congr 1
    exact Int32.ofNat_mul 20 E.2.1
  have hf : (nI f).toInt = f := ti_nI (by omega)
  have hfg : (nI (f + g)).toInt = ((f + g : Nat) : Int) := ti_nI (by omega)
  have hn : (-nI f).toInt = -(f : Int) := by
    have : -nI f = 0 - nI f := by rw [Int32.zero_sub]
    rw [this, ti_sub (by rw [l0, hf]; omega) (by rw [l0, hf]; omega), l0, hf]
    omega
  refine ⟨clo_1 g2, g3, ?_, ?_, ?_, ?_⟩
  · rw [g6, e20, fc_1, ti_lt, l0, hn]; omega
  · rw [g6, e20, fc_1, fc_2, g7, ti_lt, hf, hfg]; omega
  · rw [ti_lt, l0]; omega
  · rw [ti_le, l27]; omega
end
