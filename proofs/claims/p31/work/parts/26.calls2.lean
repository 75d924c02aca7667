section
variable {E : eT} {F : fT} {n : Nat} {M M1 N M' N' : yT} {Z : zT} {x1 x2 x3 : Int32} {k i : Nat}
theorem isw_b {a b : Int32} (h : ¬ isw x1 a b = 0) : a.toInt ≤ x1.toInt ∧ x1.toInt ≤ b.toInt := by
  unfold isw at h
  by_cases c1 : x1 < a
  · rw [if_pos c1] at h; exact absurd rfl h
  · rw [if_neg c1] at h
    by_cases c2 : b < x1
    · rw [if_pos c2] at h; exact absurd rfl h
    · rw [ti_lt] at c1; rw [ti_lt] at c2; omega
theorem isw_01 {a b : Int32} : isw x1 a b = 0 ∨ isw x1 a b = 1 := by
  unfold isw
  split
  · exact Or.inl rfl
  · split
    · exact Or.inl rfl
    · exact Or.inr rfl
/-! the stage changed -/
/-- cells of one field written: what the stage and its columns then are -/
theorem LJ_k {W : Nat → Prop} (h : LJ E n M M1 N) (hk : k < E.2.1) (hW : ∀ c, W c → c ≠ 0 ∧ c ≠ 11 ∧ c ≠ 13 ∧ c ≠ 14 ∧ c ≠ 22 ∧ c ≠ 23 ∧ c ≠ 32 ∧ c ≠ 33 ∧ c ≠ 37 ∧ c ≠ 64 ∧ c ≠ 66 ∧ c ≠ 68 ∧ c ≠ 73 ∧ c ≠ 34 ∧ c ≠ 38)
    (hM : ∀ c j, ¬ (W c ∧ j = k) → M' c j = M c j) (hN : ∀ c j, ¬ (W c ∧ j = k) → c ≠ 80 → N' c j = N c j) (e : ∀ c, W c → Ch c → M' c k = N' c k)
    (h5 : 2 ≤ (M' 4 k).toInt → M' 5 k = N' 5 k ∧ M' 6 k = N' 6 k ∧ M' 7 k = N' 7 k) (hF : iF n M' k) (lo : lowK M' k) : LJ E n M' M1 N' := by
  refine LJ_w (W := W) h (fun c z => by have := hW c z; omega) (fun c z j => hM c j (fun y => z y.1)) (fun c z h8 j => hN c j (fun y => z y.1) h8) (fun c z hc j => ?_) (fun j hj hs => ?_) (fun j hj => ?_) (fun i hi => ?_) (fun j hj => ?_)
  · by_cases y : j = k
    · rw [y]; exact e c z hc
    · rw [hM c j (fun x => y x.2), hN c j (fun x => y x.2) hc.2.2.2.2.2.2.2]; exact h.1 c hc j
  · by_cases y : j = k
    · subst y; exact h5 hs
    · rw [hM 4 j (fun x => y x.2)] at hs
      rw [hM 5 j (fun x => y x.2), hM 6 j (fun x => y x.2), hM 7 j (fun x => y x.2), hN 5 j (fun x => y x.2) (by decide), hN 6 j (fun x => y x.2) (by decide), hN 7 j (fun x => y x.2) (by decide)]
      exact h.2.1 j hj hs
  · by_cases y : j = k
    · subst y; exact hF
    · have := h.2.2.1 j hj
      unfold iF at this ⊢
      rw [hM 1 j (fun x => y x.2), hM 2 j (fun x => y x.2), hM 3 j (fun x => y x.2), hM 4 j (fun x => y x.2), hM 8 j (fun x => y x.2), hM 9 j (fun x => y x.2), hM 12 j (fun x => y x.2), hM 13 j (fun x => y x.2), hM 15 j (fun x => y x.2), hM 16 j (fun x => y x.2), hM 5 j (fun x => y x.2), hM 6 j (fun x => y x.2), hM 7 j (fun x => y x.2)]
      exact this
  · have w34 : ¬ W 34 := fun z => (hW 34 z).2.2.2.2.2.2.2.2.2.2.2.2.2.1 rfl
    have w38 : ¬ W 38 := fun z => (hW 38 z).2.2.2.2.2.2.2.2.2.2.2.2.2.2 rfl
    have w32 : ¬ W 32 := fun z => (hW 32 z).2.2.2.2.2.2.1 rfl
    have := h.2.2.2.1 i hi
    unfold iS at this ⊢
    rw [hM 32 i (fun x => w32 x.1), hM 34 i (fun x => w34 x.1), hM 38 i (fun x => w38 x.1)]
    exact this
  · by_cases y : j = k
    · subst y; exact lo
    · have := h.2.2.2.2.2.2.2.2.1 j hj
      unfold lowK at this ⊢
      rw [hM 4 j (fun x => y x.2), hM 5 j (fun x => y x.2), hM 6 j (fun x => y x.2), hM 7 j (fun x => y x.2)]
      exact this
def begS (k : Nat) (x : Int32) (M : yT) : yT := s_up2 (s_up2 (s_up2 (s_up2 (s_up2 (s_up2 (s_up2 M 4 k 2) 5 k x) 6 k 0) 7 k 100) 10 k 0) 20 k 0) 21 k 120
theorem begS_rd {x : Int32} {c j : Nat} (h : ¬ ((c = 4 ∨ c = 5 ∨ c = 6 ∨ c = 7 ∨ c = 10 ∨ c = 20 ∨ c = 21) ∧ j = k)) : begS k x M c j = M c j := by
  unfold begS
  simp only [up_rd]
  rw [if_neg (by omega), if_neg (by omega), if_neg (by omega), if_neg (by omega), if_neg (by omega), if_neg (by omega), if_neg (by omega)]
theorem begS_k {x : Int32} : (begS k x M 4 k = 2 ∧ begS k x M 5 k = x ∧ begS k x M 6 k = 0 ∧ begS k x M 7 k = 100) ∧ begS k x M 10 k = 0 ∧ begS k x M 20 k = 0 ∧ begS k x M 21 k = 120 := by
  unfold begS
  simp only [up_rd, Nat.reduceEqDiff, false_and, and_self, if_true, if_false, reduceIte]
theorem iF_beg {D : Int} {x : Int32} (hi : iF D M k) (hx : 0 ≤ x.toInt ∧ x.toInt ≤ 2) : iF D (begS k x M) k := by
  obtain ⟨⟨b4, b5, b6, b7⟩, -⟩ := begS_k (k := k) (x := x) (M := M)
  unfold iF at hi ⊢
  rw [b4, b5, b6, b7, begS_rd (c := 1) (by omega), begS_rd (c := 2) (by omega), begS_rd (c := 3) (by omega), begS_rd (c := 8) (by omega), begS_rd (c := 9) (by omega), begS_rd (c := 12) (by omega), begS_rd (c := 13) (by omega), begS_rd (c := 15) (by omega), begS_rd (c := 16) (by omega)]
  have l2 : (2 : Int32).toInt = 2 := rfl
  have l0 : (0 : Int32).toInt = 0 := rfl
  exact ⟨hi.1, ⟨by decide, by decide, hi.2.1.2.2⟩, hi.2.2.1, fun _ => ⟨⟨hx.1, hx.2, by decide, by decide, by decide, by decide⟩, fun z => by omega, fun _ => by decide⟩⟩
end
