/-! ===== a new world of the model, whole ===== -/
section
variable {D T D2 : Nat → Prop} {S S' S0 S1 : sT} {a b q m x y W : Nat} {X X' : Nat → Nat → Nat} {F F' : fT} {N M M' : yT}
theorem FRM.ar (h : FRM D T S S') {c : Nat} (hk : s_K S y = c) (h0 : c ≠ 0) (hd : ¬ D y) : s_K S' y = c ∧ s_N S' y = s_N S y ∧ (∀ j, s_B S' y j = s_B S y j) ∧ (∀ j, s_P S' y j = s_P S y j) := by
  obtain ⟨e, h2⟩ := h.2 y (by rw [hk]; exact h0)
  obtain ⟨i1, -, -, i4, i5, -⟩ := h2 hd
  exact ⟨e.trans hk, i1, i4, i5⟩
theorem FRM.Rn (h : FRM D T S S') {g : Nat} (hk : s_K S y ≠ 0) (hd : ¬ D y) (hg : g ≠ 70) : s_R S' g y = s_R S g y := ((h.2 y hk).2 hd).2.2.1 g (fun z => absurd z hg)
/-- the kinds of the model's objects are not touched -/
def nD (D : Nat → Prop) (S : sT) : Prop := ∀ y : Nat, (s_K S y = 9 ∨ s_K S y = 10 ∨ s_K S y = 11 ∨ s_K S y = 13 ∨ s_K S y = 14 ∨ s_K S y = 15) → ¬ D y
theorem nD_no : nD no_ S := fun _ _ z => z
theorem nD_ls (hA : AL S) (ha : s_K S a = 1) : nD (ls_D S a) S := fun y hy => by
  rcases hy with h | h | h | h | h | h <;> exact ls_Dk hA ha h (by decide) (by decide) (by decide)
end
