/-! ===== the law's helpers: a new society, a new field ===== -/
section
variable {x1 x2 x3 x4 : Nat} {E : eT} {n : Nat} {S S' : sT} {a b c d v : Int32}
theorem isw01 {x lo hi : Int32} : isw x lo hi = 0 ∨ isw x lo hi = 1 := by
  unfold isw
  by_cases h : x < lo
  · rw [if_pos h]; exact Or.inl rfl
  · rw [if_neg h]
    by_cases h2 : hi < x
    · rw [if_pos h2]; exact Or.inl rfl
    · rw [if_neg h2]; exact Or.inr rfl
/-- the shape after a call -/
def GR (E E' : eT) : Prop := E' = E ∨ (E'.1 = E.1 + 1 ∧ E'.2.1 = E.2.1) ∨ (E'.1 = E.1 ∧ E'.2.1 = E.2.1 + 1)
theorem OK_keepC {H H' : Nat → Nat → Nat → Nat} {E' : eT} {T : Nat → Prop} (h : OK x3 x4 H E S) (F : FRM (kD S) T S S') (hA : AL S') (hL : LD H' E') : OK x3 x4 H' E' S' := by
  obtain ⟨h1, h2, h3, h4, h5, h6⟩ := h
  have g3 := F.ar h2 (by decide) (nD_k x3 (by omega))
  have g4 := F.ar h4 (by decide) (nD_k x4 (by omega))
  exact ⟨hA, g3.1, g3.2.1.trans h3, g4.1, g4.2.1.trans h5, hL⟩
end
