/-! ===== ofOwner on the model's side ===== -/
section
variable {S S' S0 S1 : sT} {a y q k n m : Nat} {E : eT} {X : Nat → Nat → Nat} {N N' : yT} {Z Z' : zT} {x1 x2 : Int32}
theorem val4 {x : Int32} (h : 0 ≤ x.toInt ∧ x.toInt ≤ 3) : x = 0 ∨ x = 1 ∨ x = 2 ∨ x = 3 := by
  have h13 : 0 ≤ x.toInt ∧ x.toInt ≤ 13 := ⟨h.1, by omega⟩
  rcases val14 h13 with e | e | e | e | e | e | e | e | e | e | e | e | e | e <;> subst e <;> first | exact Or.inl rfl | exact Or.inr (Or.inl rfl) | exact Or.inr (Or.inr (Or.inl rfl)) | exact Or.inr (Or.inr (Or.inr rfl)) | exact absurd h.2 (by decide)
end
