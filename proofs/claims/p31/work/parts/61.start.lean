/-! ===== the law's beginning ===== -/
section
variable {S S' S1 : sT} {x0 : Nat}
theorem LI_00 : LI e00 0 (fun _ _ _ => 0) (fun _ _ => 0) := by
  have no : ∀ {k : Nat}, ¬ k < 0 := fun h => absurd h (Nat.not_lt_zero _)
  have e0 : (0 : Int32).toInt = 0 := rfl
  refine ⟨fun _ _ _ => rfl, fun k hk => absurd hk no, fun k hk => absurd hk no, fun k hk => absurd hk no, ?_, ⟨by decide, by decide, fun k hk => absurd hk no, fun k hk => absurd hk no⟩, fun k hk => absurd hk no, fun k hk => absurd hk no, fun k hk => absurd hk no, ⟨fun k hk => absurd hk no, fun k hk => absurd hk no⟩, ⟨?_, fun k hk => absurd hk no, fun k hk => absurd hk no, fun k hk => absurd hk no, fun k hk => absurd hk no⟩, ?_, ?_⟩ <;> (rw [e0]; decide)
end
