/-! ===== a new world of the model ===== -/
section
variable {D T D2 : Nat → Prop} {S S' S0 S1 : sT} {a b q k n m x y W : Nat} {r : Nat → Nat}
theorem mna_r {i : Nat} (hi : i < n) : r i ∈ (List.range n).map r := List.mem_map.mpr ⟨i, List.mem_range.mpr hi, rfl⟩
/-- an array of ints, all 0 -/
def OB (S : sT) (y n : Nat) : Prop := s_K S y = 11 ∧ s_N S y = n ∧ ∀ j, s_B S y j = 0
theorem OB.F (h : OB S y n) (F : FRM D T S S') (hd : ¬ D y) : OB S' y n := by
  obtain ⟨e, h2⟩ := F.2 y (by rw [h.1]; decide)
  obtain ⟨a1, -, -, a4, -⟩ := h2 hd
  exact ⟨e.trans h.1, a1.trans h.2.1, fun j => (a4 j).trans (h.2.2 j)⟩
theorem OB_nw : OB (s_nw S q 11 n) q n := ⟨s_nw_K, s_nw_N, fun _ => if_pos rfl⟩
/-- an outer array -/
def OA (S : sT) (y n : Nat) (r : Nat → Nat) : Prop := s_K S y = 13 ∧ s_N S y = n ∧ ∀ j, j < n → s_P S y j = some (r j)
theorem OA.F (h : OA S y n r) (F : FRM D T S S') (hd : ¬ D y) : OA S' y n r := by
  obtain ⟨e, h2⟩ := F.2 y (by rw [h.1]; decide)
  obtain ⟨a1, -, -, -, a5, -⟩ := h2 hd
  exact ⟨e.trans h.1, a1.trans h.2.1, fun j hj => (a5 j).trans (h.2.2 j hj)⟩
theorem FRM.R (F : FRM no_ no_ S S') {g : Nat} (hW : s_K S W ≠ 0) : s_R S' g W = s_R S g W := ((F.2 W hW).2 (fun z => z)).2.2.1 g (fun _ z => z)
/-- a new world's addresses -/
def nX (W q1 q2 q3 q4 q5 : Nat) (r1 r2 : Nat → Nat) (f k : Nat) : Nat := match f with
  | 1 => W
  | 2 => q4
  | 3 => q5
  | 4 => r1 k
  | 5 => r2 k
  | 6 => q1
  | 7 => q2
  | _ => q3
end
