/-! ===== water on the model's side ===== -/
section
variable {S S' S0 S1 : sT} {a y q k n m i : Nat} {E : eT} {X : Nat → Nat → Nat} {N N' : yT} {Z Z' : zT} {x1 x2 : Int32}
def sF1 (E : eT) (N : yT) (k : Nat) : Int32 := itd (fun k s => s + N 1 k) 0 k 0
def sS37 (E : eT) (N : yT) (k : Nat) : Int32 := itd (fun i s => s + N 37 i) 0 k 0
def watR (E : eT) (N : yT) (x : Int32) : Int32 := if x = 0 then N 69 0 else if x = 1 then sF1 E N E.2.1 else if x = 2 then N 68 0 else if x = 3 then sS37 E N E.1 else if x = 4 then N 70 0 else if x = 5 then N 71 0 else N 72 0
theorem val7 {x : Int32} (h : 0 ≤ x.toInt ∧ x.toInt ≤ 6) : x = 0 ∨ x = 1 ∨ x = 2 ∨ x = 3 ∨ x = 4 ∨ x = 5 ∨ x = 6 := by
  have h13 : 0 ≤ x.toInt ∧ x.toInt ≤ 13 := ⟨h.1, by omega⟩
  rcases val14 h13 with e | e | e | e | e | e | e | e | e | e | e | e | e | e <;> subst e <;> first | decide | exact absurd h.2 (by decide)
end
