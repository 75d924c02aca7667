/-! ===== ofSociety on the model's side ===== -/
section
variable {S S' S0 S1 : sT} {a y q k n m i : Nat} {E : eT} {X : Nat → Nat → Nat} {N N' : yT} {Z Z' : zT} {x1 x2 : Int32}
/-- the model's answer about a society -/
def socR (F : fT) (N : yT) (i : Nat) (x : Int32) : Int32 := if x = 0 then N 34 i else if x = 1 then N 35 i else if x = 2 then N 36 i else if x = 3 then N 37 i else if x = 4 then (if opR N i = 0 then 0 else 1) else if x = 5 then N 40 i else if x = 6 then szR F N (nI i) else if x = 7 then N 41 i else nxR N i F.2.1 (-1) (-1)
theorem val9 {x : Int32} (h : 0 ≤ x.toInt ∧ x.toInt ≤ 8) : x = 0 ∨ x = 1 ∨ x = 2 ∨ x = 3 ∨ x = 4 ∨ x = 5 ∨ x = 6 ∨ x = 7 ∨ x = 8 := by
  have h13 : 0 ≤ x.toInt ∧ x.toInt ≤ 13 := ⟨h.1, by omega⟩
  rcases val14 h13 with e | e | e | e | e | e | e | e | e | e | e | e | e | e <;> subst e <;> first | decide | exact absurd h.2 (by decide)
end
