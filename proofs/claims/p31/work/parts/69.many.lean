/-! ===== many on the model's side ===== -/
section
variable {S S' S0 S1 : sT} {a y q k n m i : Nat} {E : eT} {X : Nat → Nat → Nat} {N N' : yT} {Z Z' : zT} {x1 x2 : Int32}
/-- the sum of a fields' column -/
def sC (N : yT) (c d : Nat) : Int32 := itd (fun k s => s + N c k) 0 d 0
def sX (N : yT) (d : Nat) : Int32 := itd (fun k s => s + (if 0 ≤ N 17 k then 0 else 1)) 0 d 0
def sS36 (N : yT) (d : Nat) : Int32 := itd (fun i s => s + N 36 i) 0 d 0
def manR (E : eT) (N : yT) (x : Int32) : Int32 := if x = 0 then nI E.1 else if x = 1 then nI E.2.1 else if x = 2 then N 64 0 else if x = 3 then N 64 0 - N 64 0 / 210 * 210 else if x = 4 then (if N 64 0 - N 64 0 / 30 * 30 = 0 then 1 else 0) else if x = 5 then sC N 8 E.2.1 else if x = 6 then sC N 17 E.2.1 else if x = 7 then sS36 N E.1 else if x = 8 then sX N E.2.1 else if x = 9 then N 73 0 else if x = 10 then N 74 0 else sC N 15 E.2.1
theorem val12 {x : Int32} (h : 0 ≤ x.toInt ∧ x.toInt ≤ 11) : x = 0 ∨ x = 1 ∨ x = 2 ∨ x = 3 ∨ x = 4 ∨ x = 5 ∨ x = 6 ∨ x = 7 ∨ x = 8 ∨ x = 9 ∨ x = 10 ∨ x = 11 := by
  have h13 : 0 ≤ x.toInt ∧ x.toInt ≤ 13 := ⟨h.1, by omega⟩
  rcases val14 h13 with e | e | e | e | e | e | e | e | e | e | e | e | e | e <;> subst e <;> first | decide | exact absurd h.2 (by decide)
end
