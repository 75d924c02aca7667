/-! ===== isClosed on the model's side ===== -/
section
variable {S S' S0 S1 : sT} {a y q k n m i : Nat} {E : eT} {X : Nat → Nat → Nat} {N N' : yT} {Z Z' : zT} {x1 x2 : Int32}
/-- the sum of water's first answers, from 1 on -/
def sW (E : eT) (N : yT) (j : Nat) : Int32 := itd (fun k s => s + watR E N (nI k)) 1 j 0
def cloR (E : eT) (N : yT) : Int32 := if sW E N 6 = watR E N 0 then 1 else 0
theorem clo_eq (h : LI E n Z N) : cloR E N = cloC E (Z 0) := by
  have w : ∀ x : Int32, 0 ≤ x.toInt ∧ x.toInt ≤ 6 → watR E N x = watC E (Z 0) x := fun x hx => wat_eq h hx
  have e : sW E N 6 = sumF E (Z 0) 1 + Z 0 68 0 + sumS E (Z 0) 3 + (Z 0 70 0 + Z 0 71 0 + Z 0 72 0) := by
    show 0 + watR E N (nI 1) + watR E N (nI 2) + watR E N (nI 3) + watR E N (nI 4) + watR E N (nI 5) + watR E N (nI 6) = _
    rw [w (nI 1) (by decide), w (nI 2) (by decide), w (nI 3) (by decide), w (nI 4) (by decide), w (nI 5) (by decide), w (nI 6) (by decide)]
    show 0 + sumF E (Z 0) 1 + Z 0 68 0 + sumS E (Z 0) 3 + Z 0 70 0 + Z 0 71 0 + Z 0 72 0 = _
    rw [Int32.zero_add, Int32.add_assoc, Int32.add_assoc, ← Int32.add_assoc (Z 0 70 0)]
  unfold cloR cloC
  rw [e, w 0 (by decide)]
  show (if _ = Z 0 69 0 then (1 : Int32) else 0) = _
  by_cases z : Z 0 69 0 = sumF E (Z 0) 1 + Z 0 68 0 + sumS E (Z 0) 3 + (Z 0 70 0 + Z 0 71 0 + Z 0 72 0)
  · rw [if_pos z, if_pos z.symm]
  · rw [if_neg z, if_neg (fun y => z y.symm)]
end
