/-! ===== the digest, the model's side: the fields, and the whole ===== -/
section
variable {S S' S0 S1 : sT} {E : eT} {F : fT} {n D : Nat} {X X' : Nat → Nat → Nat} {N U V : yT} {Z : zT} {x1 x2 : Int32} {d v : Int64} {k : Nat}
theorem bu1 {a b c k m : Nat} (h : a + k * (b + 1) + c ≤ m) : a + k + k * b + c ≤ m ∧ a + k ≤ m := by
  rw [Nat.mul_succ] at h
  omega
theorem bu2 {a x y k m : Nat} (h : a + k * 0 + (x + y) ≤ m) : a + x ≤ m ∧ a + x + y ≤ m := by
  rw [Nat.mul_zero] at h
  omega
/-- behind the fields -/
def dRE (E : eT) (N : yT) (d : Int64) : Int64 := mxI (mxI d (rrR (fT0 E) (irR (fT0 E) N) 10 1 (Nw N))) (plnR (fT0 E) N 0 12)
def dRR (E : eT) (N : yT) : Int64 := dRE E N (itd (dRF E N) 0 E.2.1 (itd (dRS E N) 0 E.1 (mxI (dR2 E N 0 7 (dR1 E N 0 12 58173)) (if cloR E N = 0 then 0 else 1))))
end
