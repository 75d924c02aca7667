/-! ===== the digest, the model's side: its loops ===== -/
section
variable {S S' S0 S1 : sT} {E : eT} {F : fT} {n D : Nat} {X X' : Nat → Nat → Nat} {N U V : yT} {Z : zT} {x1 x2 : Int32} {d v : Int64}
def dR1 (E : eT) (N : yT) (j e : Nat) (d : Int64) : Int64 := itd (fun j d => mxI d (manR E N (nI j))) j e d
def dR2 (E : eT) (N : yT) (j e : Nat) (d : Int64) : Int64 := itd (fun j d => mxI d (watR E N (nI j))) j e d
def dR3 (E : eT) (N : yT) (i j e : Nat) (d : Int64) : Int64 := itd (fun j d => mxI d (socR (fF E) N i (nI j))) j e d
def dRS (E : eT) (N : yT) (i : Nat) (d : Int64) : Int64 := mxI (dR3 E N i 0 9 d) (susR (fF E) N (nI i))
def dR4 (N : yT) (k j e : Nat) (d : Int64) : Int64 := itd (fun j d => mxI d (fldR N k (nI j))) j e d
def dR5 (N : yT) (k j e : Nat) (d : Int64) : Int64 := itd (fun j d => mxI d (ownC N k (nI j))) j e d
def dRF (E : eT) (N : yT) (k : Nat) (d : Int64) : Int64 := mxI (mxI (mxI (dR5 N k 0 4 (dR4 N k 0 14 d)) (N 20 k)) (N 21 k)) (yR (itd (fun _ => passR (fT0 E)) 0 5 (Nw N)) k)
theorem nI_b {m j : Nat} (hj : j ≤ m) (hm : m < 1000) : 0 ≤ (nI j).toInt ∧ (nI j).toInt ≤ (m : Int) := by
  rw [nI_toInt (by omega)]; omega
/-- whom a society may suspect, told by the model -/
def SUS (E : eT) (N : yT) : Prop := ∀ i, i < E.1 → (∃ k, k < E.2.1 ∧ N 0 k = nI i ∧ ¬ N 11 k = 0) → ¬ (srP (fF E) N (nI i)).2 = 0
end
