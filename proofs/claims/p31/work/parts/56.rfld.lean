/-! ===== a new field, the model's side ===== -/
section
variable {S S' S1 : sT} {a y q k n i : Nat} {E : eT} {F : fT} {X X' : Nat → Nat → Nat} {N N' M M' : yT}
/-- the model's numbers with one more field -/
def nF_ (N : yT) (n1 n2 : Nat) (x1 x2 x3 : Int32) : yT := s_up2 (s_up2 (s_up2 (s_up2 (s_up2 (s_up2 (fun c k => if c = 80 then 0 else wE N n1 n2 c k) 0 n2 x1) 13 n2 x2) 14 n2 x3) 9 n2 20) 17 n2 20) 21 n2 120
end
