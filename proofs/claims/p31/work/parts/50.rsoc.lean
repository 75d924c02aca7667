/-! ===== a new society, the model's side ===== -/
section
variable {S S' S1 : sT} {a y q k n : Nat} {E : eT} {F : fT} {X X' : Nat → Nat → Nat} {N N' M M' : yT}
/-- the model's addresses with a new world -/
def mX (X0 : Nat) (X' : Nat → Nat → Nat) : Nat → Nat → Nat := fun f k => if f = 0 then X0 else X' f k
theorem mX_o {X0 f : Nat} (h : f ≠ 0) : mX X0 X' f = X' f := funext fun _ => if_neg h
theorem mX_0 {X0 k : Nat} : mX X0 X' 0 k = X0 := if_pos rfl
/-- the model's numbers with one more society -/
def nS_ (N : yT) (n1 n2 : Nat) (x1 x2 x3 x4 : Int32) : yT := s_up2 (s_up2 (s_up2 (s_up2 (s_up2 (fun c k => if c = 80 then 0 else wE N n1 n2 c k) 32 n1 x1) 33 n1 x2) 34 n1 x3) 35 n1 x4) 39 n1 (-1)
end
