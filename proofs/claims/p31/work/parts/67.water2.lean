/-! ===== water: both sides ===== -/
section
variable {S S' S0 S1 : sT} {a y q k n m i : Nat} {E : eT} {X : Nat → Nat → Nat} {N N' : yT} {Z Z' : zT} {x1 x2 : Int32}
theorem itd_c {f g : Nat → Int32 → Int32} {d : Nat} (h : ∀ k s, k < d → f k s = g k s) : itd f 0 d 0 = itd g 0 d 0 :=
  itd_rel (R := fun _ a b => a = b) d 0 0 0 (fun k a b _ hk e => by subst e; exact h k a (by omega)) rfl
theorem wat_eq (h : LI E n Z N) (hx : 0 ≤ x1.toInt ∧ x1.toInt ≤ 6) : watR E N x1 = watC E (Z 0) x1 := by
  have c : ∀ {c k : Nat}, Ch c → Z 0 c k = N c k := fun hc => LI_ch h hc
  rcases val7 hx with e | e | e | e | e | e | e <;> subst e
  · exact (c (by unfold Ch; decide)).symm
  · show sF1 E N E.2.1 = sumF E (Z 0) 1
    unfold sF1 sumF
    exact itd_c (fun k s _ => by rw [show fldC E (Z 0) k 1 = Z 0 1 k from rfl, c (by unfold Ch; decide)])
  · exact (c (by unfold Ch; decide)).symm
  · show sS37 E N E.1 = sumS E (Z 0) 3
    unfold sS37 sumS
    exact itd_c (fun k s _ => by rw [show socC E (Z 0) k 3 = Z 0 37 k from rfl, c (by unfold Ch; decide)])
  · exact (c (by unfold Ch; decide)).symm
  · exact (c (by unfold Ch; decide)).symm
  · exact (c (by unfold Ch; decide)).symm
end
