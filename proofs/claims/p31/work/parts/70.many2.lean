/-! ===== many, and the helpers of the answers: both sides ===== -/
section
variable {S S' S0 S1 : sT} {a y q k n m i : Nat} {E : eT} {X : Nat → Nat → Nat} {N N' : yT} {Z Z' : zT} {x1 x2 : Int32}
theorem man_eq (h : LI E n Z N) (hx : 0 ≤ x1.toInt ∧ x1.toInt ≤ 11) : manR E N x1 = manC E (Z 0) x1 := by
  have c : ∀ {c k : Nat}, Ch c → Z 0 c k = N c k := fun hc => LI_ch h hc
  have c64 : Z 0 64 0 = N 64 0 := c (by unfold Ch; decide)
  have p64 := h.2.2.2.2.1
  rcases val12 hx with e | e | e | e | e | e | e | e | e | e | e | e <;> subst e
  · rfl
  · rfl
  · exact c64.symm
  · show N 64 0 - N 64 0 / 210 * 210 = fmod (Z 0 64 0) 210
    rw [← c64]
    exact (fm_pos p64.1 (by decide)).symm
  · show (if N 64 0 - N 64 0 / 30 * 30 = 0 then (1 : Int32) else 0) = (if Z 0 64 0 - Z 0 64 0 / 30 * 30 = 0 then 1 else 0)
    rw [c64]
  · show sC N 8 E.2.1 = sumF E (Z 0) 8
    unfold sC sumF
    exact itd_c (fun k s _ => by rw [show fldC E (Z 0) k 8 = Z 0 8 k from rfl, c (by unfold Ch; decide)])
  · show sC N 17 E.2.1 = sumO E (Z 0) 0
    unfold sC sumO
    exact itd_c (fun k s _ => by rw [show ownC (Z 0) k 0 = Z 0 17 k from rfl, c (by unfold Ch; decide)])
  · show sS36 N E.1 = sumS E (Z 0) 2
    unfold sS36 sumS
    exact itd_c (fun k s _ => by rw [show socC E (Z 0) k 2 = Z 0 36 k from rfl, c (by unfold Ch; decide)])
  · show sX N E.2.1 = sumO E (Z 0) 3
    unfold sX sumO
    exact itd_c (fun k s _ => by rw [show ownC (Z 0) k 3 = (if 0 ≤ Z 0 17 k then 0 else 1) from rfl, c (by unfold Ch; decide)])
  · exact (c (by unfold Ch; decide)).symm
  · exact (c (by unfold Ch; decide)).symm
  · show sC N 15 E.2.1 = sumT E (Z 0)
    unfold sC sumT
    exact itd_c (fun k s _ => by rw [c (by unfold Ch; decide)])
end
