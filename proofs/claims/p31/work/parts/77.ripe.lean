/-! ===== ripeIn: both sides ===== -/
section
variable {S S' S0 S1 : sT} {E : eT} {F : fT} {n D : Nat} {X X' : Nat → Nat → Nat} {N U V : yT} {Z : zT} {x1 x2 : Int32}
theorem LI_4 (h : LI E n Z N) : (∀ k, k < E.2.1 → Z 0 4 k = N 4 k) ∧ ∀ (W : yT) (k : Nat), k < E.2.1 → Z 0 4 k = 5 → cpM E (Z 0) W 4 k = 5 :=
  ⟨fun k _ => LI_ch h (by unfold Ch; decide), fun W k hk z => by rw [cpM_rd, if_pos ⟨by decide, hk⟩]; exact z⟩
end
