/-! ===== ofSociety: both sides ===== -/
section
variable {S S' S0 S1 : sT} {a y q k n m i : Nat} {E : eT} {X : Nat → Nat → Nat} {N N' : yT} {Z Z' : zT} {x1 x2 : Int32}
theorem soc_eq (h : LI E n Z N) (hi : i < E.1) (hx : 0 ≤ x2.toInt ∧ x2.toInt ≤ 8) : socR (fF E) N i x2 = socC E (Z 0) i x2 := by
  have hd := LJ_dRel h
  have c34 : Z 0 34 i = N 34 i := LI_ch h (by unfold Ch; decide)
  have c35 : Z 0 35 i = N 35 i := LI_ch h (by unfold Ch; decide)
  have c36 : Z 0 36 i = N 36 i := LI_ch h (by unfold Ch; decide)
  have c37 : Z 0 37 i = N 37 i := LI_ch h (by unfold Ch; decide)
  have c40 : Z 0 40 i = N 40 i := LI_ch h (by unfold Ch; decide)
  have c41 : Z 0 41 i = N 41 i := LI_ch h (by unfold Ch; decide)
  rcases val9 hx with e | e | e | e | e | e | e | e | e <;> subst e
  · exact c34.symm
  · exact c35.symm
  · exact c36.symm
  · exact c37.symm
  · have := op_eq CD_Ch hd hi
    show (if opR N i = 0 then (0 : Int32) else 1) = (if Z 0 35 i ≤ fmod (fmod (Z 0 64 0) 210 - Z 0 34 i) 210 then 0 else 1)
    by_cases w : opR N i = 0
    · rw [if_pos w, if_pos (this.mpr w)]
    · rw [if_neg w, if_neg (fun z => w (this.mp z))]
  · exact c40.symm
  · exact sz_eq h rfl hi
  · exact c41.symm
  · exact nx_eq CD_Ch (LJ_EW h) hd hi
end
