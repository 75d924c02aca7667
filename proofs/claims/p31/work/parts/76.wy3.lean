/-! ===== wouldYield: both sides ===== -/
theorem dayN {x : Int32} {m : Nat} (hm : m < 1000) (h : 1 ≤ x.toInt ∧ x.toInt ≤ (m : Int)) : ∃ D : Nat, 1 ≤ D ∧ D ≤ m ∧ x = nI D :=
  ⟨x.toInt.toNat, by omega, by omega, by rw [ti_eq, ti_nI (by omega)]; omega⟩
section
variable {S S' S0 S1 : sT} {E : eT} {n D : Nat} {X X' : Nat → Nat → Nat} {N U V : yT} {Z : zT} {x1 x2 : Int32}
theorem LN_80 {v : Int32} (hl : LN E Z N) : LN E Z (s_up2 N 80 0 v) := fun c k hk => by
  rw [up_rd, if_neg (fun z => ?_)]
  · exact hl c k hk
  · rw [z.1, z.2, cl_g (by decide)] at hk
    exact absurd hk (by decide)
theorem LN_TL (h : LI E n Z N) (hl : LN E Z N) : TL E N (Z 1) := ⟨TS_LN h hl, hl⟩
theorem isL_b {x : Int32} (h : ¬ isw x 1 40 = 0) : 1 ≤ x.toInt ∧ x.toInt ≤ ((40 : Nat) : Int) := isw_b h
theorem c_chkD {m : Int32} (c : ¬ isw x2 1 m = 0) {Q : zT → Prop} (h : Q Z) : v_X6_checkDays E x2 m Z Q := by
  simp only [v_X6_checkDays, v_X6_checkDays_b0, e_isw, c, not_false_eq_true, false_implies, and_true, forall_const]
  exact h
end
