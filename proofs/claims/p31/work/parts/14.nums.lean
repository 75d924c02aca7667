/-! ===== numbers: Int32 by Int ===== -/
theorem ti_r (a : Int32) : -2147483648 ≤ a.toInt ∧ a.toInt < 2147483648 := ⟨Int32.le_toInt a, Int32.toInt_lt a⟩
theorem ti_add {a b : Int32} (h1 : -2147483648 ≤ a.toInt + b.toInt) (h2 : a.toInt + b.toInt < 2147483648) : (a + b).toInt = a.toInt + b.toInt := by
  rw [Int32.toInt_add]; exact Int.bmod_eq_of_le (by omega) (by omega)
theorem ti_sub {a b : Int32} (h1 : -2147483648 ≤ a.toInt - b.toInt) (h2 : a.toInt - b.toInt < 2147483648) : (a - b).toInt = a.toInt - b.toInt := by
  rw [Int32.toInt_sub]; exact Int.bmod_eq_of_le (by omega) (by omega)
theorem ti_mul {a b : Int32} (h1 : -2147483648 ≤ a.toInt * b.toInt) (h2 : a.toInt * b.toInt < 2147483648) : (a * b).toInt = a.toInt * b.toInt := by
  rw [Int32.toInt_mul]; exact Int.bmod_eq_of_le (by omega) (by omega)
theorem ti_div {a b : Int32} (h1 : 0 ≤ a.toInt) (h2 : 0 < b.toInt) : (a / b).toInt = a.toInt / b.toInt := by
  have r := ti_r a
  have h3 : 0 ≤ a.toInt / b.toInt := Int.ediv_nonneg h1 (Int.le_of_lt h2)
  have h4 : a.toInt / b.toInt ≤ a.toInt := Int.ediv_le_self _ h1
  rw [Int32.toInt_div, Int.tdiv_eq_ediv_of_nonneg h1]
  exact Int.bmod_eq_of_le (by omega) (by omega)
theorem ti_lt {a b : Int32} : a < b ↔ a.toInt < b.toInt := Int32.lt_iff_toInt_lt
theorem ti_le {a b : Int32} : a ≤ b ↔ a.toInt ≤ b.toInt := Int32.le_iff_toInt_le
theorem ti_eq {a b : Int32} : a = b ↔ a.toInt = b.toInt := Int32.toInt_inj.symm
theorem ti_max (a b : Int32) : (s_max a b).toInt = if a.toInt < b.toInt then b.toInt else a.toInt := by
  unfold s_max
  by_cases h : a < b
  · rw [if_pos h, if_pos (ti_lt.mp h)]
  · rw [if_neg h, if_neg (fun z => h (ti_lt.mpr z))]
theorem ti_min (a b : Int32) : (s_min a b).toInt = if b.toInt < a.toInt then b.toInt else a.toInt := by
  unfold s_min
  by_cases h : b < a
  · rw [if_pos h, if_pos (ti_lt.mp h)]
  · rw [if_neg h, if_neg (fun z => h (ti_lt.mpr z))]
theorem s_min_comm (a b : Int32) : s_min a b = s_min b a := by
  rw [ti_eq, ti_min, ti_min]
  split <;> split <;> omega
theorem ti_nI {n : Nat} (h : n < 2147483648) : (nI n).toInt = n := q_nI h
theorem ti_clamp (a : Int32) : a.toNatClampNeg = a.toInt.toNat := rfl
theorem ti_60 : (60 : Int32).toInt = 60 := by decide
