/-! ===== what holds at the law's entry: all of it ===== -/
theorem e_in0 : Cond.instantiable RJx4a65c 3 ∈ lw_tbl := by decide +kernel
theorem e_in1 : Cond.instantiable RX0 8 ∈ lw_tbl := by decide +kernel
theorem e_in2 : Cond.instantiable RX1 17 ∈ lw_tbl := by decide +kernel
theorem e_in3 : Cond.instantiable RX2 10 ∈ lw_tbl := by decide +kernel
theorem e_in4 : Cond.instantiable RX3 4 ∈ lw_tbl := by decide +kernel
theorem e_in5 : Cond.instantiable RX4 3 ∈ lw_tbl := by decide +kernel
theorem e_in6 : Cond.instantiable RX5 12 ∈ lw_tbl := by decide +kernel
theorem e_in7 : Cond.instantiable RX6 2 ∈ lw_tbl := by decide +kernel
theorem e_ai : Cond.arrayClass .int ∈ lw_tbl := by decide +kernel
theorem e_env {args : Array Value} {s : State} (hts : ∀ w ∈ lw_tbl, w.before args s = true) (hfl : ∀ w ∈ e_fl, w.before args s = true) : ∃ gg : sG, gg.2.2.1 = s.heap.size ∧ gg.2.2.2 6 < s.heap.size ∧ s_Env gg s := by
  obtain ⟨c0, i0, k0⟩ := u_known (C := RJx4a65c) (T := TJx4a65c) (N := 3) (n := 3) hts mt_Jx4a65c0 (hts _ e_in0)
  obtain ⟨c1, i1, k1⟩ := u_known (C := RX0) (T := TX0) (N := 8) (n := 8) hts mt_X00 (hts _ e_in1)
  obtain ⟨c2, i2, k2⟩ := u_known (C := RX1) (T := TX1) (N := 17) (n := 17) hts mt_X10 (hts _ e_in2)
  obtain ⟨c3, i3, k3⟩ := u_known (C := RX2) (T := TX2) (N := 10) (n := 10) hts mt_X20 (hts _ e_in3)
  obtain ⟨c4, i4, k4⟩ := u_known (C := RX3) (T := TX3) (N := 4) (n := 4) hts mt_X30 (hts _ e_in4)
  obtain ⟨c5, i5, k5⟩ := u_known (C := RX4) (T := TX4) (N := 3) (n := 3) hts mt_X40 (hts _ e_in5)
  obtain ⟨c6, i6, k6⟩ := u_known (C := RX5) (T := TX5) (N := 12) (n := 12) hts mt_X50 (hts _ e_in6)
  obtain ⟨c7, i7, k7⟩ := u_known (C := RX6) (T := TX6) (N := 2) (n := 2) hts mt_X60 (hts _ e_in7)
  obtain ⟨dC, dI, hKc⟩ : ∃ (dC : Nat → ClassId) (dI : Nat → Nat → Nat), ∀ (k : Nat) (q : vw_C), vwCl[k]? = some q → u_Kn s q.1 q.2.1 q.2.2 (dC k) (dI k) := by
    refine ⟨fun k => match k with | 0 => c0 | 1 => c1 | 2 => c2 | 3 => c3 | 4 => c4 | 5 => c5 | 6 => c6 | _ => c7, fun k => match k with | 0 => i0 | 1 => i1 | 2 => i2 | 3 => i3 | 4 => i4 | 5 => i5 | 6 => i6 | _ => i7, ?_⟩
    intro k q hq
    match k, hq with
    | 0, hq => cases hq; exact k0
    | 1, hq => cases hq; exact k1
    | 2, hq => cases hq; exact k2
    | 3, hq => cases hq; exact k3
    | 4, hq => cases hq; exact k4
    | 5, hq => cases hq; exact k5
    | 6, hq => cases hq; exact k6
    | 7, hq => cases hq; exact k7
    | k + 8, hq => simp [vwCl] at hq
  obtain ⟨a0, r0, n0⟩ := e_prim (hts _ e_ai)
  obtain ⟨a1, r1, n1⟩ := e_obj (hts _ e_ao)
  have hT : ∀ i : Nat, i < 6 → ∃ t : Nat, va_Z "Subakhall" (s_tS i) "[I" (.ref t) (fun q : Nat => s.heap.size ≤ q) s s.heap ∧ va_T .int t (s_tT i).length (fun j => .int ((s_tT i).getD j 0)) (fun q : Nat => s.heap.size ≤ q) s s.heap := fun i hi => e_tab (e_t6 i hi) (hts _ (e_t1 i hi)) (hts _ e_t2) (hfl _ (e_t3 i hi)) (hfl _ (e_t4 i hi)) (fun j hj => hfl _ (e_t5 i hi j hj))
  obtain ⟨ad, had⟩ : ∃ ad : Nat → Nat, ∀ i : Nat, i < 6 → va_Z "Subakhall" (s_tS i) "[I" (.ref (ad i)) (fun q : Nat => s.heap.size ≤ q) s s.heap ∧ va_T .int (ad i) (s_tT i).length (fun j => .int ((s_tT i).getD j 0)) (fun q : Nat => s.heap.size ≤ q) s s.heap := by
    have h1 : ∀ i : Nat, ∃ t : Nat, i < 6 → va_Z "Subakhall" (s_tS i) "[I" (.ref t) (fun q : Nat => s.heap.size ≤ q) s s.heap ∧ va_T .int t (s_tT i).length (fun j => .int ((s_tT i).getD j 0)) (fun q : Nat => s.heap.size ≤ q) s s.heap := fun i => by
      by_cases hi : i < 6
      · obtain ⟨t, ht⟩ := hT i hi
        exact ⟨t, fun _ => ht⟩
      · exact ⟨0, fun h => absurd h hi⟩
    exact ⟨fun i => Classical.choose (h1 i), fun i hi => Classical.choose_spec (h1 i) hi⟩
  obtain ⟨dt, hd1, hd2⟩ := va_Tof (N := 0) (f := fun _ => .null) (by decide) (hfl _ e_d3) (va_eqt (hfl _ e_d4)) (fun j hj => absurd hj (Nat.not_lt_zero _)) (e_hA (s := s))
  obtain ⟨mi, hmi⟩ := va_Mi.of (hfl _ e_mi)
  refine ⟨((dC, dI), fun k => match k with | 0 => a0 | _ => a1, s.heap.size, fun k => if k = 6 then dt else if k = 7 then mi else ad k), rfl, Nat.not_le.mp hd2.out, ⟨hKc, fun k q hq => ?_⟩, Nat.le_refl _, fun q hq => va_Nw.of rfl (hts _ (e_nF q hq)), fun q hq => va_Nw.of rfl (hts _ (e_nM q hq)), fun i hi => ?_, va_Zref (hts _ e_d1) (hts _ e_d2) hd1 e_hA, hd2, vx_Zqof (hts _ e_u1) (hts _ e_u2) (hfl _ e_u3) e_hA, vx_Zqof (hts _ e_v1) (hts _ e_u2) (hfl _ e_v3) e_hA, fun q hq => va_Nw.of rfl (hts _ (e_cs q hq)), fun q hq => va_Nc.of (hfl _ (e_nC q hq)), fun q hq => ?_, fun x hx => va_Nw.of rfl (hts _ (e_dc x hx)), va_AO.of (hts _ e_ao), rfl, hmi, va_Dc.of (hts _ e_gc)⟩
  · match k, hq with
    | 0, hq => cases hq; exact ⟨r0, n0⟩
    | 1, hq => cases hq; exact ⟨r1, n1⟩
    | k + 2, hq => simp [s_tys] at hq
  · have e : (if i = 6 then dt else if i = 7 then mi else ad i) = ad i := by rw [if_neg (by omega), if_neg (by omega)]
    have := had i hi
    rw [← e] at this
    exact this
  · obtain ⟨a, c, cell, k, h1, -⟩ := Cond.exactly_spec (args := args) (first := s) (o := none) (s := s) (idx := []) (hfl _ (e_s2 q hq))
    exact ⟨a, vk_R.of (hts _ (e_s1 q hq)) h1⟩
