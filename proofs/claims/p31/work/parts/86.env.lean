/-! ===== what holds at the law's entry ===== -/
/-- the start's premises, one by one -/
def e_fl : List Cond := flatC (Jvm.Cond.and given_1 narrow_1)
section
variable {args : Array Value} {s : State}
theorem e_prim {ty : FieldType} (h : (Cond.arrayClass ty).before args s = true) : ∃ cA : ClassId, ArrOfT s cA ty ∧ s.vm.findClass ("[" ++ ty.toString) = some cA := by
  obtain ⟨c, k, comp, h1, h2, h3⟩ := Cond.arrayClass_spec h
  exact ⟨c, fun n z => ⟨fun k h => (by cases h), k, h2, comp, h3⟩, h1⟩
theorem e_obj {C : String} (h : (Cond.arrayOver (.object C)).before args s = true) : ∃ cA : ClassId, ArrOfT s cA (.object C) ∧ va_RA s cA (.object C) := by
  obtain ⟨comp, c, k, h1, -, h3, h4, h5⟩ := Cond.arrayOver_spec h
  exact ⟨c, fun n z => ⟨fun k h => (by cases h), k, h3, comp, h4⟩, k, comp, h3, h4, h1, h5⟩
theorem e_hA : ∀ a : Nat, a < s.heap.size → ¬ (fun q : Nat => s.heap.size ≤ q) a := fun _ h => Nat.not_le.mpr h
theorem e_tab {n : String} {L : List Int32} (hN : L.length < 2 ^ 31) (h1 : (Cond.laysStatic "Subakhall" n "[I").before args s = true) (h2 : (Cond.initialized "Subakhall").before args s = true) (h3 : (Cond.arrayOf (.static "Subakhall" n "[I") .int).before args s = true) (h4 : (Cond.eq (.length (.static "Subakhall" n "[I")) (.int (Int32.ofNat L.length))).before args s = true) (h5 : ∀ j : Nat, j < L.length → (Cond.eq (.elem (.static "Subakhall" n "[I") (.int (Int32.ofNat j))) (.int (L.getD j 0))).before args s = true) : ∃ t : Nat, va_Z "Subakhall" n "[I" (.ref t) (fun q : Nat => s.heap.size ≤ q) s s.heap ∧ va_T .int t L.length (fun j => .int (L.getD j 0)) (fun q : Nat => s.heap.size ≤ q) s s.heap := by
  obtain ⟨t, ht, hT⟩ := va_Tof hN h3 (va_eqt h4) (f := fun j => .int (L.getD j 0)) (fun j hj => va_eqt (h5 j hj)) e_hA
  exact ⟨t, va_Zref h1 h2 ht e_hA, hT⟩
end
theorem e_t1 : ∀ i : Nat, i < 6 → Cond.laysStatic "Subakhall" (s_tS i) "[I" ∈ lw_tbl := by decide +kernel
theorem e_t2 : Cond.initialized "Subakhall" ∈ lw_tbl := by decide +kernel
theorem e_t3 : ∀ i : Nat, i < 6 → Cond.arrayOf (.static "Subakhall" (s_tS i) "[I") .int ∈ e_fl := by decide +kernel
theorem e_t4 : ∀ i : Nat, i < 6 → Cond.eq (.length (.static "Subakhall" (s_tS i) "[I")) (.int (Int32.ofNat (s_tT i).length)) ∈ e_fl := by decide +kernel
theorem e_t5 : ∀ i : Nat, i < 6 → ∀ j : Nat, j < (s_tT i).length → Cond.eq (.elem (.static "Subakhall" (s_tS i) "[I") (.int (Int32.ofNat j))) (.int ((s_tT i).getD j 0)) ∈ e_fl := by decide +kernel
theorem e_t6 : ∀ i : Nat, i < 6 → (s_tT i).length < 2 ^ 31 := by decide +kernel
theorem e_d1 : Cond.laysStatic "java/util/ArrayList" "DEFAULTCAPACITY_EMPTY_ELEMENTDATA" "[Ljava/lang/Object;" ∈ lw_tbl := by decide +kernel
theorem e_d2 : Cond.initialized "java/util/ArrayList" ∈ lw_tbl := by decide +kernel
theorem e_d3 : Cond.arrayOf (.static "java/util/ArrayList" "DEFAULTCAPACITY_EMPTY_ELEMENTDATA" "[Ljava/lang/Object;") (.object "java/lang/Object") ∈ e_fl := by decide +kernel
theorem e_d4 : Cond.eq (.length (.static "java/util/ArrayList" "DEFAULTCAPACITY_EMPTY_ELEMENTDATA" "[Ljava/lang/Object;")) (.int (Int32.ofNat 0)) ∈ e_fl := by decide +kernel
theorem e_u1 : Cond.laysStatic Bundle.tN "UNASSIGNED_STACK" Bundle.steD ∈ lw_tbl := by decide +kernel
theorem e_u2 : Cond.initialized Bundle.tN ∈ lw_tbl := by decide +kernel
theorem e_u3 : Cond.isRef (.static Bundle.tN "UNASSIGNED_STACK" Bundle.steD) ∈ e_fl := by decide +kernel
theorem e_v1 : Cond.laysStatic Bundle.tN "SUPPRESSED_SENTINEL" Bundle.listD ∈ lw_tbl := by decide +kernel
theorem e_v3 : Cond.isRef (.static Bundle.tN "SUPPRESSED_SENTINEL" Bundle.listD) ∈ e_fl := by decide +kernel
theorem e_nF : ∀ q ∈ s_nF, Cond.fieldLinkNest q.1 q.2.1 q.2.2.1 q.2.2.2.1 q.2.2.2.2.1 q.2.2.2.2.2 ∈ lw_tbl := by decide +kernel
theorem e_nM : ∀ q ∈ s_nM, Cond.methodLinkNest q.1 q.2.1 q.2.2.1 q.2.2.2 ∈ lw_tbl := by decide +kernel
theorem e_cs : ∀ q ∈ s_cs, Cond.castable q.1 q.2 ∈ lw_tbl := by decide +kernel
theorem e_nC : ∀ q ∈ s_nC, Cond.not (.castable q.1 q.2) ∈ e_fl := fun q h => absurd h List.not_mem_nil
theorem e_s1 : ∀ q ∈ s_str, Cond.stringRef "Subakhall" q.1 q.2 ∈ lw_tbl := fun q h => absurd h List.not_mem_nil
theorem e_s2 : ∀ q ∈ s_str, Cond.exactly (.string "Subakhall" q.1) "java/lang/String" ∈ e_fl := fun q h => absurd h List.not_mem_nil
theorem e_dc : ∀ x ∈ s_dc, Cond.declares x ∈ lw_tbl := fun q h => absurd h List.not_mem_nil
theorem e_ao : Cond.arrayOver (.object "java/lang/Object") ∈ lw_tbl := by decide +kernel
theorem e_mi : Cond.isRef (.mirror "[Ljava/lang/Object;") ∈ e_fl := by decide +kernel
theorem e_gc : Cond.declares ⟨"java/lang/Object", "getClass", "()Ljava/lang/Class;"⟩ ∈ lw_tbl := by decide +kernel
