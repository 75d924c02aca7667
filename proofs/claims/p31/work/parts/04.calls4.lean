
/-! ===== what makes cells, over the abstract store ===== -/
theorem s_nw_I {S : sT} {q k n g : Nat} : s_I (s_nw S q k n) g q = 0 := if_pos rfl
theorem s_nw_R {S : sT} {q k n g : Nat} : s_R (s_nw S q k n) g q = none := if_pos rfl
theorem s_nw_P {S : sT} {q k n : Nat} : s_P (s_nw S q k n) q = fun _ => none := funext fun _ => if_pos rfl
theorem s_nw_J {S : sT} {q k n : Nat} : s_J (s_nw S q k n) q = 0 := if_pos rfl
theorem s_nw_G {S : sT} {q k n : Nat} : s_G (s_nw S q k n) q = fun _ => 0 := funext fun _ => if_pos rfl
theorem s_nw_D {S : sT} {q k n : Nat} : s_D (s_nw S q k n) q = fun _ => 0 := funext fun _ => if_pos rfl
theorem s_nw_E1 {ty : Nat → ClassId} {S : sT} {q n : Nat} : s_E ty (s_nw S q 12 n) q = .inl (ty 1, n, .inr (.inr (.inr (.inr (fun _ => none))))) := by
  rw [s_E_a1 s_nw_K, s_nw_N, s_nw_P]
theorem s_u_a1 {ty : Nat → ClassId} {S : sT} {a : Nat} (h : s_K S a = 12) (j : Nat) (v : Option Nat) (b : Nat) : va_up (s_E ty S) a (.inl (ty 1, s_N S a, .inr (.inr (.inr (.inr (va_up (s_P S a) j v)))))) b = s_E ty (s_sP S a j v) b := by
  by_cases hb : b = a
  · subst hb
    rw [va_up_self, s_E_a1 (S := s_sP S b j v) h]
    have e : va_up (s_P S b) j v = s_P (s_sP S b j v) b := by
      funext j1
      rw [s_P_sP]
      by_cases hj : j1 = j
      · rw [if_pos ⟨rfl, hj⟩]; simp [va_up, hj]
      · rw [if_neg (fun z => hj z.2)]; simp [va_up, hj]
    rw [e]; rfl
  · rw [va_up_ne _ _ hb]; exact s_E_sP hb
/-- a row with the places from dp on out of another one's -/
def s_cB (S : sT) (a b : Nat) (sp dp n : Nat) : sT := s_mk (s_L S) (s_K S) (s_N S) (s_I S) (s_R S) (fun x => if x = b then va_cpy (s_B S a) (s_B S b) sp dp n else s_B S x) (s_P S) (s_J S) (s_G S) (s_D S)
def s_cP (S : sT) (a b : Nat) (sp dp n : Nat) : sT := s_mk (s_L S) (s_K S) (s_N S) (s_I S) (s_R S) (s_B S) (fun x => if x = b then va_cpy (s_P S a) (s_P S b) sp dp n else s_P S x) (s_J S) (s_G S) (s_D S)
section XM
variable {p : Program} {l : Launch} {e : Env} {R : Room} {s : State} {m : MethodId} {args : Array Value} {below : List Frame} {meth : Method} {c : Code} {H : Heap} {locs : List Loc} {cells slots : Nat} {Q : State → Prop}
variable {cc : ByteArray} {own : String} {gg : sG} {S : sT} {pc a : Nat} {ls : Array Slot} {rest : List Value}
theorem x_newq {index : Nat} (hC : x_C p s m args c cc own gg) (hR : s_Rep gg S H) (hS : va_S (s_A gg) s.heap H locs) {n : Int32} {N1 : Nat} (hw : Cond.classLink own index "java/lang/Object" ∈ wsL_law) (hn : ¬ n < 0) (hN : n.toNatClampNeg = N1) (hb : N1 * 4 ≤ 536870912) (hcells : cells + 1 ≤ R.cells) (hslots : slots + N1 ≤ R.slots) (hdg : decode cc pc = .ok (.anewarray index, 3)) (kk : ∀ (q : Nat) (H1 : Heap), q ∉ s_L S → s_fr S q → s_Rep gg (s_nw S q 12 N1) H1 → va_S (s_A gg) s.heap H1 locs → W p l e R s m args below meth c H1 locs (cells + 1) (slots + N1) Q (F0 m (pc + 3) ls (.ref q :: rest))) : W p l e R s m args below meth c H locs cells slots Q (F0 m pc ls (.int n :: rest)) := by
  refine va_newq hC.1 hC.2.1 hC.2.2.2.1 (hC.2.2.1 _ hw) hC.2.2.2.2.2.2.2.2.2.2.2.2.2.2.2.2.2.1 hC.2.2.2.2.1 hR.1 hR.2.1 hS (s_A_ge hC.2.2.2.2 rfl) hn hN hb hcells hslots hdg (fun q cA H1 hK hP hD hS1 => ?_)
  have e1 : cA = gg.2.1 1 := by
    obtain ⟨kA, comp, -, -, -, h1⟩ := (hK.2 2 (cA, .object "java/lang/Object") rfl).2
    obtain ⟨kB, comp2, -, -, -, h2⟩ := (hC.2.2.2.2.1.2 1 (gg.2.1 1, .object "java/lang/Object") rfl).2
    exact Option.some.inj (h1.symm.trans h2)
  subst e1
  obtain ⟨z1, z2, z3⟩ := hR.nw (k := 12) (n := N1) s_nw_E1.symm hP hD
  exact kk q H1 z1 z2 z3 hS1
theorem x_gsD {index : Nat} (hC : x_C p s m args c cc own gg) (hR : s_Rep gg S H) {b : Nat} (hb : s_R S 9998 0 = some b) (hS : va_S (s_A gg) s.heap H locs) (hl : Cond.fieldLink own index "java/util/ArrayList" "DEFAULTCAPACITY_EMPTY_ELEMENTDATA" "[Ljava/lang/Object;" ∈ wsL_law) (hdg : decode cc pc = .ok (.getstatic index, 3)) (kk : W p l e R s m args below meth c H locs cells slots Q (F0 m (pc + 3) ls (.ref b :: rest))) : W p l e R s m args below meth c H locs cells slots Q (F0 m pc ls rest) := by
  have e1 : b = gg.2.2.2 6 := Option.some.inj (hb.symm.trans hR.2.2.2.1.1)
  subst e1
  exact va_gets hC.1 hC.2.1 hC.2.2.2.2.2.2.2.2.2.1 hS hC.2.2.2.1 (hC.2.2.1 _ hl) (fun _ h9 => h9) hdg kk
theorem x_alenD (hC : x_C p s m args c cc own gg) (hR : s_Rep gg S H) (hS : va_S (s_A gg) s.heap H locs) (hk : s_K S a = 12 ∨ s_R S 9998 0 = some a) (hdg : decode cc pc = .ok (.arraylength, 1)) (kk : W p l e R s m args below meth c H locs cells slots Q (F0 m (pc + 1) ls (.int (nI (if s_K S a = 12 then s_N S a else 0)) :: rest))) : W p l e R s m args below meth c H locs cells slots Q (F0 m pc ls (.ref a :: rest)) := by
  by_cases h : s_K S a = 12
  · rw [if_pos h] at kk
    exact x_alen12 hC hR h hdg kk
  · rw [if_neg h] at kk
    have e1 : a = gg.2.2.2 6 := Option.some.inj ((hk.resolve_left h).symm.trans hR.2.2.2.1.1)
    subst e1
    exact va_tlen hC.1 hC.2.1 hC.2.2.2.2.2.2.2.2.2.2.1 hS rfl hdg kk
theorem x_astO {i : Int32} {v ci : Nat} {q : vw_C} {fs : List Value} (hC : x_C p s m args c cc own gg) (hR : s_Rep gg S H) (hk : s_K S a = 12) (hS : va_S (s_A gg) s.heap H locs) (hin : vp_in i (s_N S a)) (hkv : s_K S v ≠ 0) (hev : s_E gg.2.1 S v = .inr (ci, fs)) (hc : vwCl[ci]? = some q) (hcs : (q.1, "java/lang/Object") ∈ s_cs) (hdg : decode cc pc = .ok (.aastore, 1)) (kk : ∀ (H1 : Heap) (locs1 : List Loc), s_Rep gg (s_sP S a i.toNatClampNeg (some v)) H1 → va_S (s_A gg) s.heap H1 locs1 → W p l e R s m args below meth c H1 locs1 cells slots Q (F0 m (pc + 1) ls rest)) : W p l e R s m args below meth c H locs cells slots Q (F0 m pc ls (.ref v :: .int i :: .ref a :: rest)) := by
  have ha := hR.2.2.1 a (by rw [hk]; decide)
  obtain ⟨k0, hk0⟩ := s_pl_get (gg := gg) ha
  obtain ⟨k2, hk2⟩ := s_pl_get (gg := gg) (hR.2.2.1 v hkv)
  have hk1 := hk0
  rw [s_E_a1 hk] at hk1
  rw [hev] at hk2
  exact va_astqO hC.1 hC.2.1 hC.2.2.2.2.1 hR.1 hR.2.1 hS k0 1 k2 ci hk1 rfl (hC.2.2.2.2.2.2.2.2.2.2.2.2.2.1 _ hcs) hk2 hc hin hdg (fun H1 locs1 hP hD hS1 => kk H1 locs1 (hR.up ha hk0 (s_u_a1 hk _ _) rfl rfl ⟨rfl, rfl⟩ hP hD) hS1)
theorem x_copyi {index b : Nat} {sp dp n : Int32} (hC : x_C p s m args c cc own gg) (hml : c.maxLocals = ls.size) (hR : s_Rep gg S H) (hk : s_K S a = 11) (hk2 : s_K S b = 11) (hS : va_S (s_A gg) s.heap H locs) (hl : Cond.methodLink own index arraycopyName ∈ wsL_law) (hnat : Cond.native arraycopyName ∈ wsL_law) (hstat : Cond.static arraycopyName ∈ wsL_law) (hini : Cond.initialized "java/lang/System" ∈ wsL_law)
    (h1 : ¬ sp < 0) (h2 : ¬ dp < 0) (h3 : ¬ n < 0) (h4 : sp.toNatClampNeg + n.toNatClampNeg ≤ s_N S a) (h5 : dp.toNatClampNeg + n.toNatClampNeg ≤ s_N S b) (hframes : 1 ≤ R.frames) (hlocals : (rest.map fun v => v.category).sum + (nativeFrameWords "java/lang/System" "arraycopy" 5 + 11) ≤ R.locals) (hdg : decode cc pc = .ok (.invokestatic index, 3))
    (kk : ∀ (H1 : Heap) (locs1 : List Loc), s_Rep gg (s_cB S a b sp.toNatClampNeg dp.toNatClampNeg n.toNatClampNeg) H1 → va_S (s_A gg) s.heap H1 locs1 → W p l e R s m args below meth c H1 locs1 cells slots Q (F0 m (pc + 3) ls rest)) : W p l e R s m args below meth c H locs cells slots Q (F0 m pc ls (.int n :: .int dp :: .ref b :: .int sp :: .ref a :: rest)) := by
  have hb := hR.2.2.1 b (by rw [hk2]; decide)
  obtain ⟨k0, hk0⟩ := s_pl_get (gg := gg) (hR.2.2.1 a (by rw [hk]; decide))
  obtain ⟨k1, hk1⟩ := s_pl_get (gg := gg) hb
  have hk3 := hk1
  rw [s_E_a0 hk] at hk0
  rw [s_E_a0 hk2] at hk3
  refine va_copyi hC.1 hC.2.1 hml hC.2.2.2.1 (hC.2.2.1 _ hl) (hC.2.2.1 _ hnat) (hC.2.2.1 _ hstat) (hC.2.2.1 _ hini) hC.2.2.2.2.1 hR.1 hR.2.1 hS k0 k1 0 0 hk0 hk3 rfl rfl rfl h1 h2 h3 h4 h5 (fun _ _ => rfl) hframes hlocals hdg (fun H1 locs1 hP hD hS1 => kk H1 locs1 (hR.up hb hk1 (fun x => ?_) rfl rfl ⟨rfl, rfl⟩ hP hD) hS1)
  by_cases hx : x = b
  · subst hx
    rw [va_up_self, s_E_a0 (S := s_cB S a x _ _ _) hk2]
    have e2 : s_B (s_cB S a x sp.toNatClampNeg dp.toNatClampNeg n.toNatClampNeg) x = va_cpy (s_B S a) (s_B S x) sp.toNatClampNeg dp.toNatClampNeg n.toNatClampNeg := if_pos rfl
    rw [e2]; rfl
  · rw [va_up_ne _ _ hx]
    exact s_E_cg rfl rfl (fun _ => rfl) (fun _ => rfl) (if_neg hx).symm rfl rfl rfl rfl
theorem x_arrcls (hC : x_C p s m args c cc own gg) (hR : s_Rep gg S H) (hk : s_K S a = 12) : ∃ cell : Cell, H[a]? = some cell ∧ cell.vm.isStatics = false ∧ s.vm.findClass "[Ljava/lang/Object;" = some cell.cls := by
  obtain ⟨k0, hk0⟩ := s_pl_get (gg := gg) (hR.2.2.1 a (by rw [hk]; decide))
  rw [s_E_a1 hk] at hk0
  obtain ⟨kA, comp, -, -, -, h1⟩ := (hC.2.2.2.2.1.2 1 (gg.2.1 1, .object "java/lang/Object") rfl).2
  have h0 : H[a]? = some (arrV (gg.2.1 1) (s_N S a) (fun j => va_rf (s_P S a j))) := (hR.1 k0 _ hk0).trans (by rw [← vp_cell_q])
  exact ⟨_, h0, rfl, h1⟩
theorem x_ldcM {index b : Nat} (hC : x_C p s m args c cc own gg) (hR : s_Rep gg S H) (hb : s_R S 9999 0 = some b) (hl : Cond.classLink own index "[Ljava/lang/Object;" ∈ wsL_law) (hdg : decode cc pc = .ok (.ldc index, 2)) (kk : W p l e R s m args below meth c H locs cells slots Q (F0 m (pc + 2) ls (.ref b :: rest))) : W p l e R s m args below meth c H locs cells slots Q (F0 m pc ls rest) := by
  have e1 : b = gg.2.2.2 7 := Option.some.inj (hb.symm.trans hR.2.2.2.1.2)
  subst e1
  exact va_ldcM hC.1 hC.2.1 hC.2.2.2.1 (hC.2.2.1 _ hl) hC.2.2.2.2.2.2.2.2.2.2.2.2.2.2.2.2.2.2.2.1 hdg kk
theorem x_getC {index b : Nat} (hC : x_C p s m args c cc own gg) (hml : c.maxLocals = ls.size) (hR : s_Rep gg S H) (hk : s_K S a = 12) (hb : s_R S 9999 0 = some b) (hl : Cond.methodLink own index ⟨"java/lang/Object", "getClass", "()Ljava/lang/Class;"⟩ ∈ wsL_law) (hsel : Cond.selects "[Ljava/lang/Object;" ⟨"java/lang/Object", "getClass", "()Ljava/lang/Class;"⟩ ⟨"java/lang/Object", "getClass", "()Ljava/lang/Class;"⟩ ∈ wsL_law) (hinst : Cond.instanceMethod ⟨"java/lang/Object", "getClass", "()Ljava/lang/Class;"⟩ ∈ wsL_law) (hnat : Cond.native ⟨"java/lang/Object", "getClass", "()Ljava/lang/Class;"⟩ ∈ wsL_law) (hframes : 1 ≤ R.frames) (hlocals : (rest.map fun v => v.category).sum + 14 ≤ R.locals) (hdg : decode cc pc = .ok (.invokevirtual index, 3)) (kk : W p l e R s m args below meth c H locs cells slots Q (F0 m (pc + 3) ls (.ref b :: rest))) : W p l e R s m args below meth c H locs cells slots Q (F0 m pc ls (.ref a :: rest)) := by
  have e1 : b = gg.2.2.2 7 := Option.some.inj (hb.symm.trans hR.2.2.2.1.2)
  subst e1
  exact va_getC hC.1 hC.2.1 hml hC.2.2.2.1 (hC.2.2.1 _ hl) (hC.2.2.2.2.2.2.2.2.2.2.2.2.2.2.2.2.2.2.2.2).use (hC.2.2.1 _ hsel) (hC.2.2.1 _ hinst) (hC.2.2.1 _ hnat) hC.2.2.2.2.2.2.2.2.2.2.2.2.2.2.2.2.2.2.2.1 (x_arrcls hC hR hk) hframes hlocals hdg kk
theorem x_castA {index : Nat} (hC : x_C p s m args c cc own gg) (hR : s_Rep gg S H) (hk : s_K S a = 12) (hl : Cond.classLink own index "[Ljava/lang/Object;" ∈ wsL_law) (hdg : decode cc pc = .ok (.checkcast index, 3)) (kk : W p l e R s m args below meth c H locs cells slots Q (F0 m (pc + 3) ls (.ref a :: rest))) : W p l e R s m args below meth c H locs cells slots Q (F0 m pc ls (.ref a :: rest)) := by
  obtain ⟨k0, hk0⟩ := s_pl_get (gg := gg) (hR.2.2.1 a (by rw [hk]; decide))
  rw [s_E_a1 hk] at hk0
  obtain ⟨kA, comp, -, -, -, h1⟩ := (hC.2.2.2.2.1.2 1 (gg.2.1 1, .object "java/lang/Object") rfl).2
  exact va_castA hC.1 hC.2.1 hC.2.2.2.1 (hC.2.2.1 _ hl) hR.1 k0 hk0 h1 hdg kk
theorem x_copyq {index b : Nat} {sp dp n : Int32} (hC : x_C p s m args c cc own gg) (hml : c.maxLocals = ls.size) (hR : s_Rep gg S H) (hk : s_K S a = 12) (hk2 : s_K S b = 12) (hS : va_S (s_A gg) s.heap H locs) (hl : Cond.methodLink own index arraycopyName ∈ wsL_law) (hnat : Cond.native arraycopyName ∈ wsL_law) (hstat : Cond.static arraycopyName ∈ wsL_law) (hini : Cond.initialized "java/lang/System" ∈ wsL_law)
    (h1 : ¬ sp < 0) (h2 : ¬ dp < 0) (h3 : ¬ n < 0) (h4 : sp.toNatClampNeg + n.toNatClampNeg ≤ s_N S a) (h5 : dp.toNatClampNeg + n.toNatClampNeg ≤ s_N S b) (hel : ∀ i : Nat, i < n.toNatClampNeg → ∀ y : Nat, s_P S a (sp.toNatClampNeg + i) = some y → s_K S y = 3) (hframes : 1 ≤ R.frames) (hlocals : (rest.map fun v => v.category).sum + (nativeFrameWords "java/lang/System" "arraycopy" 5 + 11) ≤ R.locals) (hdg : decode cc pc = .ok (.invokestatic index, 3))
    (kk : ∀ (H1 : Heap) (locs1 : List Loc), s_Rep gg (s_cP S a b sp.toNatClampNeg dp.toNatClampNeg n.toNatClampNeg) H1 → va_S (s_A gg) s.heap H1 locs1 → W p l e R s m args below meth c H1 locs1 cells slots Q (F0 m (pc + 3) ls rest)) : W p l e R s m args below meth c H locs cells slots Q (F0 m pc ls (.int n :: .int dp :: .ref b :: .int sp :: .ref a :: rest)) := by
  have hb := hR.2.2.1 b (by rw [hk2]; decide)
  obtain ⟨k0, hk0⟩ := s_pl_get (gg := gg) (hR.2.2.1 a (by rw [hk]; decide))
  obtain ⟨k1, hk1⟩ := s_pl_get (gg := gg) hb
  have hk3 := hk1
  rw [s_E_a1 hk] at hk0
  rw [s_E_a1 hk2] at hk3
  have hcs := va_Nw.use (A := args) rfl (hC.2.2.2.2.2.2.2.2.2.2.2.2.2.1 ("Subakhall$Field", "java/lang/Object") (List.mem_of_getElem? (i := 1) rfl))
  refine va_copyq (C := RX1) hC.1 hC.2.1 hml hC.2.2.2.1 (hC.2.2.1 _ hl) (hC.2.2.1 _ hnat) (hC.2.2.1 _ hstat) (hC.2.2.1 _ hini) hC.2.2.2.2.1 hR.1 hR.2.1 hS k0 k1 1 1 hk0 hk3 rfl rfl h1 h2 h3 h4 h5 (fun i hi y hy => x_recv (q := (RX1, TX1, 17)) hC hR (by rw [hel i hi y hy]; decide) (s_E_2 (hel i hi y hy)) rfl) (fun comp c0 e1 e2 => ?_) hframes hlocals hdg (fun H1 locs1 hP hD hS1 => kk H1 locs1 (hR.up hb hk1 (fun x => ?_) rfl rfl ⟨rfl, rfl⟩ hP hD) hS1)
  · obtain ⟨c3, c4, hc3, hc4, hasg⟩ := Cond.castable_spec hcs
    cases Option.some.inj (hc3.symm.trans e2)
    cases Option.some.inj (hc4.symm.trans e1)
    exact hasg
  · by_cases hx : x = b
    · subst hx
      rw [va_up_self, s_E_a1 (S := s_cP S a x _ _ _) hk2]
      have e2 : s_P (s_cP S a x sp.toNatClampNeg dp.toNatClampNeg n.toNatClampNeg) x = va_cpy (s_P S a) (s_P S x) sp.toNatClampNeg dp.toNatClampNeg n.toNatClampNeg := if_pos rfl
      rw [e2]; rfl
    · rw [va_up_ne _ _ hx]
      exact s_E_cg rfl rfl (fun _ => rfl) (fun _ => rfl) rfl (if_neg hx).symm rfl rfl rfl
theorem x_astO2 {i : Int32} {v : Nat} (hC : x_C p s m args c cc own gg) (hR : s_Rep gg S H) (hk : s_K S a = 12) (hS : va_S (s_A gg) s.heap H locs) (hin : vp_in i (s_N S a)) (hkv : s_K S v = 3 ∨ s_K S v = 7) (hdg : decode cc pc = .ok (.aastore, 1)) (kk : ∀ (H1 : Heap) (locs1 : List Loc), s_Rep gg (s_sP S a i.toNatClampNeg (some v)) H1 → va_S (s_A gg) s.heap H1 locs1 → W p l e R s m args below meth c H1 locs1 cells slots Q (F0 m (pc + 1) ls rest)) : W p l e R s m args below meth c H locs cells slots Q (F0 m pc ls (.ref v :: .int i :: .ref a :: rest)) := by
  rcases hkv with h | h
  · exact x_astO (ci := 2) hC hR hk hS hin (by rw [h]; decide) (s_E_2 h) rfl (List.mem_of_getElem? (i := 1) rfl) hdg kk
  · exact x_astO (ci := 6) hC hR hk hS hin (by rw [h]; decide) (s_E_6 h) rfl (List.mem_of_getElem? (i := 0) rfl) hdg kk
end XM
theorem s_nw_o0 {ty : Nat → ClassId} {S : sT} {q n : Nat} : s_E ty (s_nw S q 1 n) q = .inr (0, [.int 0, .null, .int 0]) := by
  rw [s_E_0 s_nw_K]
  simp only [s_nw_I, s_nw_R, s_nw_J, va_rf]
theorem x_nw_0 {p : Program} {l : Launch} {e : Env} {R : Room} {s : State} {m : MethodId} {args : Array Value} {below : List Frame} {meth : Method} {c : Code} {H : Heap} {locs : List Loc} {cells slots : Nat} {Q : State → Prop} {cc : ByteArray} {own : String} {gg : sG} {S : sT} {pc a : Nat} {ls : Array Slot} {rest : List Value} {index : Nat} (hC : x_C p s m args c cc own gg) (hR : s_Rep gg S H) (hS : va_S (s_A gg) s.heap H locs) (hcl : Cond.classLink own index RJx4a65c ∈ wsL_law) (hinst : Cond.instantiable RJx4a65c 3 ∈ wsL_law) (hini : Cond.initialized RJx4a65c ∈ wsL_law) (hcells : cells + 1 ≤ R.cells) (hslots : slots + 3 ≤ R.slots) (hdg : decode cc pc = .ok (.new index, 3)) (kk : ∀ (q : Nat) (H1 : Heap), q ∉ s_L S → s_fr S q → s_Rep gg (s_nw S q 1 0) H1 → va_S (s_A gg) s.heap H1 locs → W p l e R s m args below meth c H1 locs (cells + 1) (slots + 3) Q (F0 m (pc + 3) ls (.ref q :: rest))) : W p l e R s m args below meth c H locs cells slots Q (F0 m pc ls rest) := by
  refine va_new (ci := 0) (fs := [.int 0, .null, .int 0]) (C := RJx4a65c) (T := TJx4a65c) (N := 3) hC.1 hC.2.1 hC.2.2.1 inlJx4a65c tyJx4a65c tyJx4a65c_ok hC.2.2.2.1 (hC.2.2.1 _ hcl) (hC.2.2.1 _ hinst) (hC.2.2.1 _ hini) hC.2.2.2.2.1 hR.1 hR.2.1 hS (s_A_ge hC.2.2.2.2 rfl) rfl (fun j hj => ?_) hcells hslots hdg (fun q H1 hP hD hS1 => ?_)
  · rcases (show j = 0 ∨ j = 1 ∨ j = 2 by omega) with rfl | rfl | rfl <;> rfl
  · obtain ⟨z1, z2, z3⟩ := hR.nw (k := 1) (n := 0) s_nw_o0.symm hP hD
    exact kk q H1 z1 z2 z3 hS1
theorem s_nw_o1 {ty : Nat → ClassId} {S : sT} {q n : Nat} : s_E ty (s_nw S q 2 n) q = .inr (1, [.int 0, .int 0, .int 0, .int 0, .int 0, .int 0, .int 0, .int 0]) := by
  rw [s_E_1 s_nw_K]
  simp only [s_nw_I, s_nw_R, s_nw_J, va_rf]
theorem x_nw_1 {p : Program} {l : Launch} {e : Env} {R : Room} {s : State} {m : MethodId} {args : Array Value} {below : List Frame} {meth : Method} {c : Code} {H : Heap} {locs : List Loc} {cells slots : Nat} {Q : State → Prop} {cc : ByteArray} {own : String} {gg : sG} {S : sT} {pc a : Nat} {ls : Array Slot} {rest : List Value} {index : Nat} (hC : x_C p s m args c cc own gg) (hR : s_Rep gg S H) (hS : va_S (s_A gg) s.heap H locs) (hcl : Cond.classLink own index RX0 ∈ wsL_law) (hinst : Cond.instantiable RX0 8 ∈ wsL_law) (hini : Cond.initialized RX0 ∈ wsL_law) (hcells : cells + 1 ≤ R.cells) (hslots : slots + 8 ≤ R.slots) (hdg : decode cc pc = .ok (.new index, 3)) (kk : ∀ (q : Nat) (H1 : Heap), q ∉ s_L S → s_fr S q → s_Rep gg (s_nw S q 2 0) H1 → va_S (s_A gg) s.heap H1 locs → W p l e R s m args below meth c H1 locs (cells + 1) (slots + 8) Q (F0 m (pc + 3) ls (.ref q :: rest))) : W p l e R s m args below meth c H locs cells slots Q (F0 m pc ls rest) := by
  refine va_new (ci := 1) (fs := [.int 0, .int 0, .int 0, .int 0, .int 0, .int 0, .int 0, .int 0]) (C := RX0) (T := TX0) (N := 8) hC.1 hC.2.1 hC.2.2.1 inlX0 tyX0 tyX0_ok hC.2.2.2.1 (hC.2.2.1 _ hcl) (hC.2.2.1 _ hinst) (hC.2.2.1 _ hini) hC.2.2.2.2.1 hR.1 hR.2.1 hS (s_A_ge hC.2.2.2.2 rfl) rfl (fun j hj => ?_) hcells hslots hdg (fun q H1 hP hD hS1 => ?_)
  · rcases (show j = 0 ∨ j = 1 ∨ j = 2 ∨ j = 3 ∨ j = 4 ∨ j = 5 ∨ j = 6 ∨ j = 7 by omega) with rfl | rfl | rfl | rfl | rfl | rfl | rfl | rfl <;> rfl
  · obtain ⟨z1, z2, z3⟩ := hR.nw (k := 2) (n := 0) s_nw_o1.symm hP hD
    exact kk q H1 z1 z2 z3 hS1
theorem s_nw_o2 {ty : Nat → ClassId} {S : sT} {q n : Nat} : s_E ty (s_nw S q 3 n) q = .inr (2, [.int 0, .null, .int 0, .int 0, .null, .null, .null, .int 0, .int 0, .int 0, .int 0, .int 0, .int 0, .int 0, .int 0, .int 0, .int 0]) := by
  rw [s_E_2 s_nw_K]
  simp only [s_nw_I, s_nw_R, s_nw_J, va_rf]
theorem x_nw_2 {p : Program} {l : Launch} {e : Env} {R : Room} {s : State} {m : MethodId} {args : Array Value} {below : List Frame} {meth : Method} {c : Code} {H : Heap} {locs : List Loc} {cells slots : Nat} {Q : State → Prop} {cc : ByteArray} {own : String} {gg : sG} {S : sT} {pc a : Nat} {ls : Array Slot} {rest : List Value} {index : Nat} (hC : x_C p s m args c cc own gg) (hR : s_Rep gg S H) (hS : va_S (s_A gg) s.heap H locs) (hcl : Cond.classLink own index RX1 ∈ wsL_law) (hinst : Cond.instantiable RX1 17 ∈ wsL_law) (hini : Cond.initialized RX1 ∈ wsL_law) (hcells : cells + 1 ≤ R.cells) (hslots : slots + 17 ≤ R.slots) (hdg : decode cc pc = .ok (.new index, 3)) (kk : ∀ (q : Nat) (H1 : Heap), q ∉ s_L S → s_fr S q → s_Rep gg (s_nw S q 3 0) H1 → va_S (s_A gg) s.heap H1 locs → W p l e R s m args below meth c H1 locs (cells + 1) (slots + 17) Q (F0 m (pc + 3) ls (.ref q :: rest))) : W p l e R s m args below meth c H locs cells slots Q (F0 m pc ls rest) := by
  refine va_new (ci := 2) (fs := [.int 0, .null, .int 0, .int 0, .null, .null, .null, .int 0, .int 0, .int 0, .int 0, .int 0, .int 0, .int 0, .int 0, .int 0, .int 0]) (C := RX1) (T := TX1) (N := 17) hC.1 hC.2.1 hC.2.2.1 inlX1 tyX1 tyX1_ok hC.2.2.2.1 (hC.2.2.1 _ hcl) (hC.2.2.1 _ hinst) (hC.2.2.1 _ hini) hC.2.2.2.2.1 hR.1 hR.2.1 hS (s_A_ge hC.2.2.2.2 rfl) rfl (fun j hj => ?_) hcells hslots hdg (fun q H1 hP hD hS1 => ?_)
  · rcases (show j = 0 ∨ j = 1 ∨ j = 2 ∨ j = 3 ∨ j = 4 ∨ j = 5 ∨ j = 6 ∨ j = 7 ∨ j = 8 ∨ j = 9 ∨ j = 10 ∨ j = 11 ∨ j = 12 ∨ j = 13 ∨ j = 14 ∨ j = 15 ∨ j = 16 by omega) with rfl | rfl | rfl | rfl | rfl | rfl | rfl | rfl | rfl | rfl | rfl | rfl | rfl | rfl | rfl | rfl | rfl <;> rfl
  · obtain ⟨z1, z2, z3⟩ := hR.nw (k := 3) (n := 0) s_nw_o2.symm hP hD
    exact kk q H1 z1 z2 z3 hS1
theorem s_nw_o3 {ty : Nat → ClassId} {S : sT} {q n : Nat} : s_E ty (s_nw S q 4 n) q = .inr (3, [.null, .null, .null, .int 0, .int 0, .int 0, .int 0, .int 0, .int 0, .int 0]) := by
  rw [s_E_3 s_nw_K]
  simp only [s_nw_I, s_nw_R, s_nw_J, va_rf]
theorem x_nw_3 {p : Program} {l : Launch} {e : Env} {R : Room} {s : State} {m : MethodId} {args : Array Value} {below : List Frame} {meth : Method} {c : Code} {H : Heap} {locs : List Loc} {cells slots : Nat} {Q : State → Prop} {cc : ByteArray} {own : String} {gg : sG} {S : sT} {pc a : Nat} {ls : Array Slot} {rest : List Value} {index : Nat} (hC : x_C p s m args c cc own gg) (hR : s_Rep gg S H) (hS : va_S (s_A gg) s.heap H locs) (hcl : Cond.classLink own index RX2 ∈ wsL_law) (hinst : Cond.instantiable RX2 10 ∈ wsL_law) (hini : Cond.initialized RX2 ∈ wsL_law) (hcells : cells + 1 ≤ R.cells) (hslots : slots + 10 ≤ R.slots) (hdg : decode cc pc = .ok (.new index, 3)) (kk : ∀ (q : Nat) (H1 : Heap), q ∉ s_L S → s_fr S q → s_Rep gg (s_nw S q 4 0) H1 → va_S (s_A gg) s.heap H1 locs → W p l e R s m args below meth c H1 locs (cells + 1) (slots + 10) Q (F0 m (pc + 3) ls (.ref q :: rest))) : W p l e R s m args below meth c H locs cells slots Q (F0 m pc ls rest) := by
  refine va_new (ci := 3) (fs := [.null, .null, .null, .int 0, .int 0, .int 0, .int 0, .int 0, .int 0, .int 0]) (C := RX2) (T := TX2) (N := 10) hC.1 hC.2.1 hC.2.2.1 inlX2 tyX2 tyX2_ok hC.2.2.2.1 (hC.2.2.1 _ hcl) (hC.2.2.1 _ hinst) (hC.2.2.1 _ hini) hC.2.2.2.2.1 hR.1 hR.2.1 hS (s_A_ge hC.2.2.2.2 rfl) rfl (fun j hj => ?_) hcells hslots hdg (fun q H1 hP hD hS1 => ?_)
  · rcases (show j = 0 ∨ j = 1 ∨ j = 2 ∨ j = 3 ∨ j = 4 ∨ j = 5 ∨ j = 6 ∨ j = 7 ∨ j = 8 ∨ j = 9 by omega) with rfl | rfl | rfl | rfl | rfl | rfl | rfl | rfl | rfl | rfl <;> rfl
  · obtain ⟨z1, z2, z3⟩ := hR.nw (k := 4) (n := 0) s_nw_o3.symm hP hD
    exact kk q H1 z1 z2 z3 hS1
theorem s_nw_o4 {ty : Nat → ClassId} {S : sT} {q n : Nat} : s_E ty (s_nw S q 5 n) q = .inr (4, [.int 0, .int 0, .int 0, .int 0]) := by
  rw [s_E_4 s_nw_K]
  simp only [s_nw_I, s_nw_R, s_nw_J, va_rf]
theorem x_nw_4 {p : Program} {l : Launch} {e : Env} {R : Room} {s : State} {m : MethodId} {args : Array Value} {below : List Frame} {meth : Method} {c : Code} {H : Heap} {locs : List Loc} {cells slots : Nat} {Q : State → Prop} {cc : ByteArray} {own : String} {gg : sG} {S : sT} {pc a : Nat} {ls : Array Slot} {rest : List Value} {index : Nat} (hC : x_C p s m args c cc own gg) (hR : s_Rep gg S H) (hS : va_S (s_A gg) s.heap H locs) (hcl : Cond.classLink own index RX3 ∈ wsL_law) (hinst : Cond.instantiable RX3 4 ∈ wsL_law) (hini : Cond.initialized RX3 ∈ wsL_law) (hcells : cells + 1 ≤ R.cells) (hslots : slots + 4 ≤ R.slots) (hdg : decode cc pc = .ok (.new index, 3)) (kk : ∀ (q : Nat) (H1 : Heap), q ∉ s_L S → s_fr S q → s_Rep gg (s_nw S q 5 0) H1 → va_S (s_A gg) s.heap H1 locs → W p l e R s m args below meth c H1 locs (cells + 1) (slots + 4) Q (F0 m (pc + 3) ls (.ref q :: rest))) : W p l e R s m args below meth c H locs cells slots Q (F0 m pc ls rest) := by
  refine va_new (ci := 4) (fs := [.int 0, .int 0, .int 0, .int 0]) (C := RX3) (T := TX3) (N := 4) hC.1 hC.2.1 hC.2.2.1 inlX3 tyX3 tyX3_ok hC.2.2.2.1 (hC.2.2.1 _ hcl) (hC.2.2.1 _ hinst) (hC.2.2.1 _ hini) hC.2.2.2.2.1 hR.1 hR.2.1 hS (s_A_ge hC.2.2.2.2 rfl) rfl (fun j hj => ?_) hcells hslots hdg (fun q H1 hP hD hS1 => ?_)
  · rcases (show j = 0 ∨ j = 1 ∨ j = 2 ∨ j = 3 by omega) with rfl | rfl | rfl | rfl <;> rfl
  · obtain ⟨z1, z2, z3⟩ := hR.nw (k := 5) (n := 0) s_nw_o4.symm hP hD
    exact kk q H1 z1 z2 z3 hS1
theorem s_nw_o5 {ty : Nat → ClassId} {S : sT} {q n : Nat} : s_E ty (s_nw S q 6 n) q = .inr (5, [.int 0, .int 0, .int 0]) := by
  rw [s_E_5 s_nw_K]
  simp only [s_nw_I, s_nw_R, s_nw_J, va_rf]
theorem x_nw_5 {p : Program} {l : Launch} {e : Env} {R : Room} {s : State} {m : MethodId} {args : Array Value} {below : List Frame} {meth : Method} {c : Code} {H : Heap} {locs : List Loc} {cells slots : Nat} {Q : State → Prop} {cc : ByteArray} {own : String} {gg : sG} {S : sT} {pc a : Nat} {ls : Array Slot} {rest : List Value} {index : Nat} (hC : x_C p s m args c cc own gg) (hR : s_Rep gg S H) (hS : va_S (s_A gg) s.heap H locs) (hcl : Cond.classLink own index RX4 ∈ wsL_law) (hinst : Cond.instantiable RX4 3 ∈ wsL_law) (hini : Cond.initialized RX4 ∈ wsL_law) (hcells : cells + 1 ≤ R.cells) (hslots : slots + 3 ≤ R.slots) (hdg : decode cc pc = .ok (.new index, 3)) (kk : ∀ (q : Nat) (H1 : Heap), q ∉ s_L S → s_fr S q → s_Rep gg (s_nw S q 6 0) H1 → va_S (s_A gg) s.heap H1 locs → W p l e R s m args below meth c H1 locs (cells + 1) (slots + 3) Q (F0 m (pc + 3) ls (.ref q :: rest))) : W p l e R s m args below meth c H locs cells slots Q (F0 m pc ls rest) := by
  refine va_new (ci := 5) (fs := [.int 0, .int 0, .int 0]) (C := RX4) (T := TX4) (N := 3) hC.1 hC.2.1 hC.2.2.1 inlX4 tyX4 tyX4_ok hC.2.2.2.1 (hC.2.2.1 _ hcl) (hC.2.2.1 _ hinst) (hC.2.2.1 _ hini) hC.2.2.2.2.1 hR.1 hR.2.1 hS (s_A_ge hC.2.2.2.2 rfl) rfl (fun j hj => ?_) hcells hslots hdg (fun q H1 hP hD hS1 => ?_)
  · rcases (show j = 0 ∨ j = 1 ∨ j = 2 by omega) with rfl | rfl | rfl <;> rfl
  · obtain ⟨z1, z2, z3⟩ := hR.nw (k := 6) (n := 0) s_nw_o5.symm hP hD
    exact kk q H1 z1 z2 z3 hS1
theorem s_nw_o6 {ty : Nat → ClassId} {S : sT} {q n : Nat} : s_E ty (s_nw S q 7 n) q = .inr (6, [.int 0, .int 0, .int 0, .null, .int 0, .int 0, .int 0, .int 0, .int 0, .int 0, .int 0, .int 0]) := by
  rw [s_E_6 s_nw_K]
  simp only [s_nw_I, s_nw_R, s_nw_J, va_rf]
theorem x_nw_6 {p : Program} {l : Launch} {e : Env} {R : Room} {s : State} {m : MethodId} {args : Array Value} {below : List Frame} {meth : Method} {c : Code} {H : Heap} {locs : List Loc} {cells slots : Nat} {Q : State → Prop} {cc : ByteArray} {own : String} {gg : sG} {S : sT} {pc a : Nat} {ls : Array Slot} {rest : List Value} {index : Nat} (hC : x_C p s m args c cc own gg) (hR : s_Rep gg S H) (hS : va_S (s_A gg) s.heap H locs) (hcl : Cond.classLink own index RX5 ∈ wsL_law) (hinst : Cond.instantiable RX5 12 ∈ wsL_law) (hini : Cond.initialized RX5 ∈ wsL_law) (hcells : cells + 1 ≤ R.cells) (hslots : slots + 12 ≤ R.slots) (hdg : decode cc pc = .ok (.new index, 3)) (kk : ∀ (q : Nat) (H1 : Heap), q ∉ s_L S → s_fr S q → s_Rep gg (s_nw S q 7 0) H1 → va_S (s_A gg) s.heap H1 locs → W p l e R s m args below meth c H1 locs (cells + 1) (slots + 12) Q (F0 m (pc + 3) ls (.ref q :: rest))) : W p l e R s m args below meth c H locs cells slots Q (F0 m pc ls rest) := by
  refine va_new (ci := 6) (fs := [.int 0, .int 0, .int 0, .null, .int 0, .int 0, .int 0, .int 0, .int 0, .int 0, .int 0, .int 0]) (C := RX5) (T := TX5) (N := 12) hC.1 hC.2.1 hC.2.2.1 inlX5 tyX5 tyX5_ok hC.2.2.2.1 (hC.2.2.1 _ hcl) (hC.2.2.1 _ hinst) (hC.2.2.1 _ hini) hC.2.2.2.2.1 hR.1 hR.2.1 hS (s_A_ge hC.2.2.2.2 rfl) rfl (fun j hj => ?_) hcells hslots hdg (fun q H1 hP hD hS1 => ?_)
  · rcases (show j = 0 ∨ j = 1 ∨ j = 2 ∨ j = 3 ∨ j = 4 ∨ j = 5 ∨ j = 6 ∨ j = 7 ∨ j = 8 ∨ j = 9 ∨ j = 10 ∨ j = 11 by omega) with rfl | rfl | rfl | rfl | rfl | rfl | rfl | rfl | rfl | rfl | rfl | rfl <;> rfl
  · obtain ⟨z1, z2, z3⟩ := hR.nw (k := 7) (n := 0) s_nw_o6.symm hP hD
    exact kk q H1 z1 z2 z3 hS1
theorem s_nw_o7 {ty : Nat → ClassId} {S : sT} {q n : Nat} : s_E ty (s_nw S q 8 n) q = .inr (7, [.null, .null]) := by
  rw [s_E_7 s_nw_K]
  simp only [s_nw_I, s_nw_R, s_nw_J, va_rf]
theorem x_nw_7 {p : Program} {l : Launch} {e : Env} {R : Room} {s : State} {m : MethodId} {args : Array Value} {below : List Frame} {meth : Method} {c : Code} {H : Heap} {locs : List Loc} {cells slots : Nat} {Q : State → Prop} {cc : ByteArray} {own : String} {gg : sG} {S : sT} {pc a : Nat} {ls : Array Slot} {rest : List Value} {index : Nat} (hC : x_C p s m args c cc own gg) (hR : s_Rep gg S H) (hS : va_S (s_A gg) s.heap H locs) (hcl : Cond.classLink own index RX6 ∈ wsL_law) (hinst : Cond.instantiable RX6 2 ∈ wsL_law) (hini : Cond.initialized RX6 ∈ wsL_law) (hcells : cells + 1 ≤ R.cells) (hslots : slots + 2 ≤ R.slots) (hdg : decode cc pc = .ok (.new index, 3)) (kk : ∀ (q : Nat) (H1 : Heap), q ∉ s_L S → s_fr S q → s_Rep gg (s_nw S q 8 0) H1 → va_S (s_A gg) s.heap H1 locs → W p l e R s m args below meth c H1 locs (cells + 1) (slots + 2) Q (F0 m (pc + 3) ls (.ref q :: rest))) : W p l e R s m args below meth c H locs cells slots Q (F0 m pc ls rest) := by
  refine va_new (ci := 7) (fs := [.null, .null]) (C := RX6) (T := TX6) (N := 2) hC.1 hC.2.1 hC.2.2.1 inlX6 tyX6 tyX6_ok hC.2.2.2.1 (hC.2.2.1 _ hcl) (hC.2.2.1 _ hinst) (hC.2.2.1 _ hini) hC.2.2.2.2.1 hR.1 hR.2.1 hS (s_A_ge hC.2.2.2.2 rfl) rfl (fun j hj => ?_) hcells hslots hdg (fun q H1 hP hD hS1 => ?_)
  · rcases (show j = 0 ∨ j = 1 by omega) with rfl | rfl <;> rfl
  · obtain ⟨z1, z2, z3⟩ := hR.nw (k := 8) (n := 0) s_nw_o7.symm hP hD
    exact kk q H1 z1 z2 z3 hS1
