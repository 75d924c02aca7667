section VGM
variable {p : Program} {l : Launch} {e : Env} {R : Room} {s : State} {m : MethodId} {args : Array Value} {below : List Frame} {meth : Method} {c : Code} {H : Heap} {locs : List Loc} {cells slots : Nat} {Q : State → Prop}
variable {cc : ByteArray} {pc : Nat} {ls : Array Slot} {rest : List Value} {D : va_G} {cl : List vw_C} {A : Nat → Prop} {a : Nat} {tys : List (ClassId × FieldType)} {ws : va_W} {H0 : Heap}
theorem va_mna {X : va_W} {L : List Nat} {f : Nat → va_E} {cc : ByteArray} (hexec : p.tables.exec = Jvm.exec) (hb : c.code = cc) {own : String} {index : Nat} {ty : FieldType} {cy : ClassId} (hown : s.vm.findClass own = some m.cls) (hclink : (Cond.classLink own index ("[" ++ (FieldType.array ty).toString)).before args s = true) (hover : va_AOA ty s) (harr : (Cond.arrayClass ty).before args s = true) (hcy : s.vm.findClass (FieldType.array ty).toString = some cy)
    (hK : va_K D cl tys s) (hP : va_P D cl (X ++ va_pl L f) H) (hD : va_D A (X ++ va_pl L f)) (hS : va_S A H0 H locs) (hA : ∀ q, H0.size ≤ q → A q) {n k : Int32} {N' K' : Nat} {z : vp_A} (hn : ¬ n < 0) (hk : ¬ k < 0) (hN : n.toNatClampNeg = N') (hM : k.toNatClampNeg = K')
    (hb1 : N' * 4 ≤ 536870912) (hb2 : K' * componentBytes ty ≤ 536870912) (hb3 : K' ≤ 536870912) (hdf : fits ty (defaultValue ty) = true) (hdd : (defaultValue ty).isDefault = true) (hcells : cells + (1 + N') ≤ R.cells) (hslots : slots + (N' + N' * K') ≤ R.slots) (hz : ∀ c : ClassId, Jvm.Free.Multi.innerC c K' (defaultValue ty) = vp_cell c z) (hdg : decode cc pc = .ok (.multianewarray index 2, 4))
    (kk : ∀ (q : Nat) (r : Nat → Nat) (cA : ClassId) (H1 : Heap), (∀ i j : Nat, i < N' → j < N' → r i = r j → i = j) → (∀ i : Nat, i < N' → r i ∉ L) → va_K D cl (tys ++ [(cA, .array ty)]) s →
      va_P D cl ((X ++ [(q, .inl (cA, N', .inr (.inr (.inr (.inr (fun i => if i < N' then some (r i) else none))))))]) ++ va_pl (L ++ (List.range N').map r) (vr_up f ((List.range N').map r) (.inl (cy, z)))) H1 → va_D A ((X ++ [(q, .inl (cA, N', .inr (.inr (.inr (.inr (fun i => if i < N' then some (r i) else none))))))]) ++ va_pl (L ++ (List.range N').map r) (vr_up f ((List.range N').map r) (.inl (cy, z)))) → va_S A H0 H1 locs →
      W p l e R s m args below meth c H1 locs (cells + 1 + N') (slots + N' + N' * K') Q (F0 m (pc + 4) ls (.ref q :: rest))) : W p l e R s m args below meth c H locs cells slots Q (F0 m pc ls (.int k :: .int n :: rest)) := by
  subst hN
  subst hM
  intro T hT Xs
  obtain ⟨vm₁, cA, comp, -, fA, fC, hO, -, X', step⟩ := Xs.multianewarray2F hexec hown hclink (va_AOA.use hover) harr (g := F0 m pc ls (.int k :: .int n :: rest)) rfl (by rw [hb]; exact hdg) rfl hn hk hb1 hb2 hb3 hdf hdd hcells hslots
  have ec : some cy = some comp := hcy.symm.trans fC
  cases ec
  generalize hF : Jvm.Free.Multi.fill (T.setVm vm₁) cA cy n.toNatClampNeg k.toNatClampNeg (defaultValue ty) n.toNatClampNeg = F at X' step
  have hTh : (T.setVm vm₁).heap = H := hT
  obtain ⟨f1, f2, -, -⟩ := Jvm.Free.Multi.fill_facts (T.setVm vm₁) cA cy n.toNatClampNeg k.toNatClampNeg (defaultValue ty) n.toNatClampNeg
  rw [hF, hTh] at f1 f2
  have hold : ∀ x : Nat, x < H.size → F.heap[x]? = H[x]? := fun x hx => by
    have := Jvm.Free.Multi.fill_old (T.setVm vm₁) cA cy n.toNatClampNeg k.toNatClampNeg (defaultValue ty) (a := x) (by rw [hTh]; exact hx) n.toNatClampNeg
    rw [hF, hTh] at this
    exact this
  have hrow : ∀ j : Nat, j < n.toNatClampNeg → F.heap[H.size + 1 + j]? = some (vp_cell cy z) := fun j hj => by
    have := Jvm.Free.Multi.fill_inner (T.setVm vm₁) cA cy n.toNatClampNeg k.toNatClampNeg (defaultValue ty) n.toNatClampNeg j hj
    rw [hF, hTh, hz] at this
    exact this
  have hout : Jvm.Free.Multi.outerC cA n.toNatClampNeg H.size n.toNatClampNeg = vp_cell cA (n.toNatClampNeg, .inr (.inr (.inr (.inr (fun i => if i < n.toNatClampNeg then some (H.size + 1 + i) else none))))) := by
    rw [vp_cell_q]
    exact vr_outer cA n.toNatClampNeg H.size n.toNatClampNeg
  rw [hout] at f2
  have hlt : ∀ a, a ∈ L → a < H.size := fun a ha => by
    obtain ⟨k9, hk9⟩ := va_pl_get (X := X) (f := f) ha
    exact (hP k9 _ hk9).lt
  have hnl : ∀ i : Nat, i < n.toNatClampNeg → H.size + 1 + i ∉ L := fun i _ h => by
    have := hlt _ h
    omega
  have hnm : ∀ a, a ∈ (List.range n.toNatClampNeg).map (fun i => H.size + 1 + i) → a ∉ L := fun a ha h => by
    obtain ⟨i, -, rfl⟩ := List.mem_map.mp ha
    have := hlt _ h
    omega
  have hP0 : va_P D cl (X ++ va_pl L f) F.heap := hP.kept (fun k9 x hx => hold x.1 ((hP k9 x hx).lt))
  have hP1 : va_P D cl ((X ++ va_pl L f) ++ [(H.size, .inl (cA, n.toNatClampNeg, .inr (.inr (.inr (.inr (fun i => if i < n.toNatClampNeg then some (H.size + 1 + i) else none))))))]) F.heap := hP0.app (fun k9 x hx => by
    have h0 : k9 < 1 := (List.getElem?_eq_some_iff.mp hx).1
    rw [show k9 = 0 by omega] at hx
    cases hx
    exact f2)
  have hP2 : va_P D cl (((X ++ va_pl L f) ++ [(H.size, .inl (cA, n.toNatClampNeg, .inr (.inr (.inr (.inr (fun i => if i < n.toNatClampNeg then some (H.size + 1 + i) else none))))))]) ++ ((List.range n.toNatClampNeg).map (fun i => H.size + 1 + i)).map (fun a => (a, .inl (cy, z)))) F.heap := hP1.app (fun k9 x hx => by
    obtain ⟨a, ha, rfl⟩ := List.mem_map.mp (List.mem_of_getElem? hx)
    obtain ⟨i, hi, rfl⟩ := List.mem_map.mp ha
    exact hrow i (List.mem_range.mp hi))
  have hD2 : va_D A (((X ++ va_pl L f) ++ [(H.size, .inl (cA, n.toNatClampNeg, .inr (.inr (.inr (.inr (fun i => if i < n.toNatClampNeg then some (H.size + 1 + i) else none))))))]) ++ ((List.range n.toNatClampNeg).map (fun i => H.size + 1 + i)).map (fun a => (a, .inl (cy, z)))) := by
    have hD1 := hD.push (e := .inl (cA, n.toNatClampNeg, .inr (.inr (.inr (.inr (fun i => if i < n.toNatClampNeg then some (H.size + 1 + i) else none)))))) hP rfl (hA _ hS.1)
    generalize hW1 : (X ++ va_pl L f) ++ [(H.size, .inl (cA, n.toNatClampNeg, .inr (.inr (.inr (.inr (fun i => if i < n.toNatClampNeg then some (H.size + 1 + i) else none))))))] = W1 at hD1 hP1 ⊢
    have hle : ∀ (k9 : Nat) (x : Nat × va_E), W1[k9]? = some x → x.1 ≤ H.size := fun k9 x hx => by
      rw [← hW1] at hx
      by_cases hl : k9 < (X ++ va_pl L f).length
      · rw [List.getElem?_append_left hl] at hx
        exact Nat.le_of_lt ((hP k9 x hx).lt)
      · rw [List.getElem?_append_right (by omega)] at hx
        have h0 : k9 - (X ++ va_pl L f).length < 1 := (List.getElem?_eq_some_iff.mp hx).1
        rw [show k9 - (X ++ va_pl L f).length = 0 by omega] at hx
        cases hx
        exact Nat.le_refl _
    have hr : ∀ (k9 : Nat) (x : Nat × va_E), (((List.range n.toNatClampNeg).map (fun i => H.size + 1 + i)).map (fun a => ((a, .inl (cy, z)) : Nat × va_E)))[k9]? = some x → x.1 = H.size + 1 + k9 := fun k9 x hx => by
      rw [List.getElem?_map, List.getElem?_map] at hx
      by_cases h9 : k9 < n.toNatClampNeg
      · rw [List.getElem?_range h9] at hx
        cases hx
        rfl
      · have hn0 : (List.range n.toNatClampNeg)[k9]? = none := List.getElem?_eq_none (by rw [List.length_range]; omega)
        rw [hn0] at hx
        cases hx
    refine ⟨fun i j x y hi hj hxy => ?_, fun k9 x hx => ?_⟩
    · by_cases h1 : i < W1.length <;> by_cases h2 : j < W1.length
      · rw [List.getElem?_append_left h1] at hi
        rw [List.getElem?_append_left h2] at hj
        exact hD1.1 i j x y hi hj hxy
      · rw [List.getElem?_append_left h1] at hi
        rw [List.getElem?_append_right (by omega)] at hj
        have := hle _ _ hi
        have := hr _ _ hj
        omega
      · rw [List.getElem?_append_right (by omega)] at hi
        rw [List.getElem?_append_left h2] at hj
        have := hle _ _ hj
        have := hr _ _ hi
        omega
      · rw [List.getElem?_append_right (by omega)] at hi hj
        have := hr _ _ hi
        have := hr _ _ hj
        omega
    · by_cases h1 : k9 < W1.length
      · rw [List.getElem?_append_left h1] at hx
        exact hD1.2 k9 x hx
      · rw [List.getElem?_append_right (by omega)] at hx
        have := hr _ _ hx
        exact hA _ (by have := hS.1; omega)
  have hAr : ArrOfT s cA (.array ty) := fun N9 z9 => by
    obtain ⟨-, k9, hk9, cm9, hkk9⟩ := (hO 0 0 0).1
    exact ⟨(fun q hq => by cases hq), k9, hk9, cm9, hkk9⟩
  have hK2 : va_K D cl (tys ++ [(cA, .array ty)]) s := ⟨hK.1, fun k9 x hx => by
    by_cases hl : k9 < tys.length
    · rw [List.getElem?_append_left hl] at hx
      exact hK.2 k9 x hx
    · rw [List.getElem?_append_right (by omega)] at hx
      have h0 : k9 - tys.length < 1 := (List.getElem?_eq_some_iff.mp hx).1
      rw [show k9 - tys.length = 0 by omega] at hx
      cases hx
      exact ⟨hAr, fA⟩⟩
  obtain ⟨t, a1, b1⟩ := kk H.size (fun i => H.size + 1 + i) cA F.heap (fun i j _ _ h => by have h9 : H.size + 1 + i = H.size + 1 + j := h; omega) hnl hK2 (by rw [← vr_rows hnm]; exact vr_lay hP2) (by rw [← vr_rows hnm]; exact vr_layD hD2) ⟨by rw [f1]; have := hS.1; omega, fun x h1 h2 => (hold x (Nat.lt_of_lt_of_le h1 hS.1)).trans (hS.2.1 x h1 h2), hS.2.2⟩ F rfl X'
  refine ⟨t, step t ?_, b1⟩
  have e : T.heap.size = H.size := by rw [hT]
  rw [e]
  exact a1
end VGM

/-! ===== what makes cells, over the abstract store ===== -/
theorem s_nw_I {S : sT} {q k n g : Nat} : s_I (s_nw S q k n) g q = 0 := if_pos rfl
theorem s_nw_R {S : sT} {q k n g : Nat} : s_R (s_nw S q k n) g q = none := if_pos rfl
theorem s_nw_P {S : sT} {q k n : Nat} : s_P (s_nw S q k n) q = fun _ => none := funext fun _ => if_pos rfl
theorem s_nw_J {S : sT} {q k n : Nat} : s_J (s_nw S q k n) q = 0 := if_pos rfl
theorem s_nw_G {S : sT} {q k n : Nat} : s_G (s_nw S q k n) q = fun _ => 0 := funext fun _ => if_pos rfl
theorem s_nw_D {S : sT} {q k n : Nat} : s_D (s_nw S q k n) q = fun _ => 0 := funext fun _ => if_pos rfl
theorem s_nw_E1 {ty : Nat → ClassId} {S : sT} {q n : Nat} : s_E ty (s_nw S q 12 n) q = .inl (ty 1, n, .inr (.inr (.inr (.inr (fun _ => none))))) := by
  rw [s_E_a1 s_nw_K, s_nw_N, s_nw_P]
theorem s_nw_E3 {ty : Nat → ClassId} {S : sT} {q n : Nat} : s_E ty (s_nw S q 14 n) q = .inl (ty 3, n, .inr (.inl (fun _ => 0))) := by
  rw [s_E_a3 s_nw_K, s_nw_N, s_nw_G]
theorem s_nw_E4 {ty : Nat → ClassId} {S : sT} {q n : Nat} : s_E ty (s_nw S q 15 n) q = .inl (ty 4, n, .inr (.inr (.inr (.inl (fun _ => 0))))) := by
  rw [s_E_a4 s_nw_K, s_nw_N, s_nw_D]
theorem s_u_a1 {ty : Nat → ClassId} {S : sT} {a : Nat} (h : s_K S a = 12) (j : Nat) (v : Option Nat) (b : Nat) : va_up (s_E ty S) a (.inl (ty 1, s_N S a, .inr (.inr (.inr (.inr (va_up (s_P S a) j v)))))) b = s_E ty (s_sP S a j v) b := by
  by_cases hb : b = a
  · subst hb
    rw [va_up_self, s_E_a1 (S := s_sP S b j v) h]
    have e : va_up (s_P S b) j v = s_P (s_sP S b j v) b := by
      funext j1
      rw [s_P_sP]
      by_cases hj : j1 = j
      · rw [if_pos ⟨rfl, hj⟩]; simp [va_up, hj]
      · rw [if_neg (fun z => hj z.2)]; simp [va_up, hj]
    rw [e]; rfl
  · rw [va_up_ne _ _ hb]; exact s_E_sP hb
/-- a row with the places from dp on out of another one's -/
def s_cB (S : sT) (a b : Nat) (sp dp n : Nat) : sT := s_mk (s_L S) (s_K S) (s_N S) (s_I S) (s_R S) (fun x => if x = b then va_cpy (s_B S a) (s_B S b) sp dp n else s_B S x) (s_P S) (s_J S) (s_G S) (s_D S)
def s_cP (S : sT) (a b : Nat) (sp dp n : Nat) : sT := s_mk (s_L S) (s_K S) (s_N S) (s_I S) (s_R S) (s_B S) (fun x => if x = b then va_cpy (s_P S a) (s_P S b) sp dp n else s_P S x) (s_J S) (s_G S) (s_D S)
/-- an outer row q of n rows r i, of k ints each -/
def s_mna (S : sT) (q : Nat) (r : Nat → Nat) (n k : Nat) : sT := s_mk (q :: (s_L S ++ (List.range n).map r)) (fun a => if a = q then 13 else if a ∈ (List.range n).map r then 11 else s_K S a) (fun a => if a = q then n else if a ∈ (List.range n).map r then k else s_N S a) (fun g a => if a = q ∨ a ∈ (List.range n).map r then 0 else s_I S g a) (fun g a => if a = q ∨ a ∈ (List.range n).map r then none else s_R S g a) (fun a j => if a = q ∨ a ∈ (List.range n).map r then 0 else s_B S a j) (fun a j => if a = q then (if j < n then some (r j) else none) else if a ∈ (List.range n).map r then none else s_P S a j) (fun a => if a = q ∨ a ∈ (List.range n).map r then 0 else s_J S a) (fun a j => if a = q ∨ a ∈ (List.range n).map r then 0 else s_G S a j) (fun a j => if a = q ∨ a ∈ (List.range n).map r then 0 else s_D S a j)
section XM
variable {p : Program} {l : Launch} {e : Env} {R : Room} {s : State} {m : MethodId} {args : Array Value} {below : List Frame} {meth : Method} {c : Code} {H : Heap} {locs : List Loc} {cells slots : Nat} {Q : State → Prop}
variable {cc : ByteArray} {own : String} {gg : sG} {S : sT} {pc a : Nat} {ls : Array Slot} {rest : List Value}
theorem x_newq {index : Nat} (hC : x_C p s m args c cc own gg) (hR : s_Rep gg S H) (hS : va_S (s_A gg) s.heap H locs) {n : Int32} {N1 : Nat} (hw : Cond.classLink own index "java/lang/Object" ∈ wsL_law) (hn : ¬ n < 0) (hN : n.toNatClampNeg = N1) (hb : N1 * 4 ≤ 536870912) (hcells : cells + 1 ≤ R.cells) (hslots : slots + N1 ≤ R.slots) (hdg : decode cc pc = .ok (.anewarray index, 3)) (kk : ∀ (q : Nat) (H1 : Heap), q ∉ s_L S → s_fr S q → s_Rep gg (s_nw S q 12 N1) H1 → va_S (s_A gg) s.heap H1 locs → W p l e R s m args below meth c H1 locs (cells + 1) (slots + N1) Q (F0 m (pc + 3) ls (.ref q :: rest))) : W p l e R s m args below meth c H locs cells slots Q (F0 m pc ls (.int n :: rest)) := by
  refine va_newq hC.1 hC.2.1 hC.2.2.2.1 (hC.2.2.1 _ hw) hC.2.2.2.2.2.2.2.2.2.2.2.2.2.2.2.2.2.1 hC.2.2.2.2.1 hR.1 hR.2.1 hS (s_A_ge hC.2.2.2.2 rfl) hn hN hb hcells hslots hdg (fun q cA H1 hK hP hD hS1 => ?_)
  have e1 : cA = gg.2.1 1 := by
    obtain ⟨kA, comp, -, -, -, h1⟩ := (hK.2 5 (cA, .object "java/lang/Object") rfl).2
    obtain ⟨kB, comp2, -, -, -, h2⟩ := (hC.2.2.2.2.1.2 1 (gg.2.1 1, .object "java/lang/Object") rfl).2
    exact Option.some.inj (h1.symm.trans h2)
  subst e1
  obtain ⟨z1, z2, z3⟩ := hR.nw (k := 12) (n := N1) s_nw_E1.symm hP hD
  exact kk q H1 z1 z2 z3 hS1
theorem x_newl (hC : x_C p s m args c cc own gg) (hR : s_Rep gg S H) (hS : va_S (s_A gg) s.heap H locs) {n : Int32} {N1 : Nat} (hw : Cond.arrayClass .long ∈ wsL_law) (hn : ¬ n < 0) (hN : n.toNatClampNeg = N1) (hb : N1 * 8 ≤ 536870912) (hcells : cells + 1 ≤ R.cells) (hslots : slots + N1 ≤ R.slots) (hdg : decode cc pc = .ok (.newarray .long, 2)) (kk : ∀ (q : Nat) (H1 : Heap), q ∉ s_L S → s_fr S q → s_Rep gg (s_nw S q 14 N1) H1 → va_S (s_A gg) s.heap H1 locs → W p l e R s m args below meth c H1 locs (cells + 1) (slots + N1) Q (F0 m (pc + 2) ls (.ref q :: rest))) : W p l e R s m args below meth c H locs cells slots Q (F0 m pc ls (.int n :: rest)) := by
  refine va_newa (atype := .long) (a0 := (N1, .inr (.inl (fun _ => 0)))) (ty := .long) hC.1 hC.2.1 (hC.2.2.1 _ hw) rfl hC.2.2.2.2.1 hR.1 hR.2.1 hS (s_A_ge hC.2.2.2.2 rfl) (fun cA => rfl) hn hN hb hcells hslots hdg (fun q cA H1 hK hP hD hS1 => ?_)
  have e1 : cA = gg.2.1 3 := by
    have h1 := (hK.2 5 (cA, .long) rfl).2
    have h2 := (hC.2.2.2.2.1.2 3 (gg.2.1 3, .long) rfl).2
    exact Option.some.inj ((show s.vm.findClass _ = some cA from h1).symm.trans (show s.vm.findClass _ = some (gg.2.1 3) from h2))
  subst e1
  obtain ⟨z1, z2, z3⟩ := hR.nw (k := 14) (n := N1) s_nw_E3.symm hP hD
  exact kk q H1 z1 z2 z3 hS1
theorem x_newd (hC : x_C p s m args c cc own gg) (hR : s_Rep gg S H) (hS : va_S (s_A gg) s.heap H locs) {n : Int32} {N1 : Nat} (hw : Cond.arrayClass .double ∈ wsL_law) (hn : ¬ n < 0) (hN : n.toNatClampNeg = N1) (hb : N1 * 8 ≤ 536870912) (hcells : cells + 1 ≤ R.cells) (hslots : slots + N1 ≤ R.slots) (hdg : decode cc pc = .ok (.newarray .double, 2)) (kk : ∀ (q : Nat) (H1 : Heap), q ∉ s_L S → s_fr S q → s_Rep gg (s_nw S q 15 N1) H1 → va_S (s_A gg) s.heap H1 locs → W p l e R s m args below meth c H1 locs (cells + 1) (slots + N1) Q (F0 m (pc + 2) ls (.ref q :: rest))) : W p l e R s m args below meth c H locs cells slots Q (F0 m pc ls (.int n :: rest)) := by
  refine va_newa (atype := .double) (a0 := (N1, .inr (.inr (.inr (.inl (fun _ => 0)))))) (ty := .double) hC.1 hC.2.1 (hC.2.2.1 _ hw) rfl hC.2.2.2.2.1 hR.1 hR.2.1 hS (s_A_ge hC.2.2.2.2 rfl) (fun cA => rfl) hn hN hb hcells hslots hdg (fun q cA H1 hK hP hD hS1 => ?_)
  have e1 : cA = gg.2.1 4 := by
    have h1 := (hK.2 5 (cA, .double) rfl).2
    have h2 := (hC.2.2.2.2.1.2 4 (gg.2.1 4, .double) rfl).2
    exact Option.some.inj ((show s.vm.findClass _ = some cA from h1).symm.trans (show s.vm.findClass _ = some (gg.2.1 4) from h2))
  subst e1
  obtain ⟨z1, z2, z3⟩ := hR.nw (k := 15) (n := N1) s_nw_E4.symm hP hD
  exact kk q H1 z1 z2 z3 hS1
theorem s_mna_E {ty : Nat → ClassId} {q : Nat} {r : Nat → Nat} {n k b : Nat} (hq : b ≠ q) (hr : b ∉ (List.range n).map r) : s_E ty S b = s_E ty (s_mna S q r n k) b := by
  have h2 : ¬ (b = q ∨ b ∈ (List.range n).map r) := fun z => z.elim hq hr
  refine s_E_cg ?_ ?_ ?_ ?_ ?_ ?_ ?_ ?_ ?_
  · exact ((if_neg hq).trans (if_neg hr)).symm
  · exact ((if_neg hq).trans (if_neg hr)).symm
  · intro g; exact (if_neg h2).symm
  · intro g; exact (if_neg h2).symm
  · funext j; exact (if_neg h2).symm
  · funext j; exact ((if_neg hq).trans (if_neg hr)).symm
  · exact (if_neg h2).symm
  · funext j; exact (if_neg h2).symm
  · funext j; exact (if_neg h2).symm
theorem x_mna {index : Nat} (hC : x_C p s m args c cc own gg) (hR : s_Rep gg S H) (hS : va_S (s_A gg) s.heap H locs) {n k : Int32} {N1 K1 : Nat} (hw : Cond.classLink own index "[[I" ∈ wsL_law) (hw2 : Cond.arrayClass .int ∈ wsL_law) (hn : ¬ n < 0) (hk : ¬ k < 0) (hN : n.toNatClampNeg = N1) (hM : k.toNatClampNeg = K1) (hb1 : N1 * 4 ≤ 536870912) (hb2 : K1 * 4 ≤ 536870912) (hcells : cells + (1 + N1) ≤ R.cells) (hslots : slots + (N1 + N1 * K1) ≤ R.slots) (hdg : decode cc pc = .ok (.multianewarray index 2, 4))
    (kk : ∀ (q : Nat) (r : Nat → Nat) (H1 : Heap), (∀ i j : Nat, i < N1 → j < N1 → r i = r j → i = j) → s_fr S q → (∀ i : Nat, i < N1 → s_fr S (r i) ∧ r i ≠ q) → s_Rep gg (s_mna S q r N1 K1) H1 → va_S (s_A gg) s.heap H1 locs → W p l e R s m args below meth c H1 locs (cells + 1 + N1) (slots + N1 + N1 * K1) Q (F0 m (pc + 4) ls (.ref q :: rest))) : W p l e R s m args below meth c H locs cells slots Q (F0 m pc ls (.int k :: .int n :: rest)) := by
  have hcy : s.vm.findClass (FieldType.array FieldType.int).toString = some (gg.2.1 0) := (hC.2.2.2.2.1.2 0 (gg.2.1 0, .int) rfl).2
  refine va_mna (X := []) (L := s_L S) (f := s_E gg.2.1 S) (ty := .int) (cy := gg.2.1 0) (z := (K1, .inl (fun _ => 0))) hC.1 hC.2.1 hC.2.2.2.1 (hC.2.2.1 _ hw) hC.2.2.2.2.2.2.2.2.2.2.2.2.2.2.2.2.2.2.1 (hC.2.2.1 _ hw2) hcy hC.2.2.2.2.1 hR.1 hR.2.1 hS (s_A_ge hC.2.2.2.2 rfl) hn hk hN hM hb1 hb2 (by omega) (by decide) (by decide) hcells hslots (fun c0 => by unfold Jvm.Free.Multi.innerC; rw [arrV_new]; rfl) hdg (fun q r cA H1 hinj hfr hK hP hD hS1 => ?_)
  have e1 : cA = gg.2.1 2 := by
    have h1 := (hK.2 5 (cA, .array .int) rfl).2
    have h2 := (hC.2.2.2.2.1.2 2 (gg.2.1 2, .array .int) rfl).2
    exact Option.some.inj ((show s.vm.findClass _ = some cA from h1).symm.trans (show s.vm.findClass _ = some (gg.2.1 2) from h2))
  subst e1
  have hD2 : va_D (s_A gg) ((q, .inl (gg.2.1 2, N1, .inr (.inr (.inr (.inr (fun i => if i < N1 then some (r i) else none)))))) :: va_pl (s_L S ++ (List.range N1).map r) (vr_up (s_E gg.2.1 S) ((List.range N1).map r) (.inl (gg.2.1 0, (K1, .inl (fun _ => 0)))))) := hD
  have hP2 : va_P gg.1 vwCl ((q, .inl (gg.2.1 2, N1, .inr (.inr (.inr (.inr (fun i => if i < N1 then some (r i) else none)))))) :: va_pl (s_L S ++ (List.range N1).map r) (vr_up (s_E gg.2.1 S) ((List.range N1).map r) (.inl (gg.2.1 0, (K1, .inl (fun _ => 0)))))) H1 := hP
  have hqn : ∀ b, b ∈ s_L S ++ (List.range N1).map r → b ≠ q := fun b hb z => by
    obtain ⟨i, hi⟩ := List.getElem?_of_mem hb
    have h1 := hD2.1 0 (i + 1) _ (b, vr_up (s_E gg.2.1 S) ((List.range N1).map r) (.inl (gg.2.1 0, (K1, .inl (fun _ => 0)))) b) rfl (by
      rw [List.getElem?_cons_succ]; unfold va_pl; rw [List.getElem?_map, hi]; rfl) z.symm
    omega
  have hLr : ∀ b, b ∈ s_L S → b ∉ (List.range N1).map r := fun b hb h => by
    obtain ⟨i, hi, rfl⟩ := List.mem_map.mp h
    exact hfr i (List.mem_range.mp hi) hb
  have hq0 : s_K S q = 0 := by
    by_cases z : s_K S q = 0
    · exact z
    · exact absurd rfl (hqn q (List.mem_append_left _ (hR.2.2.1 q z)))
  have hw3 : s_W gg (s_mna S q r N1 K1) = (q, .inl (gg.2.1 2, N1, .inr (.inr (.inr (.inr (fun i => if i < N1 then some (r i) else none)))))) :: va_pl (s_L S ++ (List.range N1).map r) (vr_up (s_E gg.2.1 S) ((List.range N1).map r) (.inl (gg.2.1 0, (K1, .inl (fun _ => 0))))) := by
    show (q, s_E gg.2.1 (s_mna S q r N1 K1) q) :: va_pl (s_L S ++ (List.range N1).map r) (s_E gg.2.1 (s_mna S q r N1 K1)) = _
    congr 1
    · rw [s_E_a2 (show s_K (s_mna S q r N1 K1) q = 13 from if_pos rfl)]
      have e2 : s_N (s_mna S q r N1 K1) q = N1 := if_pos rfl
      have e3 : s_P (s_mna S q r N1 K1) q = fun i => if i < N1 then some (r i) else none := funext fun j => if_pos rfl
      rw [e2, e3]
    · unfold va_pl
      apply List.map_congr_left
      intro b hb
      have hbq := hqn b hb
      by_cases hbr : b ∈ (List.range N1).map r
      · rw [vr_up_in hbr, s_E_a0 (show s_K (s_mna S q r N1 K1) b = 11 from (if_neg hbq).trans (if_pos hbr))]
        have e2 : s_N (s_mna S q r N1 K1) b = K1 := (if_neg hbq).trans (if_pos hbr)
        have e3 : s_B (s_mna S q r N1 K1) b = fun _ => 0 := funext fun j => if_pos (Or.inr hbr)
        rw [e2, e3]
      · rw [vr_up_ne hbr]
        exact congrArg (fun z => (b, z)) (s_mna_E (ty := gg.2.1) (S := S) (q := q) (r := r) (n := N1) (k := K1) hbq hbr).symm
  rw [← hw3] at hP2 hD2
  have hbase : ∀ b, b = q ∨ b ∈ (List.range N1).map r → (0 : Nat) ≠ b := fun b hb z => by
    have hbL : b ∈ s_L (s_mna S q r N1 K1) := by
      show b ∈ q :: (s_L S ++ (List.range N1).map r)
      rcases hb with h | h
      · rw [h]; exact List.mem_cons_self
      · exact List.mem_cons_of_mem _ (List.mem_append_right _ h)
    obtain ⟨i, hi⟩ := s_pl_get (gg := gg) hbL
    have h2 : gg.2.2.1 ≤ b := hD2.2 i _ hi
    have h3 := hR.2.2.2.2
    omega
  have hb6 : ∀ b, b = q ∨ b ∈ (List.range N1).map r → s_R S 9998 0 ≠ some b := fun b hb z0 => by
    have z : gg.2.2.2 6 = b := Option.some.inj (hR.2.2.2.1.1.symm.trans z0)
    have hbL : b ∈ s_L (s_mna S q r N1 K1) := by
      show b ∈ q :: (s_L S ++ (List.range N1).map r)
      rcases hb with h | h
      · rw [h]; exact List.mem_cons_self
      · exact List.mem_cons_of_mem _ (List.mem_append_right _ h)
    obtain ⟨i, hi⟩ := s_pl_get (gg := gg) hbL
    have h2 : gg.2.2.1 ≤ b := hD2.2 i _ hi
    have h3 := hR.2.2.2.2
    omega
  have hno : ¬ ((0 : Nat) = q ∨ (0 : Nat) ∈ (List.range N1).map r) := fun z => by
    rcases z with h | h
    · exact hbase q (Or.inl rfl) h
    · exact hbase 0 (Or.inr h) rfl
  refine kk q r H1 hinj ⟨hq0, fun z => hbase q (Or.inl rfl) z.symm, hb6 q (Or.inl rfl)⟩ (fun i hi => ⟨⟨?_, fun z => hbase (r i) (Or.inr (List.mem_map.mpr ⟨i, List.mem_range.mpr hi, rfl⟩)) z.symm, hb6 (r i) (Or.inr (List.mem_map.mpr ⟨i, List.mem_range.mpr hi, rfl⟩))⟩, hqn _ (List.mem_append_right _ (List.mem_map.mpr ⟨i, List.mem_range.mpr hi, rfl⟩))⟩) ⟨hP2, hD2, fun b hb => ?_, ⟨(if_neg hno).trans hR.2.2.2.1.1, (if_neg hno).trans hR.2.2.2.1.2⟩, hR.2.2.2.2⟩ hS1
  · by_cases z : s_K S (r i) = 0
    · exact z
    · exact absurd (hR.2.2.1 _ z) (hfr i hi)
  · show b ∈ q :: (s_L S ++ (List.range N1).map r)
    by_cases h1 : b = q
    · rw [h1]; exact List.mem_cons_self
    · refine List.mem_cons_of_mem _ ?_
      by_cases h2 : b ∈ (List.range N1).map r
      · exact List.mem_append_right _ h2
      · refine List.mem_append_left _ (hR.2.2.1 b ?_)
        have : s_K (s_mna S q r N1 K1) b = s_K S b := (if_neg h1).trans (if_neg h2)
        rw [← this]; exact hb
theorem x_gsD {index : Nat} (hC : x_C p s m args c cc own gg) (hR : s_Rep gg S H) {b : Nat} (hb : s_R S 9998 0 = some b) (hS : va_S (s_A gg) s.heap H locs) (hl : Cond.fieldLink own index "java/util/ArrayList" "DEFAULTCAPACITY_EMPTY_ELEMENTDATA" "[Ljava/lang/Object;" ∈ wsL_law) (hdg : decode cc pc = .ok (.getstatic index, 3)) (kk : W p l e R s m args below meth c H locs cells slots Q (F0 m (pc + 3) ls (.ref b :: rest))) : W p l e R s m args below meth c H locs cells slots Q (F0 m pc ls rest) := by
  have e1 : b = gg.2.2.2 6 := Option.some.inj (hb.symm.trans hR.2.2.2.1.1)
  subst e1
  exact va_gets hC.1 hC.2.1 hC.2.2.2.2.2.2.2.2.2.1 hS hC.2.2.2.1 (hC.2.2.1 _ hl) (fun _ h9 => h9) hdg kk
theorem x_alenD (hC : x_C p s m args c cc own gg) (hR : s_Rep gg S H) (hS : va_S (s_A gg) s.heap H locs) (hk : s_K S a = 12 ∨ s_R S 9998 0 = some a) (hdg : decode cc pc = .ok (.arraylength, 1)) (kk : W p l e R s m args below meth c H locs cells slots Q (F0 m (pc + 1) ls (.int (nI (if s_K S a = 12 then s_N S a else 0)) :: rest))) : W p l e R s m args below meth c H locs cells slots Q (F0 m pc ls (.ref a :: rest)) := by
  by_cases h : s_K S a = 12
  · rw [if_pos h] at kk
    exact x_alen12 hC hR h hdg kk
  · rw [if_neg h] at kk
    have e1 : a = gg.2.2.2 6 := Option.some.inj ((hk.resolve_left h).symm.trans hR.2.2.2.1.1)
    subst e1
    exact va_tlen hC.1 hC.2.1 hC.2.2.2.2.2.2.2.2.2.2.1 hS rfl hdg kk
theorem x_astO {i : Int32} {v ci : Nat} {q : vw_C} {fs : List Value} (hC : x_C p s m args c cc own gg) (hR : s_Rep gg S H) (hk : s_K S a = 12) (hS : va_S (s_A gg) s.heap H locs) (hin : vp_in i (s_N S a)) (hkv : s_K S v ≠ 0) (hev : s_E gg.2.1 S v = .inr (ci, fs)) (hc : vwCl[ci]? = some q) (hcs : (q.1, "java/lang/Object") ∈ s_cs) (hdg : decode cc pc = .ok (.aastore, 1)) (kk : ∀ (H1 : Heap) (locs1 : List Loc), s_Rep gg (s_sP S a i.toNatClampNeg (some v)) H1 → va_S (s_A gg) s.heap H1 locs1 → W p l e R s m args below meth c H1 locs1 cells slots Q (F0 m (pc + 1) ls rest)) : W p l e R s m args below meth c H locs cells slots Q (F0 m pc ls (.ref v :: .int i :: .ref a :: rest)) := by
  have ha := hR.2.2.1 a (by rw [hk]; decide)
  obtain ⟨k0, hk0⟩ := s_pl_get (gg := gg) ha
  obtain ⟨k2, hk2⟩ := s_pl_get (gg := gg) (hR.2.2.1 v hkv)
  have hk1 := hk0
  rw [s_E_a1 hk] at hk1
  rw [hev] at hk2
  exact va_astqO hC.1 hC.2.1 hC.2.2.2.2.1 hR.1 hR.2.1 hS k0 1 k2 ci hk1 rfl (hC.2.2.2.2.2.2.2.2.2.2.2.2.2.1 _ hcs) hk2 hc hin hdg (fun H1 locs1 hP hD hS1 => kk H1 locs1 (hR.up ha hk0 (s_u_a1 hk _ _) rfl rfl ⟨rfl, rfl⟩ hP hD) hS1)
theorem x_copyi {index b : Nat} {sp dp n : Int32} (hC : x_C p s m args c cc own gg) (hml : c.maxLocals = ls.size) (hR : s_Rep gg S H) (hk : s_K S a = 11) (hk2 : s_K S b = 11) (hS : va_S (s_A gg) s.heap H locs) (hl : Cond.methodLink own index arraycopyName ∈ wsL_law) (hnat : Cond.native arraycopyName ∈ wsL_law) (hstat : Cond.static arraycopyName ∈ wsL_law) (hini : Cond.initialized "java/lang/System" ∈ wsL_law)
    (h1 : ¬ sp < 0) (h2 : ¬ dp < 0) (h3 : ¬ n < 0) (h4 : sp.toNatClampNeg + n.toNatClampNeg ≤ s_N S a) (h5 : dp.toNatClampNeg + n.toNatClampNeg ≤ s_N S b) (hframes : 1 ≤ R.frames) (hlocals : (rest.map fun v => v.category).sum + (nativeFrameWords "java/lang/System" "arraycopy" 5 + 11) ≤ R.locals) (hdg : decode cc pc = .ok (.invokestatic index, 3))
    (kk : ∀ (H1 : Heap) (locs1 : List Loc), s_Rep gg (s_cB S a b sp.toNatClampNeg dp.toNatClampNeg n.toNatClampNeg) H1 → va_S (s_A gg) s.heap H1 locs1 → W p l e R s m args below meth c H1 locs1 cells slots Q (F0 m (pc + 3) ls rest)) : W p l e R s m args below meth c H locs cells slots Q (F0 m pc ls (.int n :: .int dp :: .ref b :: .int sp :: .ref a :: rest)) := by
  have hb := hR.2.2.1 b (by rw [hk2]; decide)
  obtain ⟨k0, hk0⟩ := s_pl_get (gg := gg) (hR.2.2.1 a (by rw [hk]; decide))
  obtain ⟨k1, hk1⟩ := s_pl_get (gg := gg) hb
  have hk3 := hk1
  rw [s_E_a0 hk] at hk0
  rw [s_E_a0 hk2] at hk3
  refine va_copyi hC.1 hC.2.1 hml hC.2.2.2.1 (hC.2.2.1 _ hl) (hC.2.2.1 _ hnat) (hC.2.2.1 _ hstat) (hC.2.2.1 _ hini) hC.2.2.2.2.1 hR.1 hR.2.1 hS k0 k1 0 0 hk0 hk3 rfl rfl rfl h1 h2 h3 h4 h5 (fun _ _ => rfl) hframes hlocals hdg (fun H1 locs1 hP hD hS1 => kk H1 locs1 (hR.up hb hk1 (fun x => ?_) rfl rfl ⟨rfl, rfl⟩ hP hD) hS1)
  by_cases hx : x = b
  · subst hx
    rw [va_up_self, s_E_a0 (S := s_cB S a x _ _ _) hk2]
    have e2 : s_B (s_cB S a x sp.toNatClampNeg dp.toNatClampNeg n.toNatClampNeg) x = va_cpy (s_B S a) (s_B S x) sp.toNatClampNeg dp.toNatClampNeg n.toNatClampNeg := if_pos rfl
    rw [e2]; rfl
  · rw [va_up_ne _ _ hx]
    exact s_E_cg rfl rfl (fun _ => rfl) (fun _ => rfl) (if_neg hx).symm rfl rfl rfl rfl
theorem x_arrcls (hC : x_C p s m args c cc own gg) (hR : s_Rep gg S H) (hk : s_K S a = 12) : ∃ cell : Cell, H[a]? = some cell ∧ cell.vm.isStatics = false ∧ s.vm.findClass "[Ljava/lang/Object;" = some cell.cls := by
  obtain ⟨k0, hk0⟩ := s_pl_get (gg := gg) (hR.2.2.1 a (by rw [hk]; decide))
  rw [s_E_a1 hk] at hk0
  obtain ⟨kA, comp, -, -, -, h1⟩ := (hC.2.2.2.2.1.2 1 (gg.2.1 1, .object "java/lang/Object") rfl).2
  have h0 : H[a]? = some (arrV (gg.2.1 1) (s_N S a) (fun j => va_rf (s_P S a j))) := (hR.1 k0 _ hk0).trans (by rw [← vp_cell_q])
  exact ⟨_, h0, rfl, h1⟩
theorem x_ldcM {index b : Nat} (hC : x_C p s m args c cc own gg) (hR : s_Rep gg S H) (hb : s_R S 9999 0 = some b) (hl : Cond.classLink own index "[Ljava/lang/Object;" ∈ wsL_law) (hdg : decode cc pc = .ok (.ldc index, 2)) (kk : W p l e R s m args below meth c H locs cells slots Q (F0 m (pc + 2) ls (.ref b :: rest))) : W p l e R s m args below meth c H locs cells slots Q (F0 m pc ls rest) := by
  have e1 : b = gg.2.2.2 7 := Option.some.inj (hb.symm.trans hR.2.2.2.1.2)
  subst e1
  exact va_ldcM hC.1 hC.2.1 hC.2.2.2.1 (hC.2.2.1 _ hl) hC.2.2.2.2.2.2.2.2.2.2.2.2.2.2.2.2.2.2.2.1 hdg kk
theorem x_getC {index b : Nat} (hC : x_C p s m args c cc own gg) (hml : c.maxLocals = ls.size) (hR : s_Rep gg S H) (hk : s_K S a = 12) (hb : s_R S 9999 0 = some b) (hl : Cond.methodLink own index ⟨"java/lang/Object", "getClass", "()Ljava/lang/Class;"⟩ ∈ wsL_law) (hsel : Cond.selects "[Ljava/lang/Object;" ⟨"java/lang/Object", "getClass", "()Ljava/lang/Class;"⟩ ⟨"java/lang/Object", "getClass", "()Ljava/lang/Class;"⟩ ∈ wsL_law) (hinst : Cond.instanceMethod ⟨"java/lang/Object", "getClass", "()Ljava/lang/Class;"⟩ ∈ wsL_law) (hnat : Cond.native ⟨"java/lang/Object", "getClass", "()Ljava/lang/Class;"⟩ ∈ wsL_law) (hframes : 1 ≤ R.frames) (hlocals : (rest.map fun v => v.category).sum + 14 ≤ R.locals) (hdg : decode cc pc = .ok (.invokevirtual index, 3)) (kk : W p l e R s m args below meth c H locs cells slots Q (F0 m (pc + 3) ls (.ref b :: rest))) : W p l e R s m args below meth c H locs cells slots Q (F0 m pc ls (.ref a :: rest)) := by
  have e1 : b = gg.2.2.2 7 := Option.some.inj (hb.symm.trans hR.2.2.2.1.2)
  subst e1
  exact va_getC hC.1 hC.2.1 hml hC.2.2.2.1 (hC.2.2.1 _ hl) (hC.2.2.2.2.2.2.2.2.2.2.2.2.2.2.2.2.2.2.2.2).use (hC.2.2.1 _ hsel) (hC.2.2.1 _ hinst) (hC.2.2.1 _ hnat) hC.2.2.2.2.2.2.2.2.2.2.2.2.2.2.2.2.2.2.2.1 (x_arrcls hC hR hk) hframes hlocals hdg kk
theorem x_castA {index : Nat} (hC : x_C p s m args c cc own gg) (hR : s_Rep gg S H) (hk : s_K S a = 12) (hl : Cond.classLink own index "[Ljava/lang/Object;" ∈ wsL_law) (hdg : decode cc pc = .ok (.checkcast index, 3)) (kk : W p l e R s m args below meth c H locs cells slots Q (F0 m (pc + 3) ls (.ref a :: rest))) : W p l e R s m args below meth c H locs cells slots Q (F0 m pc ls (.ref a :: rest)) := by
  obtain ⟨k0, hk0⟩ := s_pl_get (gg := gg) (hR.2.2.1 a (by rw [hk]; decide))
  rw [s_E_a1 hk] at hk0
  obtain ⟨kA, comp, -, -, -, h1⟩ := (hC.2.2.2.2.1.2 1 (gg.2.1 1, .object "java/lang/Object") rfl).2
  exact va_castA hC.1 hC.2.1 hC.2.2.2.1 (hC.2.2.1 _ hl) hR.1 k0 hk0 h1 hdg kk
theorem x_copyq {index b : Nat} {sp dp n : Int32} (hC : x_C p s m args c cc own gg) (hml : c.maxLocals = ls.size) (hR : s_Rep gg S H) (hk : s_K S a = 12) (hk2 : s_K S b = 12) (hS : va_S (s_A gg) s.heap H locs) (hl : Cond.methodLink own index arraycopyName ∈ wsL_law) (hnat : Cond.native arraycopyName ∈ wsL_law) (hstat : Cond.static arraycopyName ∈ wsL_law) (hini : Cond.initialized "java/lang/System" ∈ wsL_law)
    (h1 : ¬ sp < 0) (h2 : ¬ dp < 0) (h3 : ¬ n < 0) (h4 : sp.toNatClampNeg + n.toNatClampNeg ≤ s_N S a) (h5 : dp.toNatClampNeg + n.toNatClampNeg ≤ s_N S b) (hel : ∀ i : Nat, i < n.toNatClampNeg → ∀ y : Nat, s_P S a (sp.toNatClampNeg + i) = some y → s_K S y = 3) (hframes : 1 ≤ R.frames) (hlocals : (rest.map fun v => v.category).sum + (nativeFrameWords "java/lang/System" "arraycopy" 5 + 11) ≤ R.locals) (hdg : decode cc pc = .ok (.invokestatic index, 3))
    (kk : ∀ (H1 : Heap) (locs1 : List Loc), s_Rep gg (s_cP S a b sp.toNatClampNeg dp.toNatClampNeg n.toNatClampNeg) H1 → va_S (s_A gg) s.heap H1 locs1 → W p l e R s m args below meth c H1 locs1 cells slots Q (F0 m (pc + 3) ls rest)) : W p l e R s m args below meth c H locs cells slots Q (F0 m pc ls (.int n :: .int dp :: .ref b :: .int sp :: .ref a :: rest)) := by
  have hb := hR.2.2.1 b (by rw [hk2]; decide)
  obtain ⟨k0, hk0⟩ := s_pl_get (gg := gg) (hR.2.2.1 a (by rw [hk]; decide))
  obtain ⟨k1, hk1⟩ := s_pl_get (gg := gg) hb
  have hk3 := hk1
  rw [s_E_a1 hk] at hk0
  rw [s_E_a1 hk2] at hk3
  have hcs := va_Nw.use (A := args) rfl (hC.2.2.2.2.2.2.2.2.2.2.2.2.2.1 ("Subakhall$Field", "java/lang/Object") (List.mem_of_getElem? (i := 4) rfl))
  refine va_copyq (C := RX1) hC.1 hC.2.1 hml hC.2.2.2.1 (hC.2.2.1 _ hl) (hC.2.2.1 _ hnat) (hC.2.2.1 _ hstat) (hC.2.2.1 _ hini) hC.2.2.2.2.1 hR.1 hR.2.1 hS k0 k1 1 1 hk0 hk3 rfl rfl h1 h2 h3 h4 h5 (fun i hi y hy => x_recv (q := (RX1, TX1, 17)) hC hR (by rw [hel i hi y hy]; decide) (s_E_2 (hel i hi y hy)) rfl) (fun comp c0 e1 e2 => ?_) hframes hlocals hdg (fun H1 locs1 hP hD hS1 => kk H1 locs1 (hR.up hb hk1 (fun x => ?_) rfl rfl ⟨rfl, rfl⟩ hP hD) hS1)
  · obtain ⟨c3, c4, hc3, hc4, hasg⟩ := Cond.castable_spec hcs
    cases Option.some.inj (hc3.symm.trans e2)
    cases Option.some.inj (hc4.symm.trans e1)
    exact hasg
  · by_cases hx : x = b
    · subst hx
      rw [va_up_self, s_E_a1 (S := s_cP S a x _ _ _) hk2]
      have e2 : s_P (s_cP S a x sp.toNatClampNeg dp.toNatClampNeg n.toNatClampNeg) x = va_cpy (s_P S a) (s_P S x) sp.toNatClampNeg dp.toNatClampNeg n.toNatClampNeg := if_pos rfl
      rw [e2]; rfl
    · rw [va_up_ne _ _ hx]
      exact s_E_cg rfl rfl (fun _ => rfl) (fun _ => rfl) rfl (if_neg hx).symm rfl rfl rfl
theorem x_astO2 {i : Int32} {v : Nat} (hC : x_C p s m args c cc own gg) (hR : s_Rep gg S H) (hk : s_K S a = 12) (hS : va_S (s_A gg) s.heap H locs) (hin : vp_in i (s_N S a)) (hkv : s_K S v = 3 ∨ s_K S v = 7) (hdg : decode cc pc = .ok (.aastore, 1)) (kk : ∀ (H1 : Heap) (locs1 : List Loc), s_Rep gg (s_sP S a i.toNatClampNeg (some v)) H1 → va_S (s_A gg) s.heap H1 locs1 → W p l e R s m args below meth c H1 locs1 cells slots Q (F0 m (pc + 1) ls rest)) : W p l e R s m args below meth c H locs cells slots Q (F0 m pc ls (.ref v :: .int i :: .ref a :: rest)) := by
  rcases hkv with h | h
  · exact x_astO (ci := 2) hC hR hk hS hin (by rw [h]; decide) (s_E_2 h) rfl (List.mem_of_getElem? (i := 4) rfl) hdg kk
  · exact x_astO (ci := 6) hC hR hk hS hin (by rw [h]; decide) (s_E_6 h) rfl (List.mem_of_getElem? (i := 3) rfl) hdg kk
end XM
theorem s_nw_o0 {ty : Nat → ClassId} {S : sT} {q n : Nat} : s_E ty (s_nw S q 1 n) q = .inr (0, [.int 0, .null, .int 0]) := by
  rw [s_E_0 s_nw_K]
  simp only [s_nw_I, s_nw_R, s_nw_J, va_rf]
theorem x_nw_0 {p : Program} {l : Launch} {e : Env} {R : Room} {s : State} {m : MethodId} {args : Array Value} {below : List Frame} {meth : Method} {c : Code} {H : Heap} {locs : List Loc} {cells slots : Nat} {Q : State → Prop} {cc : ByteArray} {own : String} {gg : sG} {S : sT} {pc a : Nat} {ls : Array Slot} {rest : List Value} {index : Nat} (hC : x_C p s m args c cc own gg) (hR : s_Rep gg S H) (hS : va_S (s_A gg) s.heap H locs) (hcl : Cond.classLink own index RJx4a65c ∈ wsL_law) (hinst : Cond.instantiable RJx4a65c 3 ∈ wsL_law) (hini : Cond.initialized RJx4a65c ∈ wsL_law) (hcells : cells + 1 ≤ R.cells) (hslots : slots + 3 ≤ R.slots) (hdg : decode cc pc = .ok (.new index, 3)) (kk : ∀ (q : Nat) (H1 : Heap), q ∉ s_L S → s_fr S q → s_Rep gg (s_nw S q 1 0) H1 → va_S (s_A gg) s.heap H1 locs → W p l e R s m args below meth c H1 locs (cells + 1) (slots + 3) Q (F0 m (pc + 3) ls (.ref q :: rest))) : W p l e R s m args below meth c H locs cells slots Q (F0 m pc ls rest) := by
  refine va_new (ci := 0) (fs := [.int 0, .null, .int 0]) (C := RJx4a65c) (T := TJx4a65c) (N := 3) hC.1 hC.2.1 hC.2.2.1 inlJx4a65c tyJx4a65c tyJx4a65c_ok hC.2.2.2.1 (hC.2.2.1 _ hcl) (hC.2.2.1 _ hinst) (hC.2.2.1 _ hini) hC.2.2.2.2.1 hR.1 hR.2.1 hS (s_A_ge hC.2.2.2.2 rfl) rfl (fun j hj => ?_) hcells hslots hdg (fun q H1 hP hD hS1 => ?_)
  · rcases (show j = 0 ∨ j = 1 ∨ j = 2 by omega) with rfl | rfl | rfl <;> rfl
  · obtain ⟨z1, z2, z3⟩ := hR.nw (k := 1) (n := 0) s_nw_o0.symm hP hD
    exact kk q H1 z1 z2 z3 hS1
theorem s_nw_o1 {ty : Nat → ClassId} {S : sT} {q n : Nat} : s_E ty (s_nw S q 2 n) q = .inr (1, [.int 0, .int 0, .int 0, .int 0, .int 0, .int 0, .int 0, .int 0]) := by
  rw [s_E_1 s_nw_K]
  simp only [s_nw_I, s_nw_R, s_nw_J, va_rf]
theorem x_nw_1 {p : Program} {l : Launch} {e : Env} {R : Room} {s : State} {m : MethodId} {args : Array Value} {below : List Frame} {meth : Method} {c : Code} {H : Heap} {locs : List Loc} {cells slots : Nat} {Q : State → Prop} {cc : ByteArray} {own : String} {gg : sG} {S : sT} {pc a : Nat} {ls : Array Slot} {rest : List Value} {index : Nat} (hC : x_C p s m args c cc own gg) (hR : s_Rep gg S H) (hS : va_S (s_A gg) s.heap H locs) (hcl : Cond.classLink own index RX0 ∈ wsL_law) (hinst : Cond.instantiable RX0 8 ∈ wsL_law) (hini : Cond.initialized RX0 ∈ wsL_law) (hcells : cells + 1 ≤ R.cells) (hslots : slots + 8 ≤ R.slots) (hdg : decode cc pc = .ok (.new index, 3)) (kk : ∀ (q : Nat) (H1 : Heap), q ∉ s_L S → s_fr S q → s_Rep gg (s_nw S q 2 0) H1 → va_S (s_A gg) s.heap H1 locs → W p l e R s m args below meth c H1 locs (cells + 1) (slots + 8) Q (F0 m (pc + 3) ls (.ref q :: rest))) : W p l e R s m args below meth c H locs cells slots Q (F0 m pc ls rest) := by
  refine va_new (ci := 1) (fs := [.int 0, .int 0, .int 0, .int 0, .int 0, .int 0, .int 0, .int 0]) (C := RX0) (T := TX0) (N := 8) hC.1 hC.2.1 hC.2.2.1 inlX0 tyX0 tyX0_ok hC.2.2.2.1 (hC.2.2.1 _ hcl) (hC.2.2.1 _ hinst) (hC.2.2.1 _ hini) hC.2.2.2.2.1 hR.1 hR.2.1 hS (s_A_ge hC.2.2.2.2 rfl) rfl (fun j hj => ?_) hcells hslots hdg (fun q H1 hP hD hS1 => ?_)
  · rcases (show j = 0 ∨ j = 1 ∨ j = 2 ∨ j = 3 ∨ j = 4 ∨ j = 5 ∨ j = 6 ∨ j = 7 by omega) with rfl | rfl | rfl | rfl | rfl | rfl | rfl | rfl <;> rfl
  · obtain ⟨z1, z2, z3⟩ := hR.nw (k := 2) (n := 0) s_nw_o1.symm hP hD
    exact kk q H1 z1 z2 z3 hS1
theorem s_nw_o2 {ty : Nat → ClassId} {S : sT} {q n : Nat} : s_E ty (s_nw S q 3 n) q = .inr (2, [.int 0, .null, .int 0, .int 0, .null, .null, .null, .int 0, .int 0, .int 0, .int 0, .int 0, .int 0, .int 0, .int 0, .int 0, .int 0]) := by
  rw [s_E_2 s_nw_K]
  simp only [s_nw_I, s_nw_R, s_nw_J, va_rf]
theorem x_nw_2 {p : Program} {l : Launch} {e : Env} {R : Room} {s : State} {m : MethodId} {args : Array Value} {below : List Frame} {meth : Method} {c : Code} {H : Heap} {locs : List Loc} {cells slots : Nat} {Q : State → Prop} {cc : ByteArray} {own : String} {gg : sG} {S : sT} {pc a : Nat} {ls : Array Slot} {rest : List Value} {index : Nat} (hC : x_C p s m args c cc own gg) (hR : s_Rep gg S H) (hS : va_S (s_A gg) s.heap H locs) (hcl : Cond.classLink own index RX1 ∈ wsL_law) (hinst : Cond.instantiable RX1 17 ∈ wsL_law) (hini : Cond.initialized RX1 ∈ wsL_law) (hcells : cells + 1 ≤ R.cells) (hslots : slots + 17 ≤ R.slots) (hdg : decode cc pc = .ok (.new index, 3)) (kk : ∀ (q : Nat) (H1 : Heap), q ∉ s_L S → s_fr S q → s_Rep gg (s_nw S q 3 0) H1 → va_S (s_A gg) s.heap H1 locs → W p l e R s m args below meth c H1 locs (cells + 1) (slots + 17) Q (F0 m (pc + 3) ls (.ref q :: rest))) : W p l e R s m args below meth c H locs cells slots Q (F0 m pc ls rest) := by
  refine va_new (ci := 2) (fs := [.int 0, .null, .int 0, .int 0, .null, .null, .null, .int 0, .int 0, .int 0, .int 0, .int 0, .int 0, .int 0, .int 0, .int 0, .int 0]) (C := RX1) (T := TX1) (N := 17) hC.1 hC.2.1 hC.2.2.1 inlX1 tyX1 tyX1_ok hC.2.2.2.1 (hC.2.2.1 _ hcl) (hC.2.2.1 _ hinst) (hC.2.2.1 _ hini) hC.2.2.2.2.1 hR.1 hR.2.1 hS (s_A_ge hC.2.2.2.2 rfl) rfl (fun j hj => ?_) hcells hslots hdg (fun q H1 hP hD hS1 => ?_)
  · rcases (show j = 0 ∨ j = 1 ∨ j = 2 ∨ j = 3 ∨ j = 4 ∨ j = 5 ∨ j = 6 ∨ j = 7 ∨ j = 8 ∨ j = 9 ∨ j = 10 ∨ j = 11 ∨ j = 12 ∨ j = 13 ∨ j = 14 ∨ j = 15 ∨ j = 16 by omega) with rfl | rfl | rfl | rfl | rfl | rfl | rfl | rfl | rfl | rfl | rfl | rfl | rfl | rfl | rfl | rfl | rfl <;> rfl
  · obtain ⟨z1, z2, z3⟩ := hR.nw (k := 3) (n := 0) s_nw_o2.symm hP hD
    exact kk q H1 z1 z2 z3 hS1
theorem s_nw_o3 {ty : Nat → ClassId} {S : sT} {q n : Nat} : s_E ty (s_nw S q 4 n) q = .inr (3, [.null, .null, .null, .int 0, .int 0, .int 0, .int 0, .int 0, .int 0, .int 0]) := by
  rw [s_E_3 s_nw_K]
  simp only [s_nw_I, s_nw_R, s_nw_J, va_rf]
theorem x_nw_3 {p : Program} {l : Launch} {e : Env} {R : Room} {s : State} {m : MethodId} {args : Array Value} {below : List Frame} {meth : Method} {c : Code} {H : Heap} {locs : List Loc} {cells slots : Nat} {Q : State → Prop} {cc : ByteArray} {own : String} {gg : sG} {S : sT} {pc a : Nat} {ls : Array Slot} {rest : List Value} {index : Nat} (hC : x_C p s m args c cc own gg) (hR : s_Rep gg S H) (hS : va_S (s_A gg) s.heap H locs) (hcl : Cond.classLink own index RX2 ∈ wsL_law) (hinst : Cond.instantiable RX2 10 ∈ wsL_law) (hini : Cond.initialized RX2 ∈ wsL_law) (hcells : cells + 1 ≤ R.cells) (hslots : slots + 10 ≤ R.slots) (hdg : decode cc pc = .ok (.new index, 3)) (kk : ∀ (q : Nat) (H1 : Heap), q ∉ s_L S → s_fr S q → s_Rep gg (s_nw S q 4 0) H1 → va_S (s_A gg) s.heap H1 locs → W p l e R s m args below meth c H1 locs (cells + 1) (slots + 10) Q (F0 m (pc + 3) ls (.ref q :: rest))) : W p l e R s m args below meth c H locs cells slots Q (F0 m pc ls rest) := by
  refine va_new (ci := 3) (fs := [.null, .null, .null, .int 0, .int 0, .int 0, .int 0, .int 0, .int 0, .int 0]) (C := RX2) (T := TX2) (N := 10) hC.1 hC.2.1 hC.2.2.1 inlX2 tyX2 tyX2_ok hC.2.2.2.1 (hC.2.2.1 _ hcl) (hC.2.2.1 _ hinst) (hC.2.2.1 _ hini) hC.2.2.2.2.1 hR.1 hR.2.1 hS (s_A_ge hC.2.2.2.2 rfl) rfl (fun j hj => ?_) hcells hslots hdg (fun q H1 hP hD hS1 => ?_)
  · rcases (show j = 0 ∨ j = 1 ∨ j = 2 ∨ j = 3 ∨ j = 4 ∨ j = 5 ∨ j = 6 ∨ j = 7 ∨ j = 8 ∨ j = 9 by omega) with rfl | rfl | rfl | rfl | rfl | rfl | rfl | rfl | rfl | rfl <;> rfl
  · obtain ⟨z1, z2, z3⟩ := hR.nw (k := 4) (n := 0) s_nw_o3.symm hP hD
    exact kk q H1 z1 z2 z3 hS1
theorem s_nw_o4 {ty : Nat → ClassId} {S : sT} {q n : Nat} : s_E ty (s_nw S q 5 n) q = .inr (4, [.int 0, .int 0, .int 0, .int 0]) := by
  rw [s_E_4 s_nw_K]
  simp only [s_nw_I, s_nw_R, s_nw_J, va_rf]
theorem x_nw_4 {p : Program} {l : Launch} {e : Env} {R : Room} {s : State} {m : MethodId} {args : Array Value} {below : List Frame} {meth : Method} {c : Code} {H : Heap} {locs : List Loc} {cells slots : Nat} {Q : State → Prop} {cc : ByteArray} {own : String} {gg : sG} {S : sT} {pc a : Nat} {ls : Array Slot} {rest : List Value} {index : Nat} (hC : x_C p s m args c cc own gg) (hR : s_Rep gg S H) (hS : va_S (s_A gg) s.heap H locs) (hcl : Cond.classLink own index RX3 ∈ wsL_law) (hinst : Cond.instantiable RX3 4 ∈ wsL_law) (hini : Cond.initialized RX3 ∈ wsL_law) (hcells : cells + 1 ≤ R.cells) (hslots : slots + 4 ≤ R.slots) (hdg : decode cc pc = .ok (.new index, 3)) (kk : ∀ (q : Nat) (H1 : Heap), q ∉ s_L S → s_fr S q → s_Rep gg (s_nw S q 5 0) H1 → va_S (s_A gg) s.heap H1 locs → W p l e R s m args below meth c H1 locs (cells + 1) (slots + 4) Q (F0 m (pc + 3) ls (.ref q :: rest))) : W p l e R s m args below meth c H locs cells slots Q (F0 m pc ls rest) := by
  refine va_new (ci := 4) (fs := [.int 0, .int 0, .int 0, .int 0]) (C := RX3) (T := TX3) (N := 4) hC.1 hC.2.1 hC.2.2.1 inlX3 tyX3 tyX3_ok hC.2.2.2.1 (hC.2.2.1 _ hcl) (hC.2.2.1 _ hinst) (hC.2.2.1 _ hini) hC.2.2.2.2.1 hR.1 hR.2.1 hS (s_A_ge hC.2.2.2.2 rfl) rfl (fun j hj => ?_) hcells hslots hdg (fun q H1 hP hD hS1 => ?_)
  · rcases (show j = 0 ∨ j = 1 ∨ j = 2 ∨ j = 3 by omega) with rfl | rfl | rfl | rfl <;> rfl
  · obtain ⟨z1, z2, z3⟩ := hR.nw (k := 5) (n := 0) s_nw_o4.symm hP hD
    exact kk q H1 z1 z2 z3 hS1
theorem s_nw_o5 {ty : Nat → ClassId} {S : sT} {q n : Nat} : s_E ty (s_nw S q 6 n) q = .inr (5, [.int 0, .int 0, .int 0]) := by
  rw [s_E_5 s_nw_K]
  simp only [s_nw_I, s_nw_R, s_nw_J, va_rf]
theorem x_nw_5 {p : Program} {l : Launch} {e : Env} {R : Room} {s : State} {m : MethodId} {args : Array Value} {below : List Frame} {meth : Method} {c : Code} {H : Heap} {locs : List Loc} {cells slots : Nat} {Q : State → Prop} {cc : ByteArray} {own : String} {gg : sG} {S : sT} {pc a : Nat} {ls : Array Slot} {rest : List Value} {index : Nat} (hC : x_C p s m args c cc own gg) (hR : s_Rep gg S H) (hS : va_S (s_A gg) s.heap H locs) (hcl : Cond.classLink own index RX4 ∈ wsL_law) (hinst : Cond.instantiable RX4 3 ∈ wsL_law) (hini : Cond.initialized RX4 ∈ wsL_law) (hcells : cells + 1 ≤ R.cells) (hslots : slots + 3 ≤ R.slots) (hdg : decode cc pc = .ok (.new index, 3)) (kk : ∀ (q : Nat) (H1 : Heap), q ∉ s_L S → s_fr S q → s_Rep gg (s_nw S q 6 0) H1 → va_S (s_A gg) s.heap H1 locs → W p l e R s m args below meth c H1 locs (cells + 1) (slots + 3) Q (F0 m (pc + 3) ls (.ref q :: rest))) : W p l e R s m args below meth c H locs cells slots Q (F0 m pc ls rest) := by
  refine va_new (ci := 5) (fs := [.int 0, .int 0, .int 0]) (C := RX4) (T := TX4) (N := 3) hC.1 hC.2.1 hC.2.2.1 inlX4 tyX4 tyX4_ok hC.2.2.2.1 (hC.2.2.1 _ hcl) (hC.2.2.1 _ hinst) (hC.2.2.1 _ hini) hC.2.2.2.2.1 hR.1 hR.2.1 hS (s_A_ge hC.2.2.2.2 rfl) rfl (fun j hj => ?_) hcells hslots hdg (fun q H1 hP hD hS1 => ?_)
  · rcases (show j = 0 ∨ j = 1 ∨ j = 2 by omega) with rfl | rfl | rfl <;> rfl
  · obtain ⟨z1, z2, z3⟩ := hR.nw (k := 6) (n := 0) s_nw_o5.symm hP hD
    exact kk q H1 z1 z2 z3 hS1
theorem s_nw_o6 {ty : Nat → ClassId} {S : sT} {q n : Nat} : s_E ty (s_nw S q 7 n) q = .inr (6, [.int 0, .int 0, .int 0, .null, .int 0, .int 0, .int 0, .int 0, .int 0, .int 0, .int 0, .int 0]) := by
  rw [s_E_6 s_nw_K]
  simp only [s_nw_I, s_nw_R, s_nw_J, va_rf]
theorem x_nw_6 {p : Program} {l : Launch} {e : Env} {R : Room} {s : State} {m : MethodId} {args : Array Value} {below : List Frame} {meth : Method} {c : Code} {H : Heap} {locs : List Loc} {cells slots : Nat} {Q : State → Prop} {cc : ByteArray} {own : String} {gg : sG} {S : sT} {pc a : Nat} {ls : Array Slot} {rest : List Value} {index : Nat} (hC : x_C p s m args c cc own gg) (hR : s_Rep gg S H) (hS : va_S (s_A gg) s.heap H locs) (hcl : Cond.classLink own index RX5 ∈ wsL_law) (hinst : Cond.instantiable RX5 12 ∈ wsL_law) (hini : Cond.initialized RX5 ∈ wsL_law) (hcells : cells + 1 ≤ R.cells) (hslots : slots + 12 ≤ R.slots) (hdg : decode cc pc = .ok (.new index, 3)) (kk : ∀ (q : Nat) (H1 : Heap), q ∉ s_L S → s_fr S q → s_Rep gg (s_nw S q 7 0) H1 → va_S (s_A gg) s.heap H1 locs → W p l e R s m args below meth c H1 locs (cells + 1) (slots + 12) Q (F0 m (pc + 3) ls (.ref q :: rest))) : W p l e R s m args below meth c H locs cells slots Q (F0 m pc ls rest) := by
  refine va_new (ci := 6) (fs := [.int 0, .int 0, .int 0, .null, .int 0, .int 0, .int 0, .int 0, .int 0, .int 0, .int 0, .int 0]) (C := RX5) (T := TX5) (N := 12) hC.1 hC.2.1 hC.2.2.1 inlX5 tyX5 tyX5_ok hC.2.2.2.1 (hC.2.2.1 _ hcl) (hC.2.2.1 _ hinst) (hC.2.2.1 _ hini) hC.2.2.2.2.1 hR.1 hR.2.1 hS (s_A_ge hC.2.2.2.2 rfl) rfl (fun j hj => ?_) hcells hslots hdg (fun q H1 hP hD hS1 => ?_)
  · rcases (show j = 0 ∨ j = 1 ∨ j = 2 ∨ j = 3 ∨ j = 4 ∨ j = 5 ∨ j = 6 ∨ j = 7 ∨ j = 8 ∨ j = 9 ∨ j = 10 ∨ j = 11 by omega) with rfl | rfl | rfl | rfl | rfl | rfl | rfl | rfl | rfl | rfl | rfl | rfl <;> rfl
  · obtain ⟨z1, z2, z3⟩ := hR.nw (k := 7) (n := 0) s_nw_o6.symm hP hD
    exact kk q H1 z1 z2 z3 hS1
theorem s_nw_o7 {ty : Nat → ClassId} {S : sT} {q n : Nat} : s_E ty (s_nw S q 8 n) q = .inr (7, [.null, .null]) := by
  rw [s_E_7 s_nw_K]
  simp only [s_nw_I, s_nw_R, s_nw_J, va_rf]
theorem x_nw_7 {p : Program} {l : Launch} {e : Env} {R : Room} {s : State} {m : MethodId} {args : Array Value} {below : List Frame} {meth : Method} {c : Code} {H : Heap} {locs : List Loc} {cells slots : Nat} {Q : State → Prop} {cc : ByteArray} {own : String} {gg : sG} {S : sT} {pc a : Nat} {ls : Array Slot} {rest : List Value} {index : Nat} (hC : x_C p s m args c cc own gg) (hR : s_Rep gg S H) (hS : va_S (s_A gg) s.heap H locs) (hcl : Cond.classLink own index RX6 ∈ wsL_law) (hinst : Cond.instantiable RX6 2 ∈ wsL_law) (hini : Cond.initialized RX6 ∈ wsL_law) (hcells : cells + 1 ≤ R.cells) (hslots : slots + 2 ≤ R.slots) (hdg : decode cc pc = .ok (.new index, 3)) (kk : ∀ (q : Nat) (H1 : Heap), q ∉ s_L S → s_fr S q → s_Rep gg (s_nw S q 8 0) H1 → va_S (s_A gg) s.heap H1 locs → W p l e R s m args below meth c H1 locs (cells + 1) (slots + 2) Q (F0 m (pc + 3) ls (.ref q :: rest))) : W p l e R s m args below meth c H locs cells slots Q (F0 m pc ls rest) := by
  refine va_new (ci := 7) (fs := [.null, .null]) (C := RX6) (T := TX6) (N := 2) hC.1 hC.2.1 hC.2.2.1 inlX6 tyX6 tyX6_ok hC.2.2.2.1 (hC.2.2.1 _ hcl) (hC.2.2.1 _ hinst) (hC.2.2.1 _ hini) hC.2.2.2.2.1 hR.1 hR.2.1 hS (s_A_ge hC.2.2.2.2 rfl) rfl (fun j hj => ?_) hcells hslots hdg (fun q H1 hP hD hS1 => ?_)
  · rcases (show j = 0 ∨ j = 1 by omega) with rfl | rfl <;> rfl
  · obtain ⟨z1, z2, z3⟩ := hR.nw (k := 8) (n := 0) s_nw_o7.symm hP hD
    exact kk q H1 z1 z2 z3 hS1
theorem s_nw_o8 {ty : Nat → ClassId} {S : sT} {q n : Nat} : s_E ty (s_nw S q 9 n) q = .inr (8, [.null, .null, .null, .null, .null]) := by
  rw [s_E_8 s_nw_K]
  simp only [s_nw_I, s_nw_R, s_nw_J, va_rf]
theorem x_nw_8 {p : Program} {l : Launch} {e : Env} {R : Room} {s : State} {m : MethodId} {args : Array Value} {below : List Frame} {meth : Method} {c : Code} {H : Heap} {locs : List Loc} {cells slots : Nat} {Q : State → Prop} {cc : ByteArray} {own : String} {gg : sG} {S : sT} {pc a : Nat} {ls : Array Slot} {rest : List Value} {index : Nat} (hC : x_C p s m args c cc own gg) (hR : s_Rep gg S H) (hS : va_S (s_A gg) s.heap H locs) (hcl : Cond.classLink own index RX7 ∈ wsL_law) (hinst : Cond.instantiable RX7 5 ∈ wsL_law) (hini : Cond.initialized RX7 ∈ wsL_law) (hcells : cells + 1 ≤ R.cells) (hslots : slots + 5 ≤ R.slots) (hdg : decode cc pc = .ok (.new index, 3)) (kk : ∀ (q : Nat) (H1 : Heap), q ∉ s_L S → s_fr S q → s_Rep gg (s_nw S q 9 0) H1 → va_S (s_A gg) s.heap H1 locs → W p l e R s m args below meth c H1 locs (cells + 1) (slots + 5) Q (F0 m (pc + 3) ls (.ref q :: rest))) : W p l e R s m args below meth c H locs cells slots Q (F0 m pc ls rest) := by
  refine va_new (ci := 8) (fs := [.null, .null, .null, .null, .null]) (C := RX7) (T := TX7) (N := 5) hC.1 hC.2.1 hC.2.2.1 inlX7 tyX7 tyX7_ok hC.2.2.2.1 (hC.2.2.1 _ hcl) (hC.2.2.1 _ hinst) (hC.2.2.1 _ hini) hC.2.2.2.2.1 hR.1 hR.2.1 hS (s_A_ge hC.2.2.2.2 rfl) rfl (fun j hj => ?_) hcells hslots hdg (fun q H1 hP hD hS1 => ?_)
  · rcases (show j = 0 ∨ j = 1 ∨ j = 2 ∨ j = 3 ∨ j = 4 by omega) with rfl | rfl | rfl | rfl | rfl <;> rfl
  · obtain ⟨z1, z2, z3⟩ := hR.nw (k := 9) (n := 0) s_nw_o8.symm hP hD
    exact kk q H1 z1 z2 z3 hS1
theorem s_nw_o9 {ty : Nat → ClassId} {S : sT} {q n : Nat} : s_E ty (s_nw S q 10 n) q = .inr (9, [.int 0, .null, .long 0]) := by
  rw [s_E_9 s_nw_K]
  simp only [s_nw_I, s_nw_R, s_nw_J, va_rf]
theorem x_nw_9 {p : Program} {l : Launch} {e : Env} {R : Room} {s : State} {m : MethodId} {args : Array Value} {below : List Frame} {meth : Method} {c : Code} {H : Heap} {locs : List Loc} {cells slots : Nat} {Q : State → Prop} {cc : ByteArray} {own : String} {gg : sG} {S : sT} {pc a : Nat} {ls : Array Slot} {rest : List Value} {index : Nat} (hC : x_C p s m args c cc own gg) (hR : s_Rep gg S H) (hS : va_S (s_A gg) s.heap H locs) (hcl : Cond.classLink own index RX8 ∈ wsL_law) (hinst : Cond.instantiable RX8 3 ∈ wsL_law) (hini : Cond.initialized RX8 ∈ wsL_law) (hcells : cells + 1 ≤ R.cells) (hslots : slots + 3 ≤ R.slots) (hdg : decode cc pc = .ok (.new index, 3)) (kk : ∀ (q : Nat) (H1 : Heap), q ∉ s_L S → s_fr S q → s_Rep gg (s_nw S q 10 0) H1 → va_S (s_A gg) s.heap H1 locs → W p l e R s m args below meth c H1 locs (cells + 1) (slots + 3) Q (F0 m (pc + 3) ls (.ref q :: rest))) : W p l e R s m args below meth c H locs cells slots Q (F0 m pc ls rest) := by
  refine va_new (ci := 9) (fs := [.int 0, .null, .long 0]) (C := RX8) (T := TX8) (N := 3) hC.1 hC.2.1 hC.2.2.1 inlX8 tyX8 tyX8_ok hC.2.2.2.1 (hC.2.2.1 _ hcl) (hC.2.2.1 _ hinst) (hC.2.2.1 _ hini) hC.2.2.2.2.1 hR.1 hR.2.1 hS (s_A_ge hC.2.2.2.2 rfl) rfl (fun j hj => ?_) hcells hslots hdg (fun q H1 hP hD hS1 => ?_)
  · rcases (show j = 0 ∨ j = 1 ∨ j = 2 by omega) with rfl | rfl | rfl <;> rfl
  · obtain ⟨z1, z2, z3⟩ := hR.nw (k := 10) (n := 0) s_nw_o9.symm hP hD
    exact kk q H1 z1 z2 z3 hS1
