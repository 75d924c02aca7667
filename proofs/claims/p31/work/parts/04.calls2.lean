/-! ===== arrays, the class's static tables, casts, new cells ===== -/
theorem s_u_a0 {ty : Nat → ClassId} {S : sT} {a : Nat} (h : s_K S a = 11) (j : Nat) (v : Int32) (b : Nat) : va_up (s_E ty S) a (.inl (ty 0, s_N S a, .inl (upd (s_B S a) j v))) b = s_E ty (s_sB S a j v) b := by
  by_cases hb : b = a
  · subst hb
    rw [va_up_self, s_E_a0 (S := s_sB S b j v) h]
    have e : upd (s_B S b) j v = s_B (s_sB S b j v) b := by
      funext j1
      rw [s_B_sB]
      by_cases hj : j1 = j
      · rw [if_pos ⟨rfl, hj⟩]; simp [upd, hj]
      · rw [if_neg (fun z => hj z.2)]; simp [upd, hj]
    rw [e]; rfl
  · rw [va_up_ne _ _ hb]; exact s_E_sB hb
section XA
variable {p : Program} {l : Launch} {e : Env} {R : Room} {s : State} {m : MethodId} {args : Array Value} {below : List Frame} {meth : Method} {c : Code} {H : Heap} {locs : List Loc} {cells slots : Nat} {Q : State → Prop}
variable {cc : ByteArray} {own : String} {gg : sG} {S : sT} {pc a : Nat} {ls : Array Slot} {rest : List Value}
theorem x_iald (hC : x_C p s m args c cc own gg) (hR : s_Rep gg S H) (hk : s_K S a = 11) {i : Int32} (hin : vp_in i (s_N S a)) (hdg : decode cc pc = .ok (.iaload, 1)) (kk : W p l e R s m args below meth c H locs cells slots Q (F0 m (pc + 1) ls (.int (s_B S a i.toNatClampNeg) :: rest))) : W p l e R s m args below meth c H locs cells slots Q (F0 m pc ls (.int i :: .ref a :: rest)) := by
  obtain ⟨k0, hk0⟩ := s_pl_get (gg := gg) (hR.2.2.1 a (by rw [hk]; decide))
  rw [s_E_a0 hk] at hk0
  exact va_iald hC.1 hC.2.1 hC.2.2.2.2.1 hR.1 k0 0 hk0 rfl hin hdg kk
theorem x_aald12 (hC : x_C p s m args c cc own gg) (hR : s_Rep gg S H) (hk : s_K S a = 12) {i : Int32} (hin : vp_in i (s_N S a)) (hdg : decode cc pc = .ok (.aaload, 1)) (kk : W p l e R s m args below meth c H locs cells slots Q (F0 m (pc + 1) ls (va_rf (s_P S a i.toNatClampNeg) :: rest))) : W p l e R s m args below meth c H locs cells slots Q (F0 m pc ls (.int i :: .ref a :: rest)) := by
  obtain ⟨k0, hk0⟩ := s_pl_get (gg := gg) (hR.2.2.1 a (by rw [hk]; decide))
  rw [s_E_a1 hk] at hk0
  exact va_aldq hC.1 hC.2.1 hC.2.2.2.2.1 hR.1 k0 1 hk0 rfl hin hdg kk
theorem x_iast (hC : x_C p s m args c cc own gg) (hR : s_Rep gg S H) (hk : s_K S a = 11) (hS : va_S (s_A gg) s.heap H locs) {i x : Int32} (hin : vp_in i (s_N S a)) (hdg : decode cc pc = .ok (.iastore, 1)) (kk : ∀ (H1 : Heap) (locs1 : List Loc), s_Rep gg (s_sB S a i.toNatClampNeg x) H1 → va_S (s_A gg) s.heap H1 locs1 → W p l e R s m args below meth c H1 locs1 cells slots Q (F0 m (pc + 1) ls rest)) : W p l e R s m args below meth c H locs cells slots Q (F0 m pc ls (.int x :: .int i :: .ref a :: rest)) := by
  have ha := hR.2.2.1 a (by rw [hk]; decide)
  obtain ⟨k0, hk0⟩ := s_pl_get (gg := gg) ha
  have hk1 := hk0
  rw [s_E_a0 hk] at hk1
  exact va_iast hC.1 hC.2.1 hC.2.2.2.2.1 hR.1 hR.2.1 hS k0 0 hk1 rfl hin hdg (fun H1 locs1 hP hD hS1 => kk H1 locs1 (hR.up ha hk0 (s_u_a0 hk _ _) rfl rfl ⟨rfl, rfl⟩ hP hD) hS1)
theorem x_alen11 (hC : x_C p s m args c cc own gg) (hR : s_Rep gg S H) (hk : s_K S a = 11) (hdg : decode cc pc = .ok (.arraylength, 1)) (kk : W p l e R s m args below meth c H locs cells slots Q (F0 m (pc + 1) ls (.int (nI (s_N S a)) :: rest))) : W p l e R s m args below meth c H locs cells slots Q (F0 m pc ls (.ref a :: rest)) := by
  obtain ⟨k0, hk0⟩ := s_pl_get (gg := gg) (hR.2.2.1 a (by rw [hk]; decide))
  rw [s_E_a0 hk] at hk0
  exact va_alen hC.1 hC.2.1 hC.2.2.2.2.1 hR.1 k0 0 hk0 rfl rfl hdg kk
theorem x_alen12 (hC : x_C p s m args c cc own gg) (hR : s_Rep gg S H) (hk : s_K S a = 12) (hdg : decode cc pc = .ok (.arraylength, 1)) (kk : W p l e R s m args below meth c H locs cells slots Q (F0 m (pc + 1) ls (.int (nI (s_N S a)) :: rest))) : W p l e R s m args below meth c H locs cells slots Q (F0 m pc ls (.ref a :: rest)) := by
  obtain ⟨k0, hk0⟩ := s_pl_get (gg := gg) (hR.2.2.1 a (by rw [hk]; decide))
  rw [s_E_a1 hk] at hk0
  exact va_alen hC.1 hC.2.1 hC.2.2.2.2.1 hR.1 k0 1 hk0 rfl rfl hdg kk
theorem x_gsN {index : Nat} {host : String} (hC : x_C p s m args c cc own gg) (i : Nat) (hi : i < 6) (hS : va_S (s_A gg) s.heap H locs) (hl : (own, index, "Subakhall", s_tS i, "[I", host) ∈ s_nF) (hdg : decode cc pc = .ok (.getstatic index, 3)) (kk : W p l e R s m args below meth c H locs cells slots Q (F0 m (pc + 3) ls (.ref (gg.2.2.2 i) :: rest))) : W p l e R s m args below meth c H locs cells slots Q (F0 m pc ls rest) :=
  va_getsN (host := host) hC.1 hC.2.1 (hC.2.2.2.2.2.2.2.2.1 i hi).1 hS hC.2.2.2.1 (va_Nw.use rfl (hC.2.2.2.2.2.2.1 _ hl)) (fun _ h9 => h9) hdg kk
theorem x_alenT {i : Nat} (hC : x_C p s m args c cc own gg) (hi : i < 6) (hS : va_S (s_A gg) s.heap H locs) (hdg : decode cc pc = .ok (.arraylength, 1)) (kk : W p l e R s m args below meth c H locs cells slots Q (F0 m (pc + 1) ls (.int (nI (s_tN i)) :: rest))) : W p l e R s m args below meth c H locs cells slots Q (F0 m pc ls (.ref (gg.2.2.2 i) :: rest)) :=
  va_tlen hC.1 hC.2.1 (hC.2.2.2.2.2.2.2.2.1 i hi).2 hS rfl hdg kk
theorem x_ialdT {i : Nat} {x : Int32} (hC : x_C p s m args c cc own gg) (hi : i < 6) (hS : va_S (s_A gg) s.heap H locs) (hin : vp_in x (s_tN i)) (hdg : decode cc pc = .ok (.iaload, 1)) (kk : W p l e R s m args below meth c H locs cells slots Q (F0 m (pc + 1) ls (.int (s_tV i x.toNatClampNeg) :: rest))) : W p l e R s m args below meth c H locs cells slots Q (F0 m pc ls (.int x :: .ref (gg.2.2.2 i) :: rest)) :=
  va_ti hC.1 hC.2.1 (hC.2.2.2.2.2.2.2.2.1 i hi).2 hS hin rfl hdg kk
theorem x_cast {q : vw_C} {ci index : Nat} {fs : List Value} {nm : String} (hC : x_C p s m args c cc own gg) (hR : s_Rep gg S H) (hk : s_K S a ≠ 0) (he : s_E gg.2.1 S a = .inr (ci, fs)) (hc : vwCl[ci]? = some q) (hl : Cond.classLink own index nm ∈ wsL_law) (hq : q.1 = nm) (hdg : decode cc pc = .ok (.checkcast index, 3)) (kk : W p l e R s m args below meth c H locs cells slots Q (F0 m (pc + 3) ls (.ref a :: rest))) : W p l e R s m args below meth c H locs cells slots Q (F0 m pc ls (.ref a :: rest)) := by
  have hr := x_recv hC hR hk he hc
  subst hq
  exact va_castS hC.1 hC.2.1 hC.2.2.2.1 (hC.2.2.1 _ hl) ((hC.2.2.2.2.1.1 ci q hc).2) hr hdg kk
theorem x_tout {x : Int32} (lo hi : Int) (h : lo ≤ x.toInt → x.toInt ≤ hi → False) : x.toInt < lo ∨ hi < x.toInt := by
  by_cases h1 : x.toInt < lo
  · exact Or.inl h1
  · by_cases h2 : hi < x.toInt
    · exact Or.inr h2
    · exact absurd (h (by omega) (by omega)) id
theorem x_ti {x k : Int32} {i : Int} (h : x.toInt = i) (hk : k.toInt = i) : x = k := Int32.toInt_inj.mp (h.trans hk.symm)
theorem s_W_nw {q k n : Nat} {e1 : va_E} (hq : q ∉ s_L S) (he : e1 = s_E gg.2.1 (s_nw S q k n) q) : s_W gg S ++ [(q, e1)] = s_W gg (s_nw S q k n) := by
  show va_pl (s_L S) (s_E gg.2.1 S) ++ [(q, e1)] = va_pl (s_L S ++ [q]) (s_E gg.2.1 (s_nw S q k n))
  unfold va_pl
  rw [List.map_append, he]
  congr 1
  apply List.map_congr_left
  intro b hb
  have hne : b ≠ q := fun z => hq (z ▸ hb)
  rw [s_E_cg (S := S) (S1 := s_nw S q k n) (b := b)]
  · exact (va_up_ne _ _ hne).symm
  · exact (va_up_ne _ _ hne).symm
  · intro g; exact (if_neg hne).symm
  · intro g; exact (if_neg hne).symm
  · funext j; exact (if_neg hne).symm
  · funext j; exact (if_neg hne).symm
  · exact (if_neg hne).symm
  · funext j; exact (if_neg hne).symm
  · funext j; exact (if_neg hne).symm
theorem s_Rep.nw {H1 : Heap} {q k n : Nat} {e1 : va_E} (hR : s_Rep gg S H) (he : e1 = s_E gg.2.1 (s_nw S q k n) q) (hP : va_P gg.1 vwCl (s_W gg S ++ [(q, e1)]) H1) (hD : va_D (s_A gg) (s_W gg S ++ [(q, e1)])) : q ∉ s_L S ∧ s_fr S q ∧ s_Rep gg (s_nw S q k n) H1 := by
  have hq : q ∉ s_L S := va_pl_fresh2 (X := []) (A := s_A gg) (f := s_E gg.2.1 S) (e := e1) (by rw [List.nil_append]; exact hD)
  rw [s_W_nw hq he] at hP hD
  have hq0 : (0 : Nat) ≠ q := fun z => by
    have h1 := hD.2 (s_L S).length (q, s_E gg.2.1 (s_nw S q k n) q) (by
      show (va_pl (s_L S ++ [q]) _)[(s_L S).length]? = _
      unfold va_pl
      rw [List.map_append, List.getElem?_append_right (by rw [List.length_map]; exact Nat.le_refl _), List.length_map, Nat.sub_self]
      rfl)
    have h2 : gg.2.2.1 ≤ q := h1
    have h3 := hR.2.2.2.2
    omega
  have hq6 : gg.2.2.2 6 ≠ q := fun z => by
    have h1 := hD.2 (s_L S).length (q, s_E gg.2.1 (s_nw S q k n) q) (by
      show (va_pl (s_L S ++ [q]) _)[(s_L S).length]? = _
      unfold va_pl
      rw [List.map_append, List.getElem?_append_right (by rw [List.length_map]; exact Nat.le_refl _), List.length_map, Nat.sub_self]
      rfl)
    have h2 : gg.2.2.1 ≤ q := h1
    have h3 := hR.2.2.2.2
    omega
  refine ⟨hq, ⟨?_, fun z => hq0 z.symm, fun z => hq6 (Option.some.inj (hR.2.2.2.1.1.symm.trans z))⟩, hP, hD, fun b hb => ?_, ⟨(if_neg hq0).trans hR.2.2.2.1.1, (if_neg hq0).trans hR.2.2.2.1.2⟩, hR.2.2.2.2⟩
  · by_cases z : s_K S q = 0
    · exact z
    · exact absurd (hR.2.2.1 q z) hq
  · by_cases z : b = q
    · exact List.mem_append_right _ (by rw [z]; exact List.mem_cons_self)
    · refine List.mem_append_left _ (hR.2.2.1 b ?_)
      have : s_K (s_nw S q k n) b = s_K S b := va_up_ne _ _ z
      rw [← this]; exact hb
theorem s_nw_K {q k n : Nat} : s_K (s_nw S q k n) q = k := va_up_self _ _ _
theorem s_nw_N {q k n : Nat} : s_N (s_nw S q k n) q = n := va_up_self _ _ _
theorem s_nw_B {q k n : Nat} : s_B (s_nw S q k n) q = fun _ => 0 := funext fun _ => if_pos rfl
theorem s_nw_E0 {ty : Nat → ClassId} {q n : Nat} : s_E ty (s_nw S q 11 n) q = .inl (ty 0, n, .inl (fun _ => 0)) := by
  rw [s_E_a0 s_nw_K, s_nw_N, s_nw_B]
theorem s_A_ge {H0 : Heap} (hE : s_Env gg s) (hH : s.heap = H0) : ∀ q, H0.size ≤ q → s_A gg q := fun q h => Nat.le_trans hE.2.1 (by rw [hH]; exact h)
theorem x_newi (hC : x_C p s m args c cc own gg) (hR : s_Rep gg S H) (hS : va_S (s_A gg) s.heap H locs) {n : Int32} {N1 : Nat} (hw : Cond.arrayClass .int ∈ wsL_law) (hn : ¬ n < 0) (hN : n.toNatClampNeg = N1) (hb : N1 * 4 ≤ 536870912) (hcells : cells + 1 ≤ R.cells) (hslots : slots + N1 ≤ R.slots) (hdg : decode cc pc = .ok (.newarray .int, 2)) (kk : ∀ (q : Nat) (H1 : Heap), q ∉ s_L S → s_fr S q → s_Rep gg (s_nw S q 11 N1) H1 → va_S (s_A gg) s.heap H1 locs → W p l e R s m args below meth c H1 locs (cells + 1) (slots + N1) Q (F0 m (pc + 2) ls (.ref q :: rest))) : W p l e R s m args below meth c H locs cells slots Q (F0 m pc ls (.int n :: rest)) := by
  refine va_newa (atype := .int) (a0 := (N1, .inl (fun _ => 0))) (ty := .int) hC.1 hC.2.1 (hC.2.2.1 _ hw) rfl hC.2.2.2.2.1 hR.1 hR.2.1 hS (s_A_ge hC.2.2.2.2 rfl) (fun cA => rfl) hn hN hb hcells hslots hdg (fun q cA H1 hK hP hD hS1 => ?_)
  have e1 : cA = gg.2.1 0 := by
    have h1 := (hK.2 2 (cA, .int) rfl).2
    have h2 := (hC.2.2.2.2.1.2 0 (gg.2.1 0, .int) rfl).2
    exact Option.some.inj ((show s.vm.findClass _ = some cA from h1).symm.trans (show s.vm.findClass _ = some (gg.2.1 0) from h2))
  subst e1
  obtain ⟨z1, z2, z3⟩ := hR.nw (k := 11) (n := N1) s_nw_E0.symm hP hD
  exact kk q H1 z1 z2 z3 hS1
theorem xn_3 : (RX0, 73, "Subakhall", s_tS 3, "[I", "Subakhall") ∈ s_nF := List.mem_of_getElem? (i := 0) rfl
theorem xn_4 : (RX0, 70, "Subakhall", s_tS 0, "[I", "Subakhall") ∈ s_nF := List.mem_of_getElem? (i := 1) rfl
theorem xn_5 : (RX0, 67, "Subakhall", s_tS 1, "[I", "Subakhall") ∈ s_nF := List.mem_of_getElem? (i := 2) rfl
theorem xn_6 : (RX0, 64, "Subakhall", s_tS 2, "[I", "Subakhall") ∈ s_nF := List.mem_of_getElem? (i := 3) rfl
theorem xn_7 : (RX0, 55, "Subakhall", s_tS 5, "[I", "Subakhall") ∈ s_nF := List.mem_of_getElem? (i := 4) rfl
theorem xn_8 : (RX0, 47, "Subakhall", s_tS 4, "[I", "Subakhall") ∈ s_nF := List.mem_of_getElem? (i := 5) rfl
theorem xm_1 : (RX2, 23, yX3_init, "Subakhall") ∈ s_nM := List.mem_of_getElem? (i := 0) rfl
theorem xm_2 : (RX2, 145, yX6_isOnTheStalk, "Subakhall") ∈ s_nM := List.mem_of_getElem? (i := 1) rfl
theorem xm_3 : (RX1, 20, yX0_init, "Subakhall") ∈ s_nM := List.mem_of_getElem? (i := 2) rfl
theorem xm_4 : (RX1, 11, yX4_init, "Subakhall") ∈ s_nM := List.mem_of_getElem? (i := 3) rfl
theorem xm_5 : (RX1, 108, yX6_isOnTheStalk, "Subakhall") ∈ s_nM := List.mem_of_getElem? (i := 4) rfl
theorem xm_6 : (RX0, 51, yX6_inRow, "Subakhall") ∈ s_nM := List.mem_of_getElem? (i := 5) rfl
theorem xm_7 : (RX0, 36, yX6_isOnTheStalk, "Subakhall") ∈ s_nM := List.mem_of_getElem? (i := 6) rfl
theorem xm_8 : (RX6, 9, yX2_init, "Subakhall") ∈ s_nM := List.mem_of_getElem? (i := 7) rfl
end XA
def s_max (x y : Int32) : Int32 := if x < y then y else x
def s_min (x y : Int32) : Int32 := if y < x then y else x
