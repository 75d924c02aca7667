/-! ===== a new field on a hill ===== -/
section
variable {D T D2 : Nat → Prop} {S S' S0 S1 : sT} {a b q l k n m x y i j : Nat} {f : Nat → Nat} {G : Nat → Nat → Nat} {E : eT} {Y : yT}
def gE (E : eT) (i : Nat) : eT := (E.1, E.2.1 + 1, fun k => if k = E.2.1 then i else E.2.2 k)
theorem gE_lt (h : k < E.2.1) : (gE E i).2.2 k = E.2.2 k := if_neg (by omega)
theorem gE_n : (gE E i).2.2 E.2.1 = i := if_pos rfl
theorem filter_lt {p q : Nat → Bool} {n : Nat} (h : ∀ k, k < n → p k = q k) : (List.range n).filter p = (List.range n).filter q :=
  List.filter_congr (fun k hk => h k (List.mem_range.mp hk))
theorem mem_gE : ce_mem (gE E i) i = ce_mem E i ++ [E.2.1] := by
  unfold ce_mem
  show (List.range (E.2.1 + 1)).filter _ = _
  rw [List.range_succ, List.filter_append, filter_lt (q := fun k => E.2.2 k == i) (fun k hk => by rw [gE_lt hk])]
  congr 1
  rw [List.filter_cons]
  rw [if_pos (by rw [gE_n]; exact beq_self_eq_true _), List.filter_nil]
theorem mem_gEo (h : j ≠ i) : ce_mem (gE E i) j = ce_mem E j := by
  unfold ce_mem
  show (List.range (E.2.1 + 1)).filter _ = _
  rw [List.range_succ, List.filter_append, filter_lt (q := fun k => E.2.2 k == j) (fun k hk => by rw [gE_lt hk])]
  rw [List.filter_cons, if_neg (by rw [gE_n]; exact fun z => h (eq_of_beq z).symm), List.filter_nil, List.append_nil]
theorem nxt_gE (hk : k < E.2.1) : ce_nxt (gE E i) k = (ce_nxt E k).or (if E.2.2 k = i then some E.2.1 else none) := by
  unfold ce_nxt
  show ((List.range (E.2.1 + 1)).filter _).head? = _
  rw [List.range_succ, List.filter_append, List.head?_append, filter_lt (q := fun j => E.2.2 j == E.2.2 k && decide (k < j)) (fun j hj => by rw [gE_lt hj, gE_lt hk])]
  congr 1
  rw [List.filter_cons, gE_n, gE_lt hk]
  by_cases z : E.2.2 k = i
  · rw [if_pos z, if_pos (by rw [z, decide_eq_true hk, beq_self_eq_true]; rfl)]
    rfl
  · rw [if_neg z, if_neg (by rw [show (i == E.2.2 k) = false from beq_false_of_ne (fun e => z e.symm)]; exact Bool.false_ne_true)]
    rfl
theorem nxt_gEn : ce_nxt (gE E i) E.2.1 = none := by
  unfold ce_nxt
  rw [List.filter_eq_nil_iff.mpr (fun j hj z => ?_)]
  · rfl
  · have h1 : j < E.2.1 + 1 := List.mem_range.mp hj
    have h2 := (Bool.and_eq_true_iff.mp z).2
    have := of_decide_eq_true h2
    omega
/-- the last of a society's fields -/
def lastK (E : eT) (i : Nat) : Nat := (ce_mem E i).getD ((ce_mem E i).length - 1) 0
theorem mem_in : k ∈ ce_mem E i ↔ k < E.2.1 ∧ E.2.2 k = i := by
  unfold ce_mem
  rw [List.mem_filter, List.mem_range]
  exact ⟨fun h => ⟨h.1, eq_of_beq h.2⟩, fun h => ⟨h.1, by rw [h.2]; exact beq_self_eq_true _⟩⟩
theorem mem_at (h : j < (ce_mem E i).length) : (ce_mem E i).getD j 0 ∈ ce_mem E i := by
  rw [List.getD_eq_getElem?_getD, List.getElem?_eq_getElem h]
  exact List.getElem_mem h
theorem last_max (hk : k ∈ ce_mem E i) : k ≤ lastK E i := by
  obtain ⟨p, hp, rfl⟩ := List.getElem_of_mem hk
  unfold lastK
  rw [List.getD_eq_getElem?_getD, List.getElem?_eq_getElem (show (ce_mem E i).length - 1 < (ce_mem E i).length by omega)]
  show (ce_mem E i)[p] ≤ (ce_mem E i)[(ce_mem E i).length - 1]
  have hs : (ce_mem E i).Pairwise (· < ·) := List.Pairwise.filter _ List.pairwise_lt_range
  by_cases z : p = (ce_mem E i).length - 1
  · simp only [z]; exact Nat.le_refl _
  · exact Nat.le_of_lt (List.pairwise_iff_getElem.mp hs p _ hp (by omega) (by omega))
theorem nxt_last (hk : k < E.2.1) (hi : E.2.2 k = i) : ce_nxt E k = none ↔ k = lastK E i := by
  have hm : k ∈ ce_mem E i := mem_in.mpr ⟨hk, hi⟩
  constructor
  · intro h
    have h1 := last_max hm
    have hpos : 0 < (ce_mem E i).length := List.length_pos_of_mem hm
    have h2 : lastK E i ∈ ce_mem E i := mem_at (by omega)
    obtain ⟨h3, h4⟩ := mem_in.mp h2
    have h5 : ¬ k < lastK E i := fun z => by
      unfold ce_nxt at h
      rw [List.head?_eq_none_iff] at h
      have := List.filter_eq_nil_iff.mp h (lastK E i) (List.mem_range.mpr h3)
      exact this (by rw [h4, hi, beq_self_eq_true, decide_eq_true z]; rfl)
    omega
  · intro h
    cases e : ce_nxt E k with
    | none => rfl
    | some j =>
      unfold ce_nxt at e
      have hj := List.mem_of_head? e
      obtain ⟨h1, h2⟩ := List.mem_filter.mp hj
      obtain ⟨h3, h4⟩ := Bool.and_eq_true_iff.mp h2
      have h5 := of_decide_eq_true h4
      have h6 : j ∈ ce_mem E i := mem_in.mpr ⟨List.mem_range.mp h1, by rw [← hi]; exact eq_of_beq h3⟩
      have := last_max h6
      omega
/-- a field's first numbers -/
def fld0 (x1 x3 x4 : Int32) (g : Nat) : Int32 := if g = 67 then x4 else if g = 66 then x3 else if g = 64 then x1 else 0
def own0 (g : Nat) : Int32 := if g = 160 then 20 else 0
def cro0 (g : Nat) : Int32 := if g = 39 then 120 else if g = 36 then 20 else if g = 33 then -1 else 0
theorem s1_init {Q : sT → Prop} {x1 x3 x4 : Int32} {x2 mc ms : Nat} (hA : AL S) (hk : s_K S q = 3) (hv : ∀ g, s_I S g q = 0) (hr : s_R S 70 q = none) (hmc : 2 ≤ mc) (hms : 11 ≤ ms) (hQ : ∀ S' o c, FRM (fun y => y = q) no_ S S' → AL S' → s_K S o = 0 → s_K S c = 0 → s_K S' o = 6 → s_K S' c = 2 → s_R S' 68 q = some o → s_R S' 69 q = some c → s_R S' 65 q = some x2 → s_R S' 70 q = none → (∀ g, s_I S' g q = fld0 x1 x3 x4 g) → (∀ g, s_I S' g o = own0 g) → (∀ g, s_I S' g c = cro0 g) → Q S') : wA_X1_init mc ms q x1 x2 x3 x4 S Q := by
  have hq0 : s_K S q ≠ 0 := by rw [hk]; decide
  unfold wA_X1_init wA_X1_init_b0
  refine ⟨by omega, by omega, fun o ho S1 e1 => ?_⟩
  have hoq : q ≠ o := fr_ne ho hq0
  unfold w_X4_init w_X4_init_b0
  refine ⟨by rw [e1]; exact s_nw_K, fun S2 e2 => ?_⟩
  have F2 : FRM no_ no_ S S2 := by rw [e2, e1]; exact (FRM.refl.nw ho).sI (Or.inl ho.1)
  have A2 : AL S2 := by rw [e2, e1]; exact AL_nw hA ho
  have k2 : s_K S2 o = 6 := by rw [e2, e1]; exact s_nw_K (n := 0)
  have i2 : ∀ g, s_I S2 g o = own0 g := fun g => by
    rw [e2, e1]
    show s_up2 (s_I (s_nw S o 6 0)) 160 o 20 g o = _
    unfold s_up2 own0
    simp only [and_true]
    by_cases z : g = 160
    · rw [if_pos z, if_pos z]
    · rw [if_neg z, if_neg z]; exact if_pos rfl
  clear e2 e1
  have q2 := F2.ob hk (by decide) (fun z => z)
  refine ⟨q2.1, fun S3 e3 => ⟨by omega, by omega, fun c hc S4 e4 => ?_⟩⟩
  have F3 : FRM (fun y => y = q) no_ S2 S3 := by rw [e3]; exact FRM.refl.sR (Or.inr (Or.inl rfl)) (by decide) (by decide)
  have A3 : AL S3 := by rw [e3]; exact AL_sR A2 (by decide) (by decide) (by decide)
  have q3 : s_K S3 q = 3 ∧ (∀ g, s_I S3 g q = 0) ∧ s_R S3 68 q = some o ∧ s_R S3 70 q = none := by
    rw [e3]
    exact ⟨q2.1, fun g => (q2.2.1 g).trans (hv g), sR_s, (sR_o (fun z => absurd z.1 (by decide))).trans ((q2.2.2 70).trans hr)⟩
  have o3 : s_K S3 o = 6 ∧ ∀ g, s_I S3 g o = own0 g := by rw [e3]; exact ⟨k2, i2⟩
  clear e3
  have hcq : q ≠ c := fr_ne hc (by rw [q3.1]; decide)
  have hco : o ≠ c := fr_ne hc (by rw [o3.1]; decide)
  unfold w_X0_init w_X0_init_b0
  refine ⟨by rw [e4]; exact s_nw_K, fun T1 f1 T2 f2 T3 f3 T4 f4 => ?_⟩
  have F4 : FRM no_ no_ S3 T4 := by rw [f4, f3, f2, f1, e4]; exact ((((FRM.refl.nw hc).sI (Or.inl hc.1)).sI (Or.inl hc.1)).sI (Or.inl hc.1)).sI (Or.inl hc.1)
  have A4 : AL T4 := by rw [f4, f3, f2, f1, e4]; exact AL_nw A3 hc
  have k4 : s_K T4 c = 2 := by rw [f4, f3, f2, f1, e4]; exact s_nw_K (n := 0)
  have i4 : ∀ g, s_I T4 g c = cro0 g := fun g => by
    rw [f4, f3, f2, f1, e4]
    show s_up2 (s_up2 (s_up2 (s_up2 (s_I (s_nw S3 c 2 0)) 32 c 0) 33 c (-1)) 36 c 20) 39 c 120 g c = _
    unfold s_up2 cro0
    simp only [and_true]
    have hz : s_I (s_nw S3 c 2 0) g c = 0 := if_pos rfl
    rw [hz]
    by_cases z : g = 32
    · rw [z]; rfl
    · rw [if_neg z]
  clear f4 f3 f2 f1 e4
  have q4 := F4.ob q3.1 (by decide) (fun z => z)
  have o4 := F4.ob o3.1 (by decide) (fun z => z)
  refine ⟨q4.1, fun S5 e5 S6 e6 S7 e7 S8 e8 S9 e9 => ?_⟩
  have G : FRM (fun y => y = q) no_ S T4 := ((F2.mono (fun _ _ z => False.elim z)).trans F3 (fun _ _ z => z) (fun _ _ z => z)).trans F4 (fun _ _ z => False.elim z) (fun _ _ z => z)
  have F9 : FRM (fun y => y = q) no_ S S9 := by
    rw [e9, e8, e7, e6, e5]
    exact ((((G.sR (Or.inr (Or.inl rfl)) (by decide) (by decide)).sI (Or.inr rfl)).sR (Or.inr (Or.inl rfl)) (by decide) (by decide)).sI (Or.inr rfl)).sI (Or.inr rfl)
  have A9 : AL S9 := by
    have h5 : AL (s_sR (s_sR T4 69 q (some c)) 65 q (some x2)) := AL_sR (AL_sR A4 (by decide) (by decide) (by decide)) (by decide) (by decide) (by decide)
    refine AL_eq ?_ ?_ ?_ h5
    · rw [e9, e8, e7, e6, e5]; rfl
    · rw [e9, e8, e7, e6, e5]; rfl
    · rw [e9, e8, e7, e6, e5]; rfl
  have hc0 : s_K S c = 0 := (F2.mono (D2 := fun y => y = q) (fun _ _ z => False.elim z)).trans F3 (fun _ _ z => z) (fun _ _ z => z) |>.fz hc.1
  have R9 : s_R S9 = s_up2 (s_up2 (s_R T4) 69 q (some c)) 65 q (some x2) := by rw [e9, e8, e7, e6, e5]; rfl
  have I9 : s_I S9 = s_up2 (s_up2 (s_up2 (s_I T4) 64 q x1) 66 q x3) 67 q x4 := by rw [e9, e8, e7, e6, e5]; rfl
  have K9 : s_K S9 = s_K T4 := by rw [e9, e8, e7, e6, e5]; rfl
  refine hQ S9 o c F9 A9 ho.1 hc0 (by rw [K9]; exact o4.1) (by rw [K9]; exact k4) ?_ ?_ ?_ ?_ (fun g => ?_) (fun g => ?_) (fun g => ?_)
  · rw [R9]; unfold s_up2
    rw [if_neg (fun z => absurd z.1 (by decide)), if_neg (fun z => absurd z.1 (by decide))]
    exact (q4.2.2 68).trans q3.2.2.1
  · rw [R9]; unfold s_up2
    rw [if_neg (fun z => absurd z.1 (by decide)), if_pos ⟨rfl, rfl⟩]
  · rw [R9]; unfold s_up2
    rw [if_pos ⟨rfl, rfl⟩]
  · rw [R9]; unfold s_up2
    rw [if_neg (fun z => absurd z.1 (by decide)), if_neg (fun z => absurd z.1 (by decide))]
    exact (q4.2.2 70).trans q3.2.2.2
  · rw [I9]; unfold s_up2 fld0
    simp only [and_true]
    rw [q4.2.1 g, q3.2.1 g]
  · rw [I9]; unfold s_up2
    rw [if_neg (fun z => hoq z.2.symm), if_neg (fun z => hoq z.2.symm), if_neg (fun z => hoq z.2.symm)]
    exact (o4.2.1 g).trans (o3.2 g)
  · rw [I9]; unfold s_up2
    rw [if_neg (fun z => hcq z.2.symm), if_neg (fun z => hcq z.2.symm), if_neg (fun z => hcq z.2.symm)]
    exact i4 g
end
