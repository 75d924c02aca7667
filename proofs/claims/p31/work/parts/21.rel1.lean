/-! ===== both sides' days: the societies ===== -/
section
variable {C : Nat → Prop} {E : eT} {V : yT} {T : Int} {D : Nat → Int} {M N : yT} {F : fT} {i k : Nat}
theorem nI_inj3 {a b : Nat} (ha : a < 2147483648) (hb : b < 2147483648) : nI a = nI b ↔ a = b := iff_of_eq (nI_eqi ha hb)
theorem d_12 (hC : CD C) (h : dRel C E V T D M N) : M 12 k = N 12 k := h.1 12 hC.1.2.2.2.2.2.2.1 k
theorem d_13 (hC : CD C) (h : dRel C E V T D M N) : M 13 k = N 13 k := h.1 13 hC.1.2.2.2.2.2.2.2.1 k
theorem d_15 (hC : CD C) (h : dRel C E V T D M N) : M 15 k = N 15 k := h.1 15 hC.1.2.2.2.2.2.2.2.2.2.1 k
theorem d_17 (hC : CD C) (h : dRel C E V T D M N) : M 17 k = N 17 k := h.1 17 hC.1.2.2.2.2.2.2.2.2.2.2.2.1 k
theorem d_33 (hC : CD C) (h : dRel C E V T D M N) : M 33 k = N 33 k := h.1 33 hC.1.2.2.2.2.2.2.2.2.2.2.2.2.2.1 k
theorem d_34 (hC : CD C) (h : dRel C E V T D M N) : M 34 k = N 34 k := h.1 34 hC.1.2.2.2.2.2.2.2.2.2.2.2.2.2.2.1 k
theorem d_35 (hC : CD C) (h : dRel C E V T D M N) : M 35 k = N 35 k := h.1 35 hC.1.2.2.2.2.2.2.2.2.2.2.2.2.2.2.2.1 k
theorem d_37 (hC : CD C) (h : dRel C E V T D M N) : M 37 k = N 37 k := h.1 37 hC.1.2.2.2.2.2.2.2.2.2.2.2.2.2.2.2.2.1 k
theorem d_38 (hC : CD C) (h : dRel C E V T D M N) : M 38 k = N 38 k := h.1 38 hC.1.2.2.2.2.2.2.2.2.2.2.2.2.2.2.2.2.2.1 k
theorem d_39 (hC : CD C) (h : dRel C E V T D M N) : M 39 k = N 39 k := h.1 39 hC.1.2.2.2.2.2.2.2.2.2.2.2.2.2.2.2.2.2.2.1 k
theorem d_64 (hC : CD C) (h : dRel C E V T D M N) : M 64 k = N 64 k := h.1 64 hC.1.2.2.2.2.2.2.2.2.2.2.2.2.2.2.2.2.2.2.2.1 k
theorem d_68 (hC : CD C) (h : dRel C E V T D M N) : M 68 k = N 68 k := h.1 68 hC.1.2.2.2.2.2.2.2.2.2.2.2.2.2.2.2.2.2.2.2.2 k
theorem d_of (hW : EW E V) (h : dRel C E V T D M N) (hk : k < E.2.1) : N 0 k = nI (E.2.2 k) := (h.2.2.2.2.1.2 0 (Or.inl rfl) k).trans (hW.2.2.2 k hk)
theorem d_op (h : dRel C E V T D M N) (hk : k < E.2.1) : M 12 k = 0 ∨ M 12 k = 1 := (h.2.2.1 k hk).2.2.1.1
theorem d_part (h : dRel C E V T D M N) (hk : k < E.2.1) : 1 ≤ (M 13 k + M 15 k).toInt ∧ (M 13 k + M 15 k).toInt ≤ 14 := by
  obtain ⟨-, a, b, c, d, -⟩ := (h.2.2.1 k hk).2.2.1
  rw [ti_add (by omega) (by omega)]
  omega
theorem tk_eq (hC : CD C) (hW : EW E V) (h : dRel C E V T D M N) (hk : k < E.2.1) (hi : i < E.1) : tkR N i k = if E.2.2 k = i then tkI M k else 0 := by
  have h1 := hW.2.2.1 k hk
  have h2 := hW.1
  unfold tkR tkI
  rw [d_of hW h hk, ← d_12 hC h, ← d_17 hC h]
  simp only [nI_inj3 (show E.2.2 k < 2147483648 by omega) (show i < 2147483648 by omega)]
  rcases d_op h hk with e | e
  · rw [e]; simp
  · rw [e]; simp
def onO (f : Int32) (o : Option Nat) : Int32 := match o with
  | none => f
  | some k => nI k
theorem nxtL_find (t : Int32) : ∀ (l : List Nat) (r : Option Nat), nxtL M t l r = (l.find? (fun k => decide (¬ tkI M k = 0) && decide (¬ nI k ≤ t))).or (r.or (l.find? (fun k => decide (¬ tkI M k = 0)))) := by
  intro l
  induction l with
  | nil => intro r; cases r <;> rfl
  | cons a l ih =>
    intro r
    simp only [nxtL, List.find?_cons]
    by_cases h1 : tkI M a = 0
    · simp only [h1, if_true, ih, not_true_eq_false, decide_false, Bool.false_and]
    · by_cases h2 : nI a ≤ t
      · simp only [h1, h2, if_true, if_false, ih, not_true_eq_false, not_false_eq_true, decide_false, decide_true, Bool.and_false]
        cases r <;> simp
      · simp only [h1, h2, if_false, not_false_eq_true, decide_true, Bool.and_true]
        rfl
theorem nxR_find (p q : Nat → Bool) : ∀ (a : Nat) (f b : Int32), (∀ k : Nat, k < a → p k = decide (¬ tkR N i k = 0)) → (∀ k : Nat, k < a → q k = (decide (¬ tkR N i k = 0) && decide (¬ nI k ≤ N 39 i))) →
    nxR N i a f b = if onO b ((List.range a).find? q) = -1 then onO f ((List.range a).find? p) else onO b ((List.range a).find? q) := by
  intro a
  induction a with
  | zero => intro f b _ _; rfl
  | succ a ih =>
    intro f b hp hq
    have h1 := hp a (by omega)
    have h2 := hq a (by omega)
    have ih := fun f b => ih f b (fun k hk => hp k (by omega)) (fun k hk => hq k (by omega))
    have ho : ∀ (f : Int32) (o : Option Nat), onO f (o.or (some a)) = onO (nI a) o := by intro f o; cases o <;> rfl
    have hn : ∀ (f : Int32) (o : Option Nat), onO f (o.or none) = onO f o := by intro f o; cases o <;> rfl
    simp only [nxR, List.range_succ, List.find?_append, List.find?_cons, List.find?_nil]
    by_cases c1 : tkR N i a = 0
    · simp only [c1, not_true_eq_false, decide_false, Bool.false_and] at h1 h2
      simp only [c1, if_true, h1, h2, ih, hn]
    · by_cases c2 : nI a ≤ N 39 i
      · simp only [c1, c2, not_true_eq_false, not_false_eq_true, decide_false, decide_true, Bool.and_false] at h1 h2
        simp only [c1, c2, if_true, if_false, h1, h2, ih, hn, ho]
      · simp only [c1, c2, not_false_eq_true, decide_true, Bool.and_true] at h1 h2
        simp only [c1, c2, if_false, h1, h2, ih, ho]
theorem nx_eq (hC : CD C) (hW : EW E V) (h : dRel C E V T D M N) (hi : i < E.1) : nxR N i E.2.1 (-1) (-1) = onI (nxC E M i) := by
  have h2 := hW.2.1
  rw [nxR_find (fun k => decide (E.2.2 k = i ∧ ¬ tkI M k = 0)) (fun k => decide (E.2.2 k = i ∧ (¬ tkI M k = 0 ∧ ¬ nI k ≤ M 39 i))) E.2.1 (-1) (-1)
    (fun k hk => by
      simp only [tk_eq hC hW h hk hi]
      by_cases c : E.2.2 k = i <;> simp [c])
    (fun k hk => by
      simp only [tk_eq hC hW h hk hi, ← d_39 hC h]
      by_cases c : E.2.2 k = i <;> simp [c])]
  unfold nxC
  rw [nxtL_find]
  unfold ce_mem
  simp only [List.find?_filter, Option.none_or, beq_iff_eq, Bool.and_eq_true, decide_eq_true_eq]
  generalize ho1 : List.find? (fun k => decide (E.2.2 k = i ∧ ¬ tkI M k = 0)) (List.range E.2.1) = o1
  generalize ho2 : List.find? (fun k => decide (E.2.2 k = i ∧ ¬ tkI M k = 0 ∧ ¬ nI k ≤ M 39 i)) (List.range E.2.1) = o2
  cases o2 with
  | none => cases o1 <;> rfl
  | some a =>
    have h3 := List.mem_range.mp (List.mem_of_find?_eq_some ho2)
    show (if nI a = -1 then _ else nI a) = _
    rw [if_neg (onI_ne (by omega))]
    rfl
theorem nx_some {a : Nat} (h : nxC E M i = some a) : a < E.2.1 ∧ E.2.2 a = i ∧ ¬ tkI M a = 0 := by
  unfold nxC at h
  rw [nxtL_find, Option.none_or] at h
  have key : ∀ p : Nat → Bool, List.find? p (ce_mem E i) = some a → a < E.2.1 ∧ E.2.2 a = i := by
    intro p hp
    have h1 := List.mem_of_find?_eq_some hp
    have h2 := List.mem_filter.mp h1
    exact ⟨List.mem_range.mp h2.1, by simpa using h2.2⟩
  cases h1 : List.find? (fun k => decide (¬ tkI M k = 0) && decide (¬ nI k ≤ M 39 i)) (ce_mem E i) with
  | some b =>
    rw [h1] at h
    cases h
    have h2 := List.find?_some h1
    simp only [Bool.and_eq_true, decide_eq_true_eq] at h2
    exact ⟨(key _ h1).1, (key _ h1).2, h2.1⟩
  | none =>
    rw [h1, Option.none_or] at h
    have h2 := List.find?_some h
    simp only [decide_eq_true_eq] at h2
    exact ⟨(key _ h).1, (key _ h).2, h2⟩
theorem nx_none (h : nxC E M i = none) : ∀ k : Nat, k < E.2.1 → E.2.2 k = i → tkI M k = 0 := by
  intro k hk hi
  unfold nxC at h
  rw [nxtL_find, Option.none_or] at h
  have h1 : List.find? (fun k => decide (¬ tkI M k = 0)) (ce_mem E i) = none := by
    cases h2 : List.find? (fun k => decide (¬ tkI M k = 0) && decide (¬ nI k ≤ M 39 i)) (ce_mem E i) with
    | some b => rw [h2] at h; cases h
    | none => rw [h2, Option.none_or] at h; exact h
  have h3 := List.find?_eq_none.mp h1 k (List.mem_filter.mpr ⟨List.mem_range.mpr hk, by simpa using hi⟩)
  simpa using h3
theorem par_eq (hC : CD C) (hW : EW E V) (h : dRel C E V T D M N) (hi : i < E.1) : itd (parR N i) 0 E.2.1 0 = parL M (ce_mem E i) 0 := by
  rw [parL_f, mem_foldl]
  refine itd_rel (R := fun _ a b => a = b) E.2.1 0 0 0 (fun k a b _ hk e => ?_) rfl
  subst e
  simp only [parR, tk_eq hC hW h (show k < E.2.1 by omega) hi, ← d_13 hC h, ← d_15 hC h]
  by_cases c : E.2.2 k = i
  · simp [c]
  · simp [c]
theorem par_b (hW : EW E V) (h : dRel C E V T D M N) : 0 ≤ (parL M (ce_mem E i) 0).toInt ∧ (parL M (ce_mem E i) 0).toInt ≤ 168 ∧ ((∃ k, k < E.2.1 ∧ E.2.2 k = i ∧ ¬ tkI M k = 0) → 1 ≤ (parL M (ce_mem E i) 0).toInt) ∧ ((∀ k, k < E.2.1 → E.2.2 k = i → tkI M k = 0) → parL M (ce_mem E i) 0 = 0) := by
  have h2 := hW.2.1
  rw [parL_f, mem_foldl]
  have := itd_inv (f := fun k s => if E.2.2 k = i then s + (if tkI M k = 0 then 0 else M 13 k + M 15 k) else s) (R := fun j s => 0 ≤ s.toInt ∧ s.toInt ≤ 14 * (j : Int) ∧ ((∃ k, k < j ∧ E.2.2 k = i ∧ ¬ tkI M k = 0) → 1 ≤ s.toInt) ∧ ((∀ k, k < E.2.1 → E.2.2 k = i → tkI M k = 0) → s = 0)) E.2.1 0 0
    (fun k s _ hk hs => by
      obtain ⟨a1, a2, a3, a4⟩ := hs
      have hp := d_part h (show k < E.2.1 by omega)
      by_cases c : E.2.2 k = i
      · by_cases c2 : tkI M k = 0
        · simp only [c, c2, if_true]
          rw [Int32.add_zero]
          refine ⟨a1, by omega, fun z => a3 ?_, a4⟩
          obtain ⟨j, hj, e1, e2⟩ := z
          refine ⟨j, ?_, e1, e2⟩
          have : j ≠ k := fun z => e2 (z ▸ c2)
          omega
        · simp only [c, c2, if_true, if_false]
          rw [ti_add (by omega) (by omega)]
          exact ⟨by omega, by omega, fun _ => by omega, fun z => absurd (z k (by omega) c) c2⟩
      · simp only [c, if_false]
        refine ⟨a1, by omega, fun z => a3 ?_, a4⟩
        obtain ⟨j, hj, e1, e2⟩ := z
        refine ⟨j, ?_, e1, e2⟩
        have : j ≠ k := fun z => c (z ▸ e1)
        omega)
    ⟨by decide, by decide, fun z => (by obtain ⟨j, hj, _⟩ := z; omega), fun _ => rfl⟩
  simp only [Nat.zero_add] at this
  exact ⟨this.1, by omega, this.2.2.1, this.2.2.2⟩
/-- between two societies -/
def SO (C : Nat → Prop) (E : eT) (V : yT) (T : Int) (D : Nat → Int) (dy : Int32) (j : Nat) (M N : yT) : Prop :=
  dRel C E V T D M N ∧ (∀ i : Nat, i < E.1 → M 41 i = N 41 i) ∧ (∀ k : Nat, k < E.2.1 → (E.2.2 k < j → M 11 k = N 11 k) ∧ (j ≤ E.2.2 k → N 11 k = 0)) ∧ (∀ k : Nat, k < E.2.1 → M 22 k = 0 ∧ M 23 k = 0) ∧ M 64 0 = dy
theorem SO_up {dy : Int32} {j c a : Nat} {x y : Int32} (h : SO C E V T D dy j M N) (e : C c → x = y) (hc : c = 70 ∨ c = 72 ∨ c = 37 ∨ c = 39) : SO C E V T D dy j (s_up2 M c a x) (s_up2 N c a y) := by
  obtain ⟨h1, h2, h3, h4, h5⟩ := h
  refine ⟨dRel_up h1 e (by omega) (by omega) (by omega) (by omega) (by omega), fun i hi => ?_, fun k hk => ?_, fun k hk => ?_, ?_⟩
  · rw [up_rd, up_rd, if_neg (by omega), if_neg (by omega)]; exact h2 i hi
  · rw [up_rd, up_rd, if_neg (by omega), if_neg (by omega)]; exact h3 k hk
  · rw [up_rd, up_rd, if_neg (by omega), if_neg (by omega)]; exact h4 k hk
  · rw [up_rd, if_neg (by omega)]; exact h5
theorem SO_11 {dy : Int32} {j a : Nat} {x y : Int32} (h : SO C E V T D dy j M N) (e : x = y) (ha : E.2.2 a < j) (hC : CD C) : SO C E V T D dy j (s_up2 M 11 a x) (s_up2 N 11 a y) := by
  obtain ⟨h1, h2, h3, h4, h5⟩ := h
  refine ⟨dRel_up h1 (fun _ => e) (by decide) (by decide) (by decide) (by decide) (by decide), fun i hi => ?_, fun k hk => ?_, fun k hk => ?_, ?_⟩
  · rw [up_rd, up_rd, if_neg (by omega), if_neg (by omega)]; exact h2 i hi
  · rw [up_rd, up_rd]
    by_cases c : k = a
    · subst c
      rw [if_pos ⟨rfl, rfl⟩, if_pos ⟨rfl, rfl⟩]
      exact ⟨fun _ => e, fun z => by omega⟩
    · rw [if_neg (fun z => c z.2), if_neg (fun z => c z.2)]; exact h3 k hk
  · rw [up_rd, up_rd, if_neg (by omega), if_neg (by omega)]; exact h4 k hk
  · rw [up_rd, if_neg (by omega)]; exact h5
theorem SO_zero {dy : Int32} (hC : CD C) (h : SO C E V T D dy i M N) : SO C E V T D dy (i + 1) (zeroL (ce_mem E i) M) N ∧ ∀ c, c ≠ 11 → ∀ k, zeroL (ce_mem E i) M c k = M c k := by
  rw [zeroL_f, mem_foldl]
  obtain ⟨h1, h2, h3, h4, h5⟩ := h
  have := itd_inv (f := fun k M => if E.2.2 k = i then s_up2 M 11 k 0 else M) (R := fun j M1 => dRel C E V T D M1 N ∧ (∀ c, c ≠ 11 → ∀ k, M1 c k = M c k) ∧ (∀ k, E.2.2 k = i → k < j → M1 11 k = 0) ∧ (∀ k, ¬ E.2.2 k = i → M1 11 k = M 11 k)) E.2.1 0 M
    (fun k M1 _ hk hs => by
      obtain ⟨a1, a2, a3, a4⟩ := hs
      by_cases c : E.2.2 k = i
      · simp only [c, if_true]
        refine ⟨dRel_l a1 (fun z => absurd z hC.2.2.2.2.2.1) (by decide) (by decide) (by decide) (by decide), fun c hc k => ?_, fun j hj hjk => ?_, fun j hj => ?_⟩
        · rw [up_rd, if_neg (fun z => hc z.1)]; exact a2 c hc k
        · rw [up_rd]
          by_cases e : j = k
          · rw [if_pos ⟨rfl, e⟩]
          · rw [if_neg (fun z => e z.2)]; exact a3 j hj (by omega)
        · rw [up_rd, if_neg (fun z : 11 = 11 ∧ j = k => hj (z.2 ▸ c))]; exact a4 j hj
      · simp only [c, if_false]
        refine ⟨a1, a2, fun j hj hjk => a3 j hj ?_, a4⟩
        have : j ≠ k := fun z => c (z ▸ hj)
        omega)
    ⟨h1, fun _ _ _ => rfl, fun k _ h => absurd h (by omega), fun _ _ => rfl⟩
  simp only [Nat.zero_add] at this
  obtain ⟨a1, a2, a3, a4⟩ := this
  refine ⟨⟨a1, fun i hi => (a2 41 (by decide) i).trans (h2 i hi), fun k hk => ⟨fun z => ?_, fun z => (h3 k hk).2 (by omega)⟩, fun k hk => ⟨(a2 22 (by decide) k).trans (h4 k hk).1, (a2 23 (by decide) k).trans (h4 k hk).2⟩, (a2 64 (by decide) 0).trans h5⟩, a2⟩
  by_cases c : E.2.2 k = i
  · rw [a3 k c hk]; exact ((h3 k hk).2 (by omega)).symm
  · rw [a4 k c]; exact (h3 k hk).1 (by omega)
theorem op_eq (hC : CD C) (h : dRel C E V T D M N) (hi : i < E.1) : (M 35 i ≤ fmod (fmod (M 64 0) 210 - M 34 i) 210) ↔ opR N i = 0 := by
  have hs := h.2.2.2.1 i hi
  rw [open_eq h.2.2.2.2.2.1 hs.2.2.1 hs.2.2.2.1, d_35 hC h, d_34 hC h, d_64 hC h]
  unfold opR
  constructor
  · intro z; exact if_pos z
  · intro z; exact Decidable.byContradiction (fun y => absurd ((if_neg y).symm.trans z) (by decide))
theorem SO_giv {dy : Int32} (hC : CD C) (hW : EW E V) (hi : i < E.1) {th pa : Int32} (h : SO C E V T D dy (i + 1) M N) : SO C E V T D dy (i + 1) (givL i th pa (ce_mem E i) M) (itd (givR i th pa) 0 E.2.1 N) := by
  rw [givL_f, mem_foldl]
  refine itd_rel (R := fun _ M N => SO C E V T D dy (i + 1) M N) E.2.1 0 M N (fun k M N _ hk h => ?_) h
  have e := tk_eq hC hW h.1 (show k < E.2.1 by omega) hi
  unfold givR givS
  rw [e]
  by_cases c : E.2.2 k = i
  · rw [if_pos c, if_pos c]
    by_cases c2 : tkI M k = 0
    · rw [if_pos c2, if_pos c2]; exact h
    · rw [if_neg c2, if_neg c2, d_13 hC h.1, d_15 hC h.1]
      exact SO_up (SO_11 h rfl (by omega) hC) (fun _ => by rw [d_37 hC h.1]) (Or.inr (Or.inr (Or.inl rfl)))
  · rw [if_neg c, if_neg c, if_pos rfl]; exact h
theorem SO_step {dy : Int32} (hC : CD C) (hW : EW E V) (hF : F.2.1 = E.2.1) (hi : i < E.1) (h : SO C E V T D dy i M N) : divOK F i N ∧ SO C E V T D dy (i + 1) (shareF E (fmod dy 210) i M) (divR F i N) := by
  obtain ⟨hz, hz2⟩ := SO_zero hC h
  unfold shareF divR
  have h2 := hW.2.1
  generalize zeroL (ce_mem E i) M = M1 at hz hz2
  have e41 : M1 41 i = N 41 i := hz.2.1 i hi
  have es : sunkF M1 i = sunkF N i := by unfold sunkF; rw [e41, d_33 hC hz.1]
  have et : thF M1 i = thF N i := by unfold thF; rw [es, e41, d_37 hC hz.1]
  have e38 := d_38 (k := i) hC hz.1
  have hr := (hz.1.2.2.2.1 i hi).2.2.2.2
  have hA := SO_up (a := i) (SO_up (a := 0) (x := M1 70 0 + sunkF M1 i) (y := N 70 0 + sunkF N i) hz (fun z => by rw [hz.1.1 70 z 0, es]) (Or.inl rfl)) (x := 0) (y := 0) (fun _ => rfl) (Or.inr (Or.inr (Or.inl rfl)))
  have hop := op_eq hC hA.1 hi
  rw [hA.2.2.2.2] at hop
  have e381 : s_up2 (s_up2 N 70 0 (N 70 0 + sunkF N i)) 37 i 0 38 i = N 38 i := by simp only [up_rd, Nat.reduceEqDiff, false_and, if_false]
  simp only [show s_up2 (s_up2 M1 70 0 (M1 70 0 + sunkF M1 i)) 37 i 0 35 i = M1 35 i by simp only [up_rd, Nat.reduceEqDiff, false_and, if_false], show s_up2 (s_up2 M1 70 0 (M1 70 0 + sunkF M1 i)) 37 i 0 34 i = M1 34 i by simp only [up_rd, Nat.reduceEqDiff, false_and, if_false]] at hop
  unfold divOK shareB divB
  rw [et, hF, e381]
  have e0 : ∀ N' : yT, (∀ N2 : yT, N2 = N' → ¬ nxR N2 i E.2.1 (-1) (-1) = -1 → ¬ itd (parR N2 i) 0 E.2.1 0 = 0 ∧ vp_in (nxR N2 i E.2.1 (-1) (-1)) E.2.1) = (¬ nxR N' i E.2.1 (-1) (-1) = -1 → ¬ itd (parR N' i) 0 E.2.1 0 = 0 ∧ vp_in (nxR N' i E.2.1 (-1) (-1)) E.2.1) := fun N' => by simp only [forall_eq]
  rw [e0]
  generalize s_up2 (s_up2 N 70 0 (N 70 0 + sunkF N i)) 37 i 0 = N2 at hA hop ⊢
  generalize s_up2 (s_up2 M1 70 0 (M1 70 0 + sunkF M1 i)) 37 i 0 = M2 at hA hop ⊢
  have hn := nx_eq hC hW hA.1 hi
  have hp := par_eq hC hW hA.1 hi
  have hb := par_b (i := i) hW hA.1
  have h72 : SO C E V T D dy (i + 1) (s_up2 M2 72 0 (M2 72 0 + thF N i)) (s_up2 N2 72 0 (N2 72 0 + thF N i)) := SO_up hA (fun z => by rw [hA.1.1 72 z 0]) (Or.inr (Or.inl rfl))
  rw [hn, hp]
  cases hx : nxC E M2 i with
  | none =>
    refine ⟨fun z => absurd rfl z, ?_⟩
    have h0 := hb.2.2.2 (nx_none hx)
    unfold shareN shareT
    simp only [hx, h0, onI, if_true, show ¬ (0 : Int32) < 0 by decide, if_false]
    split
    · exact h72
    · split <;> exact h72
  | some a =>
    obtain ⟨ha, ha2, ha3⟩ := nx_some hx
    have hb1 := hb.2.2.1 ⟨a, ha, ha2, ha3⟩
    have ha4 : a < 2147483648 := by omega
    have hpn : ¬ parL M2 (ce_mem E i) 0 = 0 := fun z => by rw [z] at hb1; exact absurd hb1 (by decide)
    have hpp : 0 < parL M2 (ce_mem E i) 0 := by rw [ti_lt]; have : (0 : Int32).toInt = 0 := rfl; omega
    refine ⟨fun _ => ⟨hpn, by show vp_in (nI a) _; rw [nI_vp ha4]; exact ha⟩, ?_⟩
    simp only [onI, onI_ne ha4, if_false]
    by_cases c : opR N2 i = 0
    · rw [if_pos c, if_pos (hop.mpr c)]; exact h72
    · rw [if_neg c, if_neg (fun z => c (hop.mp z))]
      rcases hr with c1 | c1
      · rw [if_pos c1, if_neg (by rw [← e38, c1]; decide)]
        unfold shareN
        rw [if_pos hpp]
        exact SO_giv hC hW hi (SO_up hA (fun _ => rfl) (Or.inr (Or.inr (Or.inl rfl))))
      · rw [if_neg (by rw [c1]; decide), if_pos (by rw [← e38, c1])]
        unfold shareT
        rw [hx]
        simp only [nI_cl ha4]
        exact SO_up (SO_11 hA rfl (by omega) hC) (fun _ => rfl) (Or.inr (Or.inr (Or.inr rfl)))
end
