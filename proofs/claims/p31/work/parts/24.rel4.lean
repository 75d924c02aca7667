section
variable {C : Nat → Prop} {E : eT} {V : yT} {T : Int} {D : Nat → Int} {M N : yT} {F : fT} {i k : Nat}
/-- in the last loop of the flight -/
def FS (C : Nat → Prop) (E : eT) (V : yT) (T : Int) (D : Nat → Int) (P : Nat → Int32) (j : Nat) (M N : yT) : Prop :=
  dRel C E V T D M N ∧ (∀ k : Nat, k < E.2.1 → M 11 k = N 11 k) ∧ (∀ k : Nat, k < E.2.1 → M 22 k = 0) ∧ (∀ k : Nat, k < E.2.1 → (j ≤ k → M 8 k = P k ∧ M 23 k = N 23 k ∧ -(2 * ((P k).toInt / 5)) ≤ (M 23 k).toInt ∧ (M 23 k).toInt ≤ 1000) ∧ (k < j → M 23 k = 0))
theorem FS_set (hC : CD C) {P : Nat → Int32} (hP : ∀ k, k < E.2.1 → 0 ≤ (P k).toInt ∧ (P k).toInt ≤ 99) (hk : k < E.2.1) (h : FS C E V T D P k M N) : FS C E V T D P (k + 1) (setS k M) (set2 k N) := by
  obtain ⟨h1, h2, h3, h4⟩ := h
  obtain ⟨p1, p2, p3, p4⟩ := (h4 k hk).1 (Nat.le_refl _)
  have hp := hP k hk
  have l99 : (99 : Int32).toInt = 99 := rfl
  have s1 : (M 8 k + M 23 k).toInt = (M 8 k).toInt + (M 23 k).toInt := by rw [p1]; exact ti_add (by omega) (by omega)
  have b : 0 ≤ (s_min 99 (M 8 k + M 23 k)).toInt ∧ (s_min 99 (M 8 k + M 23 k)).toInt ≤ 99 := by rw [ti_min, l99, s1, p1]; split <;> omega
  unfold setS set2
  rw [← p2, ← d_8 hC h1]
  generalize s_min 99 (M 8 k + M 23 k) = v at b
  have hi := h1.2.2.1 k hk
  have h5 : dRel C E V T D (s_up2 M 8 k v) (s_up2 N 8 k v) := by
    have hSD : SD C E V T D 0 (fun c a => if c = 11 ∨ c = 22 ∨ c = 23 then 0 else M c a) (fun c a => if c = 11 ∨ c = 22 ∨ c = 23 then 0 else N c a) := by
      obtain ⟨r1, r2, r3, r4, r5, r6⟩ := h1
      refine ⟨⟨fun c hc a => ?_, fun a ha hs => r2 a ha hs, fun a ha => r3 a ha, fun a ha => r4 a ha, ⟨fun c hc a => ?_, fun c hc a => ?_⟩, r6⟩, fun a ha => rfl, fun a ha => ⟨fun _ => rfl, fun _ => rfl⟩, fun a ha => rfl⟩
      · show (if c = 11 ∨ c = 22 ∨ c = 23 then _ else _) = (if c = 11 ∨ c = 22 ∨ c = 23 then _ else _)
        split
        · rfl
        · exact r1 c hc a
      · exact (if_neg (by omega)).trans (r5.1 c hc a)
      · exact (if_neg (by omega)).trans (r5.2 c hc a)
    have hg : ∀ (X : yT) (c a : Nat), ¬ (c = 11 ∨ c = 22 ∨ c = 23) → s_up2 (fun c a => if c = 11 ∨ c = 22 ∨ c = 23 then 0 else X c a) 8 k v c a = s_up2 X 8 k v c a := by
      intro X c a hc
      rw [up_rd, up_rd]
      split
      · rfl
      · first | exact if_neg hc | rfl
    have := (SD_f (D' := D) (x := v) hSD rfl (Or.inr (Or.inr (Or.inr (Or.inl rfl)))) (by
      unfold iF at hi ⊢
      simp only [up_rd, Nat.reduceEqDiff, false_and, and_self, if_true, if_false, reduceIte, false_or, or_self]
      exact ⟨hi.1, ⟨hi.2.1.1, hi.2.1.2.1, b.1, b.2, hi.2.1.2.2.2.2⟩, hi.2.2⟩) (fun _ _ => Int.le_refl _)).1
    obtain ⟨r1, r2, r3, r4, r5, r6⟩ := this
    refine ⟨fun c hc a => ?_, fun a ha hs => ?_, fun a ha => ?_, fun a ha => ?_, ⟨fun c hc a => ?_, fun c hc a => ?_⟩, r6⟩
    · have c1 : ¬ (c = 11 ∨ c = 22 ∨ c = 23) := fun z => by
        rcases z with z | z | z <;> subst z
        · exact hC.2.2.2.2.2.1 hc
        · exact hC.2.2.2.2.2.2.1 hc
        · exact hC.2.2.2.2.2.2.2.1 hc
      have := r1 c hc a
      rw [hg _ c a c1, hg _ c a c1] at this
      exact this
    · exact r2 a ha hs
    · exact r3 a ha
    · exact r4 a ha
    · have := r5.1 c hc a
      rw [hg _ c a (by omega)] at this
      exact this
    · have := r5.2 c hc a
      rw [hg _ c a (by omega)] at this
      exact this
  refine ⟨dRel_l h5 (fun z => absurd z hC.2.2.2.2.2.2.2.1) (by decide) (by decide) (by decide) (by decide), fun a ha => ?_, fun a ha => ?_, fun a ha => ⟨fun z => ?_, fun z => ?_⟩⟩
  · simp only [up_rd, Nat.reduceEqDiff, false_and, if_false]; exact h2 a ha
  · simp only [up_rd, Nat.reduceEqDiff, false_and, if_false]; exact h3 a ha
  · have hne : ¬ a = k := by omega
    simp only [up_rd, Nat.reduceEqDiff, false_and, if_false, hne, and_false]
    exact (h4 a ha).1 (by omega)
  · simp only [up_rd, true_and]
    by_cases c : a = k
    · rw [if_pos c]
    · rw [if_neg c, if_neg (by omega)]; exact (h4 a ha).2 (by omega)
/-- a whole flight -/
theorem rel_fly (hC : CD C) (hW : EW E V) (hF : F.2.1 = E.2.1) (h : SD C E V T D E.2.1 M N) : dRel C E V T D (flyF E M) (flyR F N) ∧ (∀ k : Nat, k < E.2.1 → flyF E M 11 k = flyR F N 11 k) ∧ (∀ k : Nat, k < E.2.1 → flyF E M 22 k = 0 ∧ flyF E M 23 k = 0) := by
  have h12 := hW.2.1
  have hP : ∀ k, k < E.2.1 → 0 ≤ (M 8 k).toInt ∧ (M 8 k).toInt ≤ 99 := fun k hk => by
    have := (h.1.2.2.1 k hk).2.1
    exact ⟨this.2.2.1, this.2.2.2.1⟩
  have h0 : FL C E V T D (M 8) (bP (M 8) 0) (40 * ((0 : Nat) : Int)) M (itd z23 0 E.2.1 N) := by
    have := itd_inv (f := z23) (R := fun j X => dRel C E V T D M X ∧ (∀ k : Nat, k < E.2.1 → M 11 k = X 11 k) ∧ (∀ k : Nat, k < j → X 23 k = 0)) E.2.1 0 N
      (fun j X _ hj hx => ⟨dRel_r hx.1 (fun z => absurd z hC.2.2.2.2.2.2.2.1) (by decide) (by decide), fun k hk => by
        unfold z23; simp only [up_rd, Nat.reduceEqDiff, false_and, if_false]; exact hx.2.1 k hk, fun k hk => by
        unfold z23
        rw [up_rd]
        by_cases c : k = j
        · rw [if_pos ⟨rfl, c⟩]
        · rw [if_neg (fun z => c z.2)]; exact hx.2.2 k (by omega)⟩)
      ⟨h.1, h.2.1, fun k hk => absurd hk (by omega)⟩
    simp only [Nat.zero_add] at this
    refine ⟨this.1, this.2.1, fun k hk => (h.2.2.1 k hk).2 hk, fun k hk => ?_, fun k => rfl⟩
    rw [h.2.2.2 k hk, this.2.2 k hk]
    unfold bP
    rw [if_neg (by omega)]
    exact ⟨rfl, by decide, by decide⟩
  have h1 := itd_rel (f := flyS E) (g := flS F) (R := fun j X Y => FL C E V T D (M 8) (bP (M 8) j) (40 * (j : Int)) X Y) E.2.1 0 M (itd z23 0 E.2.1 N) (fun j X Y _ hj hx => FL_fly hC hW hF hP (by omega) hx) h0
  simp only [Nat.zero_add] at h1
  unfold flyF flyR
  rw [hF]
  generalize itd (flyS E) 0 E.2.1 M = M1 at h1 ⊢
  generalize itd (flS F) 0 E.2.1 (itd z23 0 E.2.1 N) = N1 at h1 ⊢
  have h2 : FS C E V T D (M 8) 0 M1 N1 := by
    obtain ⟨a1, a2, a3, a4, a5⟩ := h1
    refine ⟨a1, a2, a3, fun k hk => ⟨fun _ => ⟨a5 k, (a4 k hk).1, ?_, ?_⟩, fun z => by omega⟩⟩
    · have := (a4 k hk).2.1
      unfold bP at this
      rw [if_pos hk] at this
      exact this
    · have := (a4 k hk).2.2; omega
  have h3 := itd_rel (f := setS) (g := set2) (R := fun j X Y => FS C E V T D (M 8) j X Y) E.2.1 0 M1 N1 (fun j X Y _ hj hx => FS_set hC hP (by omega) hx) h2
  simp only [Nat.zero_add] at h3
  obtain ⟨a1, a2, a3, a4⟩ := h3
  exact ⟨a1, a2, fun k hk => ⟨a3 k hk, (a4 k hk).2 hk⟩⟩
/-! the head -/
theorem not_eq (hC : CD C) (h : dRel C E V T D M N) : ∀ d j s, itd (notF M) j d s = itd (notF N) j d s := by
  intro d
  induction d with
  | zero => intro j s; rfl
  | succ d ih => intro j s; rw [itd_s, itd_s, ih]; unfold notF; rw [h.1 32 hC.1.2.2.2.2.2.2.2.2.2.2.2.2.1 j]
theorem not_b (hW : EW E V) (h : ∀ i : Nat, i < E.1 → iS M i) : 0 ≤ (itd (notF M) 0 E.1 0).toInt ∧ (E.1 = 0 ∨ 1 ≤ (itd (notF M) 0 E.1 0).toInt) := by
  have h3 := hW.1
  have := itd_inv (f := notF M) (R := fun j s => (j : Int) ≤ s.toInt ∧ s.toInt ≤ 9 * (j : Int)) E.1 0 0 (fun k s _ hk hs => by
    have := h k (by omega)
    unfold notF
    rw [ti_add (by have := this.1; omega) (by have := this.2.1; omega)]
    have a1 := this.1
    have a2 := this.2.1
    omega) ⟨by decide, by decide⟩
  simp only [Nat.zero_add] at this
  omega
def HD (C : Nat → Prop) (E : eT) (V : yT) (T : Int) (D : Nat → Int) (dy : Int32) (M N : yT) : Prop :=
  dRel C E V T D M N ∧ (∀ k : Nat, k < E.2.1 → M 22 k = 0 ∧ M 23 k = 0) ∧ M 64 0 = dy
theorem HD_up {dy : Int32} {c a : Nat} {x y : Int32} (h : HD C E V T D dy M N) (e : C c → x = y) (hc : c = 68 ∨ c = 41 ∨ c = 69) : HD C E V T D dy (s_up2 M c a x) (s_up2 N c a y) := by
  obtain ⟨h1, h4, h5⟩ := h
  refine ⟨dRel_up h1 e (by omega) (by omega) (by omega) (by omega) (by omega), fun k hk => ?_, ?_⟩
  · rw [up_rd, up_rd, if_neg (by omega), if_neg (by omega)]; exact h4 k hk
  · rw [up_rd, if_neg (by omega)]; exact h5
theorem HD_l {dy : Int32} {c a : Nat} {x : Int32} (h : HD C E V T D dy M N) (e : C c → x = N c a) (hc : c = 65 ∨ c = 66 ∨ c = 67) : HD C E V T D dy (s_up2 M c a x) N := by
  obtain ⟨h1, h4, h5⟩ := h
  refine ⟨dRel_l h1 e (by omega) (by omega) (by omega) (by omega), fun k hk => ?_, ?_⟩
  · rw [up_rd, up_rd, if_neg (by omega), if_neg (by omega)]; exact h4 k hk
  · rw [up_rd, if_neg (by omega)]; exact h5
theorem rel_head (hC : CD C) (hW : EW E V) (hF : F.2.1 = E.2.1) (hF1 : F.1 = E.1) (hT : 0 ≤ T ∧ T < 1000000) {fl wa ra : Int32} (hf : V 65 0 = fl) (hwa : V 66 0 = wa) (hr : V 67 0 = ra) (h : dRel C E V T D M N) (hz : ∀ k : Nat, k < E.2.1 → M 22 k = 0 ∧ M 23 k = 0) :
    (F.1 = 0 ∨ ¬ itd (notF (s_up2 N 64 0 (N 64 0 + 1))) 0 F.1 0 = 0) ∧ SO C E V (T + 1) D (M 64 0 + 1) 0 (splitM E fl (headM E fl wa ra M)) (headR F N) := by
  have e65 : N 65 0 = fl := (h.2.2.2.2.1.2 65 (by omega) 0).trans hf
  have e66 : N 66 0 = wa := (h.2.2.2.2.1.2 66 (by omega) 0).trans hwa
  have e67 : N 67 0 = ra := (h.2.2.2.2.1.2 67 (by omega) 0).trans hr
  have e64 := d_64 (k := 0) hC h
  have h64 : (M 64 0 + 1).toInt = (M 64 0).toInt + 1 := by
    have := h.2.2.2.2.2
    have l1 : (1 : Int32).toInt = 1 := rfl
    rw [ti_add (by omega) (by omega), l1]
  have H0 : HD C E V (T + 1) D (M 64 0 + 1) (s_up2 M 64 0 (M 64 0 + 1)) (s_up2 N 64 0 (N 64 0 + 1)) := by
    obtain ⟨r1, r2, r3, r4, r5, r6⟩ := h
    refine ⟨⟨EQ_up r1 (fun _ => by rw [e64]), fun a ha hs => ?_, fun a ha => iF_c (by decide) (r3 a ha), fun i hi => iS_c (by decide) (r4 i hi), ST_r (ST_l r5 (by decide)) (by decide), ?_⟩, fun k hk => ?_, ?_⟩
    · simp only [up_rd, Nat.reduceEqDiff, false_and, if_false] at hs ⊢
      exact r2 a ha hs
    · simp only [up_rd, and_self, if_true]; omega
    · simp only [up_rd, Nat.reduceEqDiff, false_and, if_false]; exact hz k hk
    · simp only [up_rd, and_self, if_true]
  have q : ∀ c a, c ≠ 64 → s_up2 N 64 0 (N 64 0 + 1) c a = N c a := fun c a hc => if_neg (fun z => hc z.1)
  have q65 := (q 65 0 (by decide)).trans e65
  have q66 := (q 66 0 (by decide)).trans e66
  have q67 := (q 67 0 (by decide)).trans e67
  have p69 : s_up2 M 64 0 (M 64 0 + 1) 69 0 = M 69 0 := if_neg (by decide)
  have p68 : s_up2 M 64 0 (M 64 0 + 1) 68 0 = M 68 0 := if_neg (by decide)
  unfold headM headR splitM
  have nn := not_eq hC H0.1
  generalize s_up2 N 64 0 (N 64 0 + 1) = N1 at H0 q65 q66 q67 nn ⊢
  generalize M 64 0 + 1 = dy at H0 p69 p68 nn ⊢
  generalize s_up2 M 64 0 dy = M1 at H0 p69 p68 nn ⊢
  have H1 := HD_l (c := 67) (a := 0) (x := ra) (HD_l (c := 66) (a := 0) (x := wa) (HD_l (c := 65) (a := 0) (x := fl) H0 (fun _ => q65.symm) (by omega)) (fun _ => q66.symm) (by omega)) (fun _ => q67.symm) (by omega)
  have nM : ∀ (a b c d e : Int32) (dd j : Nat) (s : Int32), itd (notF (s_up2 (s_up2 (s_up2 (s_up2 M1 65 0 a) 66 0 b) 67 0 c) 69 0 d)) j dd s = itd (notF M1) j dd s := by
    intro a b c d e dd
    induction dd with
    | zero => intro j s; rfl
    | succ dd ih =>
      intro j s
      rw [itd_s, itd_s, ih]
      unfold notF
      simp only [up_rd, Nat.reduceEqDiff, false_and, if_false]
  have nb := not_b hW H0.1.2.2.2.1
  dsimp only
  rw [nM _ _ _ _ 0, ← p69, q65, hF1, ← nn]
  have H2 := HD_up (c := 69) (a := 0) (x := M1 69 0 + (fl + ra * nI E.2.1)) (y := N1 69 0 + (fl + ra * nI E.2.1)) H1 (fun z => by rw [H0.1.1 69 z 0]) (by omega)
  have r68 : s_up2 (s_up2 (s_up2 (s_up2 M1 65 0 fl) 66 0 wa) 67 0 ra) 69 0 (M1 69 0 + (fl + ra * nI E.2.1)) 68 0 = M1 68 0 := by simp only [up_rd, Nat.reduceEqDiff, false_and, if_false]
  rw [r68]
  have H3 := HD_up (c := 68) (a := 0) (x := fl + M1 68 0) (y := fl + N1 68 0) H2 (fun _ => by rw [d_68 hC H0.1]) (by omega)
  refine ⟨?_, ?_⟩
  · rcases nb.2 with c | c
    · exact Or.inl c
    · exact Or.inr (fun z => by rw [z] at c; exact absurd c (by decide))
  unfold hd2
  rw [q65, q67, hF]
  rw [← d_68 (k := 0) hC H0.1]
  rw [← d_68 (k := 0) hC H0.1] at H3
  generalize itd (notF M1) 0 E.1 0 = nt at nb ⊢
  generalize s_up2 (s_up2 (s_up2 (s_up2 (s_up2 M1 65 0 fl) 66 0 wa) 67 0 ra) 69 0 (M1 69 0 + (fl + ra * nI E.2.1))) 68 0 (fl + M1 68 0) = M2 at H3 ⊢
  generalize s_up2 (s_up2 N1 69 0 (N1 69 0 + (fl + ra * nI E.2.1))) 68 0 (fl + M1 68 0) = N2 at H3 ⊢
  have H4 := itd_rel (f := weirS (fl + M1 68 0) nt) (g := weirS (fl + M1 68 0) nt) (R := fun j X Y => HD C E V (T + 1) D dy X Y ∧ ∀ i, i < j → X 41 i = Y 41 i) E.1 0 M2 N2 (fun j X Y _ hj hx => by
    have e32 := hx.1.1.1 32 hC.1.2.2.2.2.2.2.2.2.2.2.2.2.1 j
    unfold weirS
    rw [← e32]
    refine ⟨HD_up (HD_up hx.1 (fun _ => rfl) (by omega)) (fun _ => by rw [d_68 hC hx.1.1]) (by omega), fun a ha => ?_⟩
    simp only [up_rd, Nat.reduceEqDiff, false_and, if_false, true_and]
    by_cases c : a = j
    · rw [if_pos c, if_pos c]
    · rw [if_neg c, if_neg c]; exact hx.2 a (by omega)) ⟨H3, fun a ha => absurd ha (by omega)⟩
  simp only [Nat.zero_add] at H4
  have eM : (if 0 < nt then itd (weirS (fl + M1 68 0) nt) 0 E.1 M2 else M2) = itd (weirS (fl + M1 68 0) nt) 0 E.1 M2 := by
    rcases nb.2 with c | c
    · rw [c]; split <;> rfl
    · rw [if_pos (by rw [ti_lt]; have : (0 : Int32).toInt = 0 := rfl; omega)]
  rw [eM]
  generalize itd (weirS (fl + M1 68 0) nt) 0 E.1 M2 = M3 at H4 ⊢
  generalize itd (weirS (fl + M1 68 0) nt) 0 E.1 N2 = N3 at H4 ⊢
  have H5 := itd_inv (f := z11) (R := fun j X => dRel C E V (T + 1) D M3 X ∧ (∀ i, i < E.1 → M3 41 i = X 41 i) ∧ (∀ k : Nat, k < j → X 11 k = 0)) E.2.1 0 N3
    (fun j X _ hj hx => ⟨dRel_r hx.1 (fun z => absurd z hC.2.2.2.2.2.1) (by decide) (by decide), fun k hk => by
      unfold z11; simp only [up_rd, Nat.reduceEqDiff, false_and, if_false]; exact hx.2.1 k hk, fun k hk => by
      unfold z11
      rw [up_rd]
      by_cases c : k = j
      · rw [if_pos ⟨rfl, c⟩]
      · rw [if_neg (fun z => c z.2)]; exact hx.2.2 k (by omega)⟩)
    ⟨H4.1.1, H4.2, fun k hk => absurd hk (by omega)⟩
  simp only [Nat.zero_add] at H5
  exact ⟨H5.1, H5.2.1, fun k hk => ⟨fun z => by omega, fun _ => H5.2.2 k hk⟩, H4.1.2.1, H4.1.2.2⟩
/-- a day on both sides -/
theorem rel_pass (hC : CD C) (hW : EW E V) (hF : F.2.1 = E.2.1) (hF1 : F.1 = E.1) (hT : 0 ≤ T ∧ T < 1000000) {d : Int} (hd : d < 1000000) {fl wa ra : Int32} (hf : V 65 0 = fl) (hwa : V 66 0 = wa) (hr : V 67 0 = ra) (ht : 0 ≤ wa.toInt ∧ wa.toInt ≤ 40) (h : dRel C E V T (fun _ => d) M N) (hz : ∀ k : Nat, k < E.2.1 → M 22 k = 0 ∧ M 23 k = 0) :
    True ∧ dRel C E V (T + 1) (fun _ => d + 1) (passF E fl wa ra M) (passR F N) ∧ (∀ k : Nat, k < E.2.1 → passF E fl wa ra M 11 k = passR F N 11 k) ∧ (∀ k : Nat, k < E.2.1 → passF E fl wa ra M 22 k = 0 ∧ passF E fl wa ra M 23 k = 0) := by
  obtain ⟨hn, hs⟩ := rel_head hC hW hF hF1 hT hf hwa hr h hz
  have hI : ∀ i X, i < F.1 → (∃ Y, SO C E V (T + 1) (fun _ => d) (M 64 0 + 1) i Y X) → divOK F i X ∧ (∃ Y, SO C E V (T + 1) (fun _ => d) (M 64 0 + 1) (i + 1) Y (divR F i X)) := by
    intro i X hi hx
    obtain ⟨Y, hY⟩ := hx
    have := SO_step hC hW hF (hF1 ▸ hi) hY
    exact ⟨this.1, _, this.2⟩
  refine ⟨trivial, ?_⟩
  unfold passF passR
  generalize splitM E fl (headM E fl wa ra M) = M1 at hs ⊢
  generalize headR F N = N1 at hs ⊢
  have e64 : M1 64 0 = M 64 0 + 1 := hs.2.2.2.2
  simp only [e64]
  have h1 := itd_rel (f := shareF E (fmod (M 64 0 + 1) 210)) (g := divR F) (R := fun j X Y => SO C E V (T + 1) (fun _ => d) (M 64 0 + 1) j X Y) E.1 0 M1 N1 (fun j X Y _ hj hx => (SO_step hC hW hF (by omega) hx).2) hs
  simp only [Nat.zero_add] at h1
  rw [hF1, hF]
  generalize itd (shareF E (fmod (M 64 0 + 1) 210)) 0 E.1 M1 = M2 at h1 ⊢
  generalize itd (divR F) 0 E.1 N1 = N2 at h1 ⊢
  have h2 : SD C E V (T + 1) (fun a => if a < 0 then d + 1 else d) 0 M2 (itd z22 0 E.2.1 N2) := by
    have := itd_inv (f := z22) (R := fun j X => dRel C E V (T + 1) (fun _ => d) M2 X ∧ (∀ k : Nat, k < E.2.1 → M2 11 k = X 11 k) ∧ (∀ k : Nat, k < j → X 22 k = 0)) E.2.1 0 N2
      (fun j X _ hj hx => ⟨dRel_r hx.1 (fun z => absurd z hC.2.2.2.2.2.2.1) (by decide) (by decide), fun k hk => by
        unfold z22; simp only [up_rd, Nat.reduceEqDiff, false_and, if_false]; exact hx.2.1 k hk, fun k hk => by
        unfold z22
        rw [up_rd]
        by_cases c : k = j
        · rw [if_pos ⟨rfl, c⟩]
        · rw [if_neg (fun z => c z.2)]; exact hx.2.2 k (by omega)⟩)
      ⟨h1.1, fun k hk => (h1.2.2.1 k hk).1 (hW.2.2.1 k hk), fun k hk => absurd hk (by omega)⟩
    simp only [Nat.zero_add] at this
    have eD : (fun a : Nat => if a < 0 then d + 1 else d) = fun _ => d := by funext a; rw [if_neg (by omega)]
    rw [eD]
    refine ⟨this.1, this.2.1, fun k hk => ⟨fun _ => ?_, fun z => by omega⟩, fun k hk => (h1.2.2.2.1 k hk).2⟩
    rw [(h1.2.2.2.1 k hk).1, this.2.2 k hk]
  have h3 := itd_rel (f := standM E ra wa) (g := standR F) (R := fun j X Y => SD C E V (T + 1) (fun a => if a < j then d + 1 else d) j X Y) E.2.1 0 M2 (itd z22 0 E.2.1 N2) (fun j X Y _ hj hx => SD_stand hC hW hF (by omega) hd ht hr hwa hx) h2
  simp only [Nat.zero_add] at h3
  have h4 := rel_fly hC hW hF h3
  refine ⟨?_, h4.2⟩
  obtain ⟨r1, r2, r3, r4, r5, r6⟩ := h4.1
  exact ⟨r1, r2, fun k hk => by have := r3 k hk; simp only [hk, if_true] at this; exact this, r4, r5, r6⟩
end
