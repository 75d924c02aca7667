/-! ===== both sides' days: the fields ===== -/
theorem lit_ti : (0 : Int32).toInt = 0 ∧ (1 : Int32).toInt = 1 ∧ (2 : Int32).toInt = 2 ∧ (3 : Int32).toInt = 3 ∧ (4 : Int32).toInt = 4 ∧ (5 : Int32).toInt = 5 ∧ (20 : Int32).toInt = 20 ∧ (99 : Int32).toInt = 99 := ⟨rfl, rfl, rfl, rfl, rfl, rfl, rfl, rfl⟩
theorem st_cases {x : Int32} (h1 : 0 ≤ x.toInt) (h2 : x.toInt ≤ 5) : x = 0 ∨ x = 1 ∨ x = 2 ∨ x = 3 ∨ x = 4 ∨ x = 5 := by
  obtain ⟨l0, l1, l2, l3, l4, l5, -⟩ := lit_ti
  simp only [ti_eq, l0, l1, l2, l3, l4, l5]
  omega
theorem isw_ti {x : Int32} : isw x 2 4 = 0 ↔ ¬ (2 ≤ x.toInt ∧ x.toInt ≤ 4) := by
  obtain ⟨l0, l1, l2, l3, l4, l5, -⟩ := lit_ti
  unfold isw
  by_cases h1 : x < 2
  · rw [if_pos h1]; rw [ti_lt, l2] at h1; simp only [true_iff]; omega
  · rw [if_neg h1]; rw [ti_lt, l2] at h1
    by_cases h2 : (4 : Int32) < x
    · rw [if_pos h2]; rw [ti_lt, l4] at h2; simp only [true_iff]; omega
    · rw [if_neg h2]; rw [ti_lt, l4] at h2; simp only [show ¬ (1 : Int32) = 0 by decide, false_iff]; omega
theorem sub_min {a w : Int32} (h : 0 ≤ a.toInt) : 0 ≤ (w - s_min a w).toInt := by
  have r := ti_r w
  by_cases c : w < a
  · have e : s_min a w = w := if_pos c
    rw [e, Int32.sub_self]; decide
  · have e : s_min a w = a := if_neg c
    rw [ti_lt] at c
    rw [e, ti_sub (by omega) (by omega)]; omega
section
variable {C : Nat → Prop} {E : eT} {V : yT} {T : Int} {D : Nat → Int} {M N : yT} {F : fT} {i k : Nat}
theorem d_1 (hC : CD C) (h : dRel C E V T D M N) : M 1 k = N 1 k := h.1 1 hC.1.1 k
theorem d_2 (hC : CD C) (h : dRel C E V T D M N) : M 2 k = N 2 k := h.1 2 hC.1.2.1 k
theorem d_3 (hC : CD C) (h : dRel C E V T D M N) : M 3 k = N 3 k := h.1 3 hC.1.2.2.1 k
theorem d_4 (hC : CD C) (h : dRel C E V T D M N) : M 4 k = N 4 k := h.1 4 hC.1.2.2.2.1 k
theorem d_8 (hC : CD C) (h : dRel C E V T D M N) : M 8 k = N 8 k := h.1 8 hC.1.2.2.2.2.1 k
theorem d_9 (hC : CD C) (h : dRel C E V T D M N) : M 9 k = N 9 k := h.1 9 hC.1.2.2.2.2.2.1 k
theorem d_14 (hC : CD C) (h : dRel C E V T D M N) : M 14 k = N 14 k := h.1 14 hC.1.2.2.2.2.2.2.2.2.1 k
theorem d_16 (hC : CD C) (h : dRel C E V T D M N) : M 16 k = N 16 k := h.1 16 hC.1.2.2.2.2.2.2.2.2.2.2.1 k
/-- in the fields' loop: j fields' water done, D the bounds of their dry days -/
def SD (C : Nat → Prop) (E : eT) (V : yT) (T : Int) (D : Nat → Int) (j : Nat) (M N : yT) : Prop :=
  dRel C E V T D M N ∧ (∀ k : Nat, k < E.2.1 → M 11 k = N 11 k) ∧ (∀ k : Nat, k < E.2.1 → (j ≤ k → M 22 k = N 22 k) ∧ (k < j → M 22 k = 0)) ∧ (∀ k : Nat, k < E.2.1 → M 23 k = 0)
theorem SD_up {j c a : Nat} {x y : Int32} (h : SD C E V T D j M N) (e : C c → x = y) (hc : c = 70 ∨ c = 71 ∨ c = 72) : SD C E V T D j (s_up2 M c a x) (s_up2 N c a y) := by
  obtain ⟨h1, h3, h4, h5⟩ := h
  refine ⟨dRel_up h1 e (by omega) (by omega) (by omega) (by omega) (by omega), fun k hk => ?_, fun k hk => ?_, fun k hk => ?_⟩
  · rw [up_rd, up_rd, if_neg (by omega), if_neg (by omega)]; exact h3 k hk
  · rw [up_rd, up_rd, if_neg (by omega), if_neg (by omega)]; exact h4 k hk
  · rw [up_rd, if_neg (by omega)]; exact h5 k hk
theorem SD_22 {j a : Nat} {x y : Int32} (hC : CD C) (h : SD C E V T D j M N) (e : x = y) (ha : j ≤ a) : SD C E V T D j (s_up2 M 22 a x) (s_up2 N 22 a y) := by
  obtain ⟨h1, h3, h4, h5⟩ := h
  refine ⟨dRel_up h1 (fun _ => e) (by decide) (by decide) (by decide) (by decide) (by decide), fun k hk => ?_, fun k hk => ?_, fun k hk => ?_⟩
  · rw [up_rd, up_rd, if_neg (by omega), if_neg (by omega)]; exact h3 k hk
  · rw [up_rd, up_rd]
    by_cases c : k = a
    · subst c
      rw [if_pos ⟨rfl, rfl⟩, if_pos ⟨rfl, rfl⟩]
      exact ⟨fun _ => e, fun z => by omega⟩
    · rw [if_neg (fun z => c z.2), if_neg (fun z => c z.2)]; exact h4 k hk
  · rw [up_rd, if_neg (by omega)]; exact h5 k hk
theorem SD_z (hC : CD C) (h : SD C E V T D k M N) : SD C E V T D (k + 1) (s_up2 M 22 k 0) N := by
  obtain ⟨h1, h3, h4, h5⟩ := h
  refine ⟨dRel_l h1 (fun z => absurd z hC.2.2.2.2.2.2.1) (by decide) (by decide) (by decide) (by decide), fun j hj => ?_, fun j hj => ?_, fun j hj => ?_⟩
  · rw [up_rd, if_neg (by omega)]; exact h3 j hj
  · rw [up_rd]
    by_cases c : j = k
    · rw [if_pos ⟨rfl, c⟩]; exact ⟨fun z => by omega, fun _ => rfl⟩
    · rw [if_neg (fun z => c z.2)]; exact ⟨fun z => (h4 j hj).1 (by omega), fun z => (h4 j hj).2 (by omega)⟩
  · rw [up_rd, if_neg (by omega)]; exact h5 j hj
/-- a field's column written on both sides -/
theorem SD_f {D' : Nat → Int} {j c : Nat} {x y : Int32} (h : SD C E V T D j M N) (e : x = y) (hc : c = 1 ∨ c = 2 ∨ c = 3 ∨ c = 8 ∨ c = 9) (hi : iF (D' k) (s_up2 M c k x) k) (hd : ∀ a, a ≠ k → D a ≤ D' a) : SD C E V T D' j (s_up2 M c k x) (s_up2 N c k y) := by
  obtain ⟨⟨r1, r2, r3, r4, r5, r6⟩, h3, h4, h5⟩ := h
  refine ⟨⟨EQ_up r1 (fun _ => e), fun a ha hs => ?_, fun a ha => ?_, fun i hi => iS_c (by omega) (r4 i hi), ST_r (ST_l r5 (by omega)) (by omega), ?_⟩, fun k hk => ?_, fun k hk => ?_, fun k hk => ?_⟩
  · rw [up_rd, if_neg (by omega)] at hs
    rw [up_rd, up_rd, up_rd, up_rd, up_rd, up_rd, if_neg (by omega), if_neg (by omega), if_neg (by omega), if_neg (by omega), if_neg (by omega), if_neg (by omega)]
    exact r2 a ha hs
  · by_cases c : a = k
    · rw [c]; exact hi
    · exact iF_ne c (iF_D (r3 a ha) (hd a c))
  · rw [up_rd, if_neg (by omega)]; exact r6
  · rw [up_rd, up_rd, if_neg (by omega), if_neg (by omega)]; exact h3 k hk
  · rw [up_rd, up_rd, if_neg (by omega), if_neg (by omega)]; exact h4 k hk
  · rw [up_rd, if_neg (by omega)]; exact h5 k hk
theorem bl_find (hW : EW E V) (h : ∀ k : Nat, k < E.2.1 → N 0 k = nI (E.2.2 k)) (hk : k < E.2.1) : ∀ (d j : Nat), k + 1 ≤ j → j + d ≤ E.2.1 → (List.range' j d).find? (fun a => E.2.2 a == E.2.2 k && decide (k < a)) = blR N k j d := by
  intro d
  induction d with
  | zero => intro j _ _; rfl
  | succ d ih =>
    intro j h1 h2
    rw [List.range'_succ, List.find?_cons]
    simp only [blR]
    have h3 := hW.2.2.1 j (by omega)
    have h4 := hW.2.2.1 k hk
    have h5 := hW.1
    rw [h j (by omega), h k hk]
    simp only [nI_inj3 (show E.2.2 j < 2147483648 by omega) (show E.2.2 k < 2147483648 by omega)]
    by_cases c : E.2.2 j = E.2.2 k
    · simp [c, show k < j by omega]
    · have hb : (E.2.2 j == E.2.2 k && decide (k < j)) = false := by simp [c]
      rw [hb, if_neg c]
      exact ih (j + 1) (by omega) (by omega)
theorem nxt_find (hW : EW E V) (hF : F.2.1 = E.2.1) (h : ∀ k : Nat, k < E.2.1 → N 0 k = nI (E.2.2 k)) (hk : k < E.2.1) : belR F N k = ce_nxt E k := by
  unfold belR ce_nxt
  rw [hF, List.head?_filter, ← bl_find hW h hk _ _ (Nat.le_refl _) (by omega), List.range_eq_range']
  have key : ∀ (m j d : Nat), j + m = k + 1 → (List.range' j (m + d)).find? (fun a => E.2.2 a == E.2.2 k && decide (k < a)) = (List.range' (k + 1) d).find? (fun a => E.2.2 a == E.2.2 k && decide (k < a)) := by
    intro m
    induction m with
    | zero => intro j d e; rw [Nat.add_zero] at e; rw [e, Nat.zero_add]
    | succ m ih =>
      intro j d e
      rw [show m + 1 + d = (m + d) + 1 by omega, List.range'_succ, List.find?_cons]
      rw [← ih (j + 1) d (by omega)]
      simp [show ¬ k < j by omega]
  have := key (k + 1) 0 (E.2.1 - (k + 1)) (by omega)
  rw [show k + 1 + (E.2.1 - (k + 1)) = E.2.1 by omega] at this
  exact this.symm
theorem SD_send (hC : CD C) (hW : EW E V) (hF : F.2.1 = E.2.1) (hk : k < E.2.1) {x y : Int32} (h : SD C E V T D (k + 1) M N) (e : x = y) : SD C E V T D (k + 1) (sendM E k x M) (sendR F k y N) := by
  subst e
  unfold sendM sendR
  rw [nxt_find hW hF (fun j hj => d_of hW h.1 hj) hk]
  cases hn : ce_nxt E k with
  | none => exact SD_up h (fun z => by rw [h.1.1 72 z 0]) (by omega)
  | some j =>
    have h1 : k < j := by
      unfold ce_nxt at hn
      have := (List.mem_filter.mp (List.mem_of_head? hn)).2
      simp only [Bool.and_eq_true, decide_eq_true_eq] at this
      exact this.2
    have h2 : j < E.2.1 := nxt_lt hn.symm j rfl
    refine SD_22 hC h ?_ (by omega)
    rw [(h.2.2.1 j h2).1 (by omega)]
theorem iF_1 {D : Int} {v : Int32} (h : iF D M k) (hv : 0 ≤ v.toInt) : iF D (s_up2 M 1 k v) k := by
  unfold iF at h ⊢
  simp only [up_rd, Nat.reduceEqDiff, false_and, and_self, if_true, if_false, reduceIte]
  exact ⟨⟨hv, h.1.2⟩, h.2⟩
theorem SD_pW (hC : CD C) (hW : EW E V) (hF : F.2.1 = E.2.1) (hk : k < E.2.1) {r : Int32} (hr : V 67 0 = r) (h : SD C E V T D k M N) :
    SD C E V T D (k + 1) (pW E k r (M 22 k) (s_up2 M 22 k 0)) (pR2 k (sendR F k (spl (N 67 0) (N 22 k) N k + sepR N k / 2) (pR1 k N))) := by
  have hr2 : N 67 0 = r := (h.1.2.2.2.2.1.2 67 (by omega) 0).trans hr
  have e22 : M 22 k = N 22 k := (h.2.2.1 k hk).1 (Nat.le_refl _)
  have e11 : M 11 k = N 11 k := h.2.1 k hk
  have hz := SD_z hC h
  have hi := hz.1.2.2.1 k hk
  have hcr := hi.1
  rw [← e22, hr2]
  unfold pR1 sepR
  rw [hr2, ← e22]
  have z : ∀ c j, c ≠ 22 → s_up2 M 22 k 0 c j = M c j := fun c j hc => if_neg (fun z => hc z.1)
  generalize hc0 : M 22 k = c0
  rw [hc0] at e22
  have z11 : s_up2 M 22 k 0 11 k = N 11 k := (z 11 k (by decide)).trans e11
  generalize s_up2 M 22 k 0 = M0 at hz hi hcr z z11 ⊢
  have w1 : wa1 r c0 M0 k = wa1 r c0 N k := by unfold wa1; rw [d_1 hC hz.1, z11]
  have ws : spl r c0 M0 k = spl r c0 N k := by unfold spl; rw [w1, d_14 hC hz.1]
  have w2 : wa2 r c0 M0 k = wa2 r c0 N k := by unfold wa2; rw [w1, ws]
  have wp : sep r c0 M0 k = s_min (wa2 r c0 N k) (1 + N 2 k) := by unfold sep; rw [w2, d_2 hC hz.1, s_min_comm]
  have w3 : wa3 r c0 M0 k = wa2 r c0 N k - s_min (wa2 r c0 N k) (1 + N 2 k) := by unfold wa3; rw [wp, w2]
  have l1 : (1 : Int32).toInt = 1 := rfl
  have hw3 : 0 ≤ (wa3 r c0 M0 k).toInt := by
    unfold wa3 sep
    refine sub_min ?_
    rw [ti_add (by omega) (by omega)]; omega
  unfold pW pR2
  have wd : drk r c0 M0 k = s_min (wa3 r c0 M0 k) (if isw (M0 4 k) 2 4 = 0 then 1 else 2) := by unfold drk; rw [s_min_comm]
  have hw4 : 0 ≤ (wa3 r c0 M0 k - drk r c0 M0 k).toInt := by
    rw [wd, s_min_comm]
    refine sub_min ?_
    split <;> decide
  rw [ws, wp, wd] at *
  rw [w3] at *
  generalize hsv : s_min (wa2 r c0 N k) (1 + N 2 k) = sv at *
  generalize hw3v : wa2 r c0 N k - sv = w3v at *
  have hA := SD_up (c := 70) (a := 0) (x := M0 70 0 + (sv - sv / 2)) (y := N 70 0 + (sv - sv / 2)) (SD_f (c := 1) (x := w3v) (y := w3v) hz rfl (Or.inl rfl) (iF_1 hi hw3) (fun a _ => Int.le_refl _)) (fun z => by rw [hz.1.1 70 z 0]) (by omega)
  have hB := SD_send (x := spl r c0 N k + sv / 2) hC hW hF hk hA rfl
  have q1 : ∀ c j, c ≠ 22 → c ≠ 72 → sendM E k (spl r c0 N k + sv / 2) (s_up2 (s_up2 M0 1 k w3v) 70 0 (M0 70 0 + (sv - sv / 2))) c j = s_up2 (s_up2 M0 1 k w3v) 70 0 (M0 70 0 + (sv - sv / 2)) c j := fun c j h1 h2 => send_rd h1 h2
  have qr : ∀ c j, c ≠ 22 → c ≠ 72 → sendR F k (spl r c0 N k + sv / 2) (s_up2 (s_up2 N 1 k w3v) 70 0 (N 70 0 + (sv - sv / 2))) c j = s_up2 (s_up2 N 1 k w3v) 70 0 (N 70 0 + (sv - sv / 2)) c j := by
    intro c j h1 h2
    unfold sendR
    cases belR F _ k with
    | none => exact if_neg (fun z => h2 z.1)
    | some a => exact if_neg (fun z => h1 z.1)
  have q1a := q1 71 0 (by decide) (by decide)
  have qra := qr 71 0 (by decide) (by decide)
  have qrb := qr 1 k (by decide) (by decide)
  have qrc := qr 4 k (by decide) (by decide)
  generalize sendM E k (spl r c0 N k + sv / 2) (s_up2 (s_up2 M0 1 k w3v) 70 0 (M0 70 0 + (sv - sv / 2))) = M3 at hB q1a ⊢
  generalize sendR F k (spl r c0 N k + sv / 2) (s_up2 (s_up2 N 1 k w3v) 70 0 (N 70 0 + (sv - sv / 2))) = N3 at hB qra qrb qrc ⊢
  simp only [up_rd, Nat.reduceEqDiff, false_and, and_self, if_true, if_false, reduceIte] at q1a qra qrb qrc
  rw [qra, qrb, qrc]
  rw [d_4 hC hz.1] at hw4 ⊢
  exact SD_up (SD_f hB rfl (Or.inl rfl) (iF_1 (hB.1.2.2.1 k hk) hw4) (fun a _ => Int.le_refl _)) (fun z => by rw [hz.1.1 71 z 0]) (by omega)
theorem SD_dry (hC : CD C) {d : Int} (hD : D k ≤ d) (hd : d < 1000000) (hk : k < E.2.1) {j : Nat} (h : SD C E V T D j M N) :
    SD C E V T (fun a => if a = k then d + 1 else D a) j (s_up2 (s_up2 M 3 k (dryC M k)) 2 k (crkC M k)) (dry3 k N) := by
  obtain ⟨⟨i1, i2, i3, i4, i5⟩, i6⟩ := h.1.2.2.1 k hk
  have l1 : (1 : Int32).toInt = 1 := rfl
  have l3 : (3 : Int32).toInt = 3 := rfl
  have l0 : (0 : Int32).toInt = 0 := rfl
  have hw : M 1 k ≤ 0 ↔ N 1 k = 0 := by rw [← d_1 hC h.1, ti_le, ti_eq, l0]; omega
  have e3 : (M 3 k + 1).toInt = (M 3 k).toInt + 1 := by rw [ti_add (by omega) (by omega)]; rfl
  have e2 : (M 2 k + 1).toInt = (M 2 k).toInt + 1 := by rw [ti_add (by omega) (by omega)]; rfl
  have key : ∀ a b : Int32, 0 ≤ a.toInt → a.toInt ≤ d + 1 → 0 ≤ b.toInt → b.toInt ≤ 3 → SD C E V T (fun a => if a = k then d + 1 else D a) j (s_up2 (s_up2 M 3 k a) 2 k b) (s_up2 (s_up2 N 3 k a) 2 k b) := by
    intro a b ha ha2 hb hb2
    have h3 : SD C E V T (fun a => if a = k then d + 1 else D a) j (s_up2 M 3 k a) (s_up2 N 3 k a) := by
      refine SD_f h rfl (by omega) ?_ (fun x hx => by rw [if_neg hx]; exact Int.le_refl _)
      unfold iF
      simp only [up_rd, Nat.reduceEqDiff, false_and, and_self, if_true, if_false, reduceIte]
      exact ⟨⟨i1, i2, i3, ha, ha2⟩, i6⟩
    refine SD_f h3 rfl (by omega) ?_ (fun x hx => Int.le_refl _)
    unfold iF
    simp only [up_rd, Nat.reduceEqDiff, false_and, and_self, if_true, if_false, reduceIte]
    exact ⟨⟨i1, hb, hb2, ha, ha2⟩, i6⟩
  have key2 : ∀ a : Int32, 0 ≤ a.toInt → a.toInt ≤ d + 1 → SD C E V T (fun a => if a = k then d + 1 else D a) j (s_up2 (s_up2 M 3 k a) 2 k (M 2 k)) (s_up2 N 3 k a) := by
    intro a ha ha2
    have := key a (M 2 k) ha ha2 i2 i3
    have e : s_up2 (s_up2 N 3 k a) 2 k (M 2 k) = s_up2 N 3 k a := by
      have e1 : M 2 k = s_up2 N 3 k a 2 k := by rw [up_rd, if_neg (by omega)]; exact d_2 hC h.1
      rw [e1, up_self]
    rw [e] at this
    exact this
  unfold dry3 dryC crkC
  by_cases c : M 1 k ≤ 0
  · rw [if_pos (hw.mp c), ← d_3 hC h.1]
    simp only [c, if_true, true_and, up_rd, and_self]
    have c2 : ¬ M 3 k + 1 ≤ 0 := by rw [ti_le, e3, l0]; omega
    simp only [c2, if_false, Nat.reduceEqDiff, false_and]
    by_cases c3 : M 3 k + 1 - (M 3 k + 1) / 3 * 3 = 0
    · simp only [c3, if_true]
      rw [← d_2 hC h.1]
      refine key _ _ (by omega) (by omega) ?_ ?_
      · rw [ti_min, l3]; split <;> omega
      · rw [ti_min, l3]; split <;> omega
    · simp only [c3, if_false]
      exact key2 _ (by omega) (by omega)
  · rw [if_neg (fun z => c (hw.mpr z))]
    simp only [c, if_false, false_and, up_rd, and_self, if_true, show (0 : Int32) ≤ 0 by decide]
    exact key2 0 (by decide) (by rw [l0]; omega)
theorem SD_pest (hC : CD C) (hk : k < E.2.1) {j : Nat} (h : SD C E V T D j M N) : SD C E V T D j (s_up2 M 8 k (pesC M k)) (s_up2 N 8 k (lvR N k)) := by
  have hi := h.1.2.2.1 k hk
  obtain ⟨g1, g2, g3, g4⟩ := id hi
  have l0 : (0 : Int32).toInt = 0 := rfl
  have l99 : (99 : Int32).toInt = 99 := rfl
  have ev : pesC M k = lvR N k := by
    unfold pesC lvR pstC
    rw [← d_16 hC h.1, ← d_4 hC h.1, ← d_8 hC h.1]
    have e4 : ∀ z : Int32, z + -4 = z - 4 := fun z => by rw [Int32.sub_eq_add_neg]
    simp only [e4]
    have ed : (if M 16 k = 0 then (fun z : Int32 => z) else fun z => z - 4) = (if M 16 k = 1 then fun z : Int32 => z - 4 else fun z => z) := by
      rcases g3.2.2.2.2.2 with c | c <;> rw [c] <;> rfl
    have ed2 : ∀ z : Int32, (if M 16 k = 0 then z else z - 4) = (if M 16 k = 1 then z - 4 else z) := by
      intro z
      rcases g3.2.2.2.2.2 with c | c <;> rw [c] <;> rfl
    rw [ed2]
    rcases st_cases g2.1 g2.2.1 with c | c | c | c | c | c <;> rw [c] <;> rfl
  refine SD_f h ev (by omega) ?_ (fun _ _ => Int.le_refl _)
  unfold iF at hi ⊢
  simp only [up_rd, Nat.reduceEqDiff, false_and, and_self, if_true, if_false, reduceIte]
  have b1 : 0 ≤ (pesC M k).toInt := by unfold pesC; rw [ti_max, l0]; split <;> omega
  have b2 : (pesC M k).toInt ≤ 99 := by
    unfold pesC
    rw [ti_max, l0, ti_min, l99]
    split <;> split <;> omega
  exact ⟨hi.1, ⟨hi.2.1.1, hi.2.1.2.1, b1, b2, hi.2.1.2.2.2.2⟩, hi.2.2⟩
end
