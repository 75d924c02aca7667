/-! ===== p31: a day, field by field ===== -/
theorem rg_5 (w b : Int32) : w - (w - b) = b := by grind
theorem lo1 {w b : Int32} (hb : 0 ≤ b.toInt) : (w - s_max 0 (w - b)).toInt ≤ b.toInt := by
  have r := ti_r w
  have rb := ti_r b
  have l0 : (0 : Int32).toInt = 0 := rfl
  by_cases c : (0 : Int32) < w - b
  · have e : s_max 0 (w - b) = w - b := if_pos c
    rw [e, rg_5]
    exact Int.le_refl _
  · have e : s_max 0 (w - b) = 0 := if_neg c
    rw [e, Int32.sub_zero]
    rw [ti_lt, l0] at c
    apply Int.not_lt.mp
    intro z
    have : (w - b).toInt = w.toInt - b.toInt := ti_sub (by omega) (by omega)
    omega
theorem lo2 {a w b : Int32} (ha : 0 ≤ a.toInt) (h : w.toInt ≤ b.toInt) (hb : 0 ≤ b.toInt) : (w - s_min a w).toInt ≤ b.toInt := by
  have r := ti_r w
  by_cases c : w < a
  · have e : s_min a w = w := if_pos c
    rw [e, Int32.sub_self]
    exact hb
  · have e : s_min a w = a := if_neg c
    rw [ti_lt] at c
    rw [e, ti_sub (by omega) (by omega)]
    omega
section
variable {E : eT} {M M' X : yT} {n t s k j i : Nat} {x y r wa : Int32}
theorem gr_no (h : isw (M 4 k) 2 4 = 0) : growM k x y r M = M := if_pos h
theorem gr_46 (h : ¬ isw (M 4 k) 2 4 = 0) : growM k x y r M 6 k = M 6 k + r ∧ growM k x y r M 4 k = ripV (M 4 k) (M 5 k) (M 6 k + r) := by
  have e : ∀ a : Int32, ripC (s_up2 (s_up2 M 7 k a) 6 k (M 6 k + r)) k = ripV (M 4 k) (M 5 k) (M 6 k + r) := fun a => by
    unfold ripC ripV
    simp only [up_rd, Nat.reduceEqDiff, false_and, and_self, if_true, if_false]
  unfold growM
  rw [if_neg h]
  dsimp only
  rw [e]
  split
  · simp only [up_rd, Nat.reduceEqDiff, false_and, and_self, if_true, if_false]
  · split <;> simp only [up_rd, Nat.reduceEqDiff, false_and, and_self, if_true, if_false]
/-- a field's water behind the day's way through it -/
theorem pW_1 {c : Int32} : pW E k r c M 1 k = wa3 r c M k - drk r c M k := by
  unfold pW
  rw [up_rd, if_neg (by omega), up_rd, if_pos ⟨rfl, rfl⟩]
theorem pW_b {c : Int32} (hb : 0 ≤ (M 14 k).toInt) (hc : 0 ≤ (M 2 k).toInt ∧ (M 2 k).toInt ≤ 3) : (pW E k r c M 1 k).toInt ≤ (M 14 k).toInt := by
  have l1 : (1 : Int32).toInt = 1 := rfl
  rw [pW_1]
  unfold drk
  refine lo2 (by split <;> decide) ?_ hb
  unfold wa3 sep
  refine lo2 (by rw [ti_add (by omega) (by omega)]; omega) ?_ hb
  unfold wa2 spl
  exact lo1 hb
theorem st_k (hb : 0 ≤ (X 14 k).toInt) (hc : 0 ≤ (X 2 k).toInt ∧ (X 2 k).toInt ≤ 3) :
    ((standM E r wa k X 1 k).toInt ≤ (X 14 k).toInt ∧ (0 < (standM E r wa k X 1 k).toInt → standM E r wa k X 3 k = 0)) ∧
    (isw (X 4 k) 2 4 = 0 → ∀ c, c = 4 ∨ c = 6 ∨ c = 7 ∨ c = 9 → standM E r wa k X c k = X c k) ∧
    (¬ isw (X 4 k) 2 4 = 0 → standM E r wa k X 6 k = X 6 k + wa ∧ standM E r wa k X 4 k = ripV (X 4 k) (X 5 k) (X 6 k + wa)) := by
  have z : ∀ c, c ≠ 22 → s_up2 X 22 k 0 c k = X c k := fun c hc => if_neg (fun x => hc x.1)
  have hp : (pW E k r (X 22 k) (s_up2 X 22 k 0) 1 k).toInt ≤ (X 14 k).toInt := by
    rw [← z 14 (by decide)]
    exact pW_b (by rw [z 14 (by decide)]; exact hb) (by rw [z 2 (by decide)]; exact hc)
  have hf : ∀ c, c ≠ 1 → c ≠ 22 → c ≠ 70 → c ≠ 71 → c ≠ 72 → pW E k r (X 22 k) (s_up2 X 22 k 0) c k = X c k := fun c h1 h2 h3 h4 h5 => (fr_pW ⟨h1, h2, h3, h4, h5⟩).trans (z c h2)
  unfold standM
  dsimp only
  generalize pW E k r (X 22 k) (s_up2 X 22 k 0) = P at hp hf
  have hn : ∀ c, c ≠ 3 → c ≠ 2 → s_up2 (s_up2 P 3 k (dryC P k)) 2 k (crkC P k) c k = P c k := fun c h1 h2 => by rw [up_rd, up_rd, if_neg (by omega), if_neg (by omega)]
  have hn3 : s_up2 (s_up2 P 3 k (dryC P k)) 2 k (crkC P k) 3 k = dryC P k := by rw [up_rd, if_neg (by omega), up_rd, if_pos ⟨rfl, rfl⟩]
  generalize s_up2 (s_up2 P 3 k (dryC P k)) 2 k (crkC P k) = N1 at hn hn3 ⊢
  generalize N1 1 k = gx
  generalize N1 8 k = gy
  have h4 : ∀ (v : Int32) (c : Nat), c ≠ 8 → s_up2 (growM k gx gy wa N1) 8 k v c k = growM k gx gy wa N1 c k := fun v c h => if_neg (fun x => h x.1)
  have h1 : ∀ c : Nat, c = 1 ∨ c = 3 → growM k gx gy wa N1 c k = N1 c k := fun c h => gr_rd (Or.inl (by omega))
  have e4 : N1 4 k = X 4 k := (hn 4 (by decide) (by decide)).trans (hf 4 (by decide) (by decide) (by decide) (by decide) (by decide))
  have e5 : N1 5 k = X 5 k := (hn 5 (by decide) (by decide)).trans (hf 5 (by decide) (by decide) (by decide) (by decide) (by decide))
  have e6 : N1 6 k = X 6 k := (hn 6 (by decide) (by decide)).trans (hf 6 (by decide) (by decide) (by decide) (by decide) (by decide))
  refine ⟨⟨?_, ?_⟩, fun hs c hc => ?_, fun hs => ?_⟩
  · rw [h4 _ 1 (by decide), h1 1 (by omega), hn 1 (by decide) (by decide)]; exact hp
  · rw [h4 _ 1 (by decide), h1 1 (by omega), hn 1 (by decide) (by decide), h4 _ 3 (by decide), h1 3 (by omega), hn3]
    intro h0
    unfold dryC
    rw [if_neg (fun q => by rw [ti_le] at q; have l0 : (0 : Int32).toInt = 0 := rfl; omega)]
  · rw [h4 _ c (by omega), gr_no (by rw [e4]; exact hs), hn c (by omega) (by omega), hf c (by omega) (by omega) (by omega) (by omega) (by omega)]
  · have g := gr_46 (M := N1) (k := k) (x := gx) (y := gy) (r := wa) (by rw [e4]; exact hs)
    rw [h4 _ 6 (by decide), h4 _ 4 (by decide), g.1, g.2, e4, e5, e6]
    exact ⟨rfl, rfl⟩
/-- what a field's standing does to another field -/
theorem st_o {c : Nat} (hj : j ≠ k) (hc : c ≠ 22 ∧ c < 32) : standM E r wa k X c j = X c j := by
  have z : s_up2 X 22 k 0 c j = X c j := if_neg (fun x => hj x.2)
  unfold standM
  dsimp only
  rw [up_rd, if_neg (fun x => hj x.2), gr_rd (Or.inr hj), up_rd, if_neg (fun x => hj x.2), up_rd, if_neg (fun x => hj x.2)]
  unfold pW
  rw [up_rd, if_neg (by omega), up_rd, if_neg (fun x => hj x.2), send_rd (by omega) (by omega), up_rd, if_neg (by omega), up_rd, if_neg (fun x => hj x.2)]
  exact z
/-- a field's numbers behind the day: of M before it -/
def DK (M M' : yT) (wa : Int32) (k : Nat) : Prop := ((M' 1 k).toInt ≤ (M 14 k).toInt ∧ (0 < (M' 1 k).toInt → M' 3 k = 0)) ∧
  (isw (M 4 k) 2 4 = 0 → ∀ c, c = 4 ∨ c = 6 ∨ c = 7 ∨ c = 9 → M' c k = M c k) ∧
  (¬ isw (M 4 k) 2 4 = 0 → M' 6 k = M 6 k + wa ∧ M' 4 k = ripV (M 4 k) (M 5 k) (M 6 k + wa))
theorem DK_c {Y : yT} (h : DK M X wa k) (hc : ∀ c, c = 1 ∨ c = 3 ∨ c = 4 ∨ c = 6 ∨ c = 7 ∨ c = 9 → Y c k = X c k) : DK M Y wa k := by
  obtain ⟨h1, h2, h3⟩ := h
  refine ⟨by rw [hc 1 (by omega), hc 3 (by omega)]; exact h1, fun hs c z => by rw [hc c (by omega)]; exact h2 hs c z, fun hs => by rw [hc 6 (by omega), hc 4 (by omega)]; exact h3 hs⟩
theorem DK_day {fl : Int32} (hp : ∀ k, k < E.2.1 → 0 ≤ (M 14 k).toInt) (hi : ∀ k, k < E.2.1 → 0 ≤ (M 2 k).toInt ∧ (M 2 k).toInt ≤ 3) : ∀ k, k < E.2.1 → DK M (passF E fl wa r M) wa k := by
  unfold passF
  dsimp only
  have h0 : ∀ c j, c = 1 ∨ c = 2 ∨ c = 3 ∨ c = 4 ∨ c = 5 ∨ c = 6 ∨ c = 7 ∨ c = 9 ∨ c = 14 → itd (shareF E (fmod (splitM E fl (headM E fl wa r M) 64 0) 210)) 0 E.1 (splitM E fl (headM E fl wa r M)) c j = M c j := fun c j hc => by
    rw [fr_itd (fun k X => fr_share (by omega)), fr_hs (by omega)]
  generalize itd (shareF E (fmod (splitM E fl (headM E fl wa r M) 64 0) 210)) 0 E.1 (splitM E fl (headM E fl wa r M)) = X at h0
  have := itd_inv (f := standM E r wa) (R := fun j Y => (∀ k, k < j → k < E.2.1 → DK M Y wa k) ∧ ∀ c k, j ≤ k → (c = 1 ∨ c = 2 ∨ c = 3 ∨ c = 4 ∨ c = 5 ∨ c = 6 ∨ c = 7 ∨ c = 9 ∨ c = 14) → Y c k = M c k) E.2.1 0 X (fun j Y _ hj hy => by
    obtain ⟨y1, y2⟩ := hy
    refine ⟨fun k hk hk2 => ?_, fun c k hk hc => ?_⟩
    · by_cases e : k = j
      · subst e
        have q : ∀ c, (c = 1 ∨ c = 2 ∨ c = 3 ∨ c = 4 ∨ c = 5 ∨ c = 6 ∨ c = 7 ∨ c = 9 ∨ c = 14) → Y c k = M c k := fun c hc => y2 c k (Nat.le_refl _) hc
        have g := st_k (E := E) (X := Y) (k := k) (r := r) (wa := wa) (by rw [q 14 (by omega)]; exact hp k hk2) (by rw [q 2 (by omega)]; exact hi k hk2)
        rw [q 14 (by omega), q 4 (by omega), q 5 (by omega), q 6 (by omega)] at g
        exact ⟨g.1, fun hs c hc => (g.2.1 hs c hc).trans (q c (by omega)), g.2.2⟩
      · exact DK_c (y1 k (by omega) hk2) (fun c hc => st_o e (by omega))
    · rw [st_o (show k ≠ j by omega) (by omega)]; exact y2 c k (by omega) hc) ⟨fun k hk => absurd hk (by omega), fun c k _ hc => h0 c k (by omega)⟩
  simp only [Nat.zero_add] at this
  intro k hk
  exact DK_c (this.1 k hk hk) (fun c hc => fr_flyF (by omega))
theorem rip_up {st ki su : Int32} (hk : 0 ≤ ki.toInt ∧ ki.toInt ≤ 2) (h3 : st.toInt = 3 → 60 + 20 * ki.toInt ≤ su.toInt) (h4 : st.toInt = 4 → 100 + 40 * ki.toInt ≤ su.toInt) (hs : 2 ≤ st.toInt ∧ st.toInt ≤ 4) : st.toInt ≤ (ripV st ki su).toInt ∧ ((ripV st ki su).toInt = 4 → 100 + 40 * ki.toInt ≤ su.toInt) := by
  obtain ⟨l0, l1, l2, l3, l4, l5, -⟩ := lit_ti
  have hk3 : ki = 0 ∨ ki = 1 ∨ ki = 2 := by simp only [ti_eq, l0, l1, l2]; omega
  have key : ∀ a b c : Int32, a.toInt = 60 + 20 * ki.toInt → b.toInt = 100 + 40 * ki.toInt → (fun v : Int32 => st.toInt ≤ v.toInt ∧ (v.toInt = 4 → 100 + 40 * ki.toInt ≤ su.toInt)) (if su < c then (if su < b then (if su < a then st else 3) else 4) else 5) := by
    intro a b c ha hb
    by_cases c1 : su < c
    · rw [if_pos c1]
      by_cases c2 : su < b
      · rw [if_pos c2]
        rw [ti_lt] at c2
        by_cases c3 : su < a
        · rw [if_pos c3]
          exact ⟨Int.le_refl _, h4⟩
        · rw [if_neg c3]
          show st.toInt ≤ (3 : Int32).toInt ∧ ((3 : Int32).toInt = 4 → _)
          rw [l3]
          exact ⟨by omega, fun z => by omega⟩
      · rw [if_neg c2]
        rw [ti_lt] at c2
        show st.toInt ≤ (4 : Int32).toInt ∧ ((4 : Int32).toInt = 4 → _)
        rw [l4]
        exact ⟨by omega, fun z => by omega⟩
    · rw [if_neg c1]
      show st.toInt ≤ (5 : Int32).toInt ∧ ((5 : Int32).toInt = 4 → _)
      rw [l5]
      exact ⟨by omega, fun z => by omega⟩
  unfold ripV
  rcases hk3 with e | e | e
  · rw [e] at key ⊢; exact key 60 100 150 (by decide) (by decide)
  · rw [e] at key ⊢; exact key 80 140 200 (by decide) (by decide)
  · rw [e] at key ⊢; exact key 100 180 260 (by decide) (by decide)
/-- stages go on one by one; what holds of a field holds behind the day -/
theorem PK_day {fl : Int32} {D : Int} (hd : DK M (passF E fl wa r M) wa k) (hi : iF D M k) (hp : PK M t k) (hwa : 0 ≤ wa.toInt ∧ wa.toInt ≤ 40) (hy : 0 ≤ (ryC (passF E fl wa r M) k).toInt ∧ (ryC (passF E fl wa r M) k).toInt ≤ 80) : PK (passF E fl wa r M) t k ∧ ((M 4 k).toInt < 2 → passF E fl wa r M 4 k = M 4 k) ∧ (2 ≤ (M 4 k).toInt → (M 4 k).toInt ≤ (passF E fl wa r M 4 k).toInt) := by
  have fc : ∀ c j, c = 5 ∨ c = 14 ∨ c = 19 ∨ c = 20 ∨ c = 21 → passF E fl wa r M c j = M c j := fun c j hc => fr_pass (by omega) (by omega)
  obtain ⟨l0, l1, l2, l3, l4, l5, -⟩ := lit_ti
  have l120 : (120 : Int32).toInt = 120 := rfl
  obtain ⟨d1, d2, d3⟩ := hd
  obtain ⟨i1, i2, i3, i4⟩ := hi
  by_cases hs : isw (M 4 k) 2 4 = 0
  · have g := d2 hs
    have e4 := g 4 (by omega)
    have e6 := g 6 (by omega)
    have ey : ryC (passF E fl wa r M) k = ryC M k := ryC_c e4 (fc 5 k (by omega)) (g 7 (by omega)) (g 9 (by omega))
    refine ⟨?_, fun _ => e4, fun _ => by rw [e4]; exact Int.le_refl _⟩
    unfold PK tF at hp ⊢
    rw [ey, e4, e6, fc 5 k (by omega), fc 14 k (by omega), fc 19 k (by omega), fc 20 k (by omega), fc 21 k (by omega)]
    exact ⟨⟨⟨hp.1.1.1, d1.1⟩, d1.2⟩, hp.2⟩
  · have g := d3 hs
    have hb := isw_b hs
    rw [l2, l4] at hb
    obtain ⟨⟨k1, k2, k3, k4, -⟩, k5, k6⟩ := i4 hb.1
    have s6 : (M 6 k + wa).toInt = (M 6 k).toInt + wa.toInt := ti_add (by omega) (by omega)
    have hu := rip_up (st := M 4 k) (ki := M 5 k) (su := M 6 k + wa) ⟨k1, k2⟩ (fun z => by have := k5 (Or.inl z); omega) (fun z => by have := hp.2.1 z; omega) hb
    have ht := hp.2.2.1.2.1 hb.1 hb.2
    refine ⟨?_, fun z => by omega, fun _ => by rw [g.2]; exact hu.1⟩
    unfold PK tF at hp ⊢
    rw [g.2, g.1, fc 5 k (by omega), fc 14 k (by omega), fc 19 k (by omega), fc 20 k (by omega), fc 21 k (by omega)]
    refine ⟨⟨⟨hp.1.1.1, d1.1⟩, d1.2⟩, fun z => hu.2 z, ⟨hp.2.2.1.1, fun _ _ => ht, fun _ => ?_⟩, hp.2.2.2⟩
    rw [ht.1, ht.2, l0, l120]
    omega
end
