/-! ===== both sides' days: growth, flight, the whole day ===== -/
def ripV (st ki su : Int32) : Int32 := if su < irow 2 ki then (if su < irow 1 ki then (if su < irow 0 ki then st else 3) else 4) else 5
def rip2V (ki su : Int32) : Int32 := 2 + (if su < 60 + 20 * ki then 0 else 1) + (if su < 100 + 40 * ki then 0 else 1) + (if su < (if ki = 2 then 260 else 150 + 50 * ki) then 0 else 1)
theorem rip_three {st su : Int32} {a b c : Int32} (ha : a.toInt < b.toInt) (hb : b.toInt < c.toInt) (hs : st = 2 ∨ st = 3 ∨ st = 4) (h3 : st = 3 ∨ st = 4 → a.toInt ≤ su.toInt) :
    (fun v : Int32 => v = 2 + (if su < a then 0 else 1) + (if su < b then 0 else 1) + (if su < c then 0 else 1) ∧ 2 ≤ v.toInt ∧ v.toInt ≤ 5 ∧ (v.toInt ≤ 4 → su.toInt < c.toInt) ∧ (v.toInt = 3 ∨ v.toInt = 4 → a.toInt ≤ su.toInt)) (if su < c then (if su < b then (if su < a then st else 3) else 4) else 5) := by
  obtain ⟨l0, l1, l2, l3, l4, l5, -⟩ := lit_ti
  by_cases c1 : su < a <;> by_cases c2 : su < b <;> by_cases c3 : su < c <;> simp only [c1, c2, c3, if_true, if_false] <;> rw [ti_lt] at c1 c2 c3
  · rcases hs with e | e | e
    · subst e; exact ⟨by decide, by decide, by decide, fun _ => c3, fun z => by omega⟩
    · exact absurd (h3 (Or.inl e)) (by omega)
    · exact absurd (h3 (Or.inr e)) (by omega)
  · omega
  · omega
  · omega
  · exact ⟨by decide, by decide, by decide, fun _ => c3, fun z => by omega⟩
  · omega
  · exact ⟨by decide, by decide, by decide, fun _ => c3, fun z => by omega⟩
  · exact ⟨by decide, by decide, by decide, fun z => absurd z (by decide), fun z => by omega⟩
theorem rip_val {st ki su : Int32} (hs : st = 2 ∨ st = 3 ∨ st = 4) (h1 : 0 ≤ ki.toInt) (h2 : ki.toInt ≤ 2) (h3 : st = 3 ∨ st = 4 → 60 + 20 * ki.toInt ≤ su.toInt) :
    ripV st ki su = rip2V ki su ∧ 2 ≤ (ripV st ki su).toInt ∧ (ripV st ki su).toInt ≤ 5 ∧ ((ripV st ki su).toInt ≤ 4 → su.toInt < 260) ∧ ((ripV st ki su).toInt = 3 ∨ (ripV st ki su).toInt = 4 → 60 + 20 * ki.toInt ≤ su.toInt) := by
  obtain ⟨l0, l1, l2, l3, l4, l5, -⟩ := lit_ti
  have hk : ki = 0 ∨ ki = 1 ∨ ki = 2 := by simp only [ti_eq, l0, l1, l2]; omega
  unfold ripV rip2V
  rcases hk with e | e | e
  · subst e
    have := rip_three (st := st) (su := su) (a := 60) (b := 100) (c := 150) (by decide) (by decide) hs (fun z => by have := h3 z; rw [l0] at this; exact this)
    have e150 : (150 : Int32).toInt = 150 := rfl
    have e60 : (60 : Int32).toInt = 60 := rfl
    rw [e150, e60] at this
    refine ⟨this.1, this.2.1, this.2.2.1, fun z => ?_, fun z => ?_⟩
    · have := this.2.2.2.1 z; omega
    · have := this.2.2.2.2 z; rw [l0]; omega
  · subst e
    have := rip_three (st := st) (su := su) (a := 80) (b := 140) (c := 200) (by decide) (by decide) hs (fun z => by have := h3 z; rw [l1] at this; exact this)
    have e150 : (200 : Int32).toInt = 200 := rfl
    have e60 : (80 : Int32).toInt = 80 := rfl
    rw [e150, e60] at this
    refine ⟨this.1, this.2.1, this.2.2.1, fun z => ?_, fun z => ?_⟩
    · have := this.2.2.2.1 z; omega
    · have := this.2.2.2.2 z; rw [l1]; omega
  · subst e
    have := rip_three (st := st) (su := su) (a := 100) (b := 180) (c := 260) (by decide) (by decide) hs (fun z => by have := h3 z; rw [l2] at this; exact this)
    have e150 : (260 : Int32).toInt = 260 := rfl
    have e60 : (100 : Int32).toInt = 100 := rfl
    rw [e150, e60] at this
    refine ⟨this.1, this.2.1, this.2.2.1, fun z => ?_, fun z => ?_⟩
    · have := this.2.2.2.1 z; omega
    · have := this.2.2.2.2 z; rw [l2]; omega
section
variable {C : Nat → Prop} {E : eT} {V : yT} {T : Int} {D : Nat → Int} {M N : yT} {F : fT} {i k : Nat}
def w4 (k : Nat) (v7 v6 v4 v9 : Int32) (X : yT) : yT := s_up2 (s_up2 (s_up2 (s_up2 X 7 k v7) 6 k v6) 4 k v4) 9 k v9
theorem w4_rd {v7 v6 v4 v9 : Int32} {X : yT} {c j : Nat} (h : (c ≠ 4 ∧ c ≠ 6 ∧ c ≠ 7 ∧ c ≠ 9) ∨ j ≠ k) : w4 k v7 v6 v4 v9 X c j = X c j := by
  unfold w4
  rw [up_rd, up_rd, up_rd, up_rd, if_neg (by omega), if_neg (by omega), if_neg (by omega), if_neg (by omega)]
theorem SD_w4 {j : Nat} {v7 v6 v4 v9 : Int32} (h : SD C E V T D j M N) (e5 : M 5 k = N 5 k) (hi : iF (D k) (w4 k v7 v6 v4 v9 M) k) : SD C E V T D j (w4 k v7 v6 v4 v9 M) (w4 k v7 v6 v4 v9 N) := by
  obtain ⟨⟨r1, r2, r3, r4, r5, r6⟩, h3, h4, h5⟩ := h
  refine ⟨⟨EQ_up (EQ_up (EQ_up (EQ_up r1 (fun _ => rfl)) (fun _ => rfl)) (fun _ => rfl)) (fun _ => rfl), fun a ha hs => ?_, fun a ha => ?_, fun i hi => iS_c (by decide) (iS_c (by decide) (iS_c (by decide) (iS_c (by decide) (r4 i hi)))), ST_r (ST_l (ST_r (ST_l (ST_r (ST_l (ST_r (ST_l r5 (by decide)) (by decide)) (by decide)) (by decide)) (by decide)) (by decide)) (by decide)) (by decide), ?_⟩, fun a ha => ?_, fun a ha => ?_, fun a ha => ?_⟩
  · by_cases c : a = k
    · subst c
      refine ⟨?_, ?_, ?_⟩
      · rw [w4_rd (Or.inl (by decide)), w4_rd (Or.inl (by decide))]; exact e5
      · unfold w4; simp only [up_rd, Nat.reduceEqDiff, false_and, and_self, if_true, if_false, reduceIte]
      · unfold w4; simp only [up_rd, Nat.reduceEqDiff, false_and, and_self, if_true, if_false, reduceIte]
    · rw [w4_rd (Or.inr c)] at hs
      rw [w4_rd (Or.inr c), w4_rd (Or.inr c), w4_rd (Or.inr c), w4_rd (Or.inr c), w4_rd (Or.inr c), w4_rd (Or.inr c)]
      exact r2 a ha hs
  · by_cases c : a = k
    · rw [c]; exact hi
    · exact iF_ne c (iF_ne c (iF_ne c (iF_ne c (r3 a ha))))
  · rw [w4_rd (Or.inl (by decide))]; exact r6
  · rw [w4_rd (Or.inl (by decide)), w4_rd (Or.inl (by decide))]; exact h3 a ha
  · rw [w4_rd (Or.inl (by decide)), w4_rd (Or.inl (by decide))]; exact h4 a ha
  · rw [w4_rd (Or.inl (by decide))]; exact h5 a ha
theorem SD_grow (hC : CD C) (hk : k < E.2.1) {j : Nat} {t : Int32} (ht : 0 ≤ t.toInt ∧ t.toInt ≤ 40) (hV : V 66 0 = t) (h : SD C E V T D j M N) : SD C E V T D j (growM k (M 1 k) (M 8 k) t M) (if isw (N 4 k) 2 4 = 0 then N else growR k N) := by
  have hi := h.1.2.2.1 k hk
  unfold growM
  rw [← d_4 (k := k) hC h.1]
  by_cases c : isw (M 4 k) 2 4 = 0
  · rw [if_pos c, if_pos c]; exact h
  · rw [if_neg c, if_neg c]
    rw [isw_ti] at c
    obtain ⟨l0, l1, l2, l3, l4, l5, l20, -⟩ := lit_ti
    have hst : M 4 k = 2 ∨ M 4 k = 3 ∨ M 4 k = 4 := by simp only [ti_eq, l2, l3, l4]; omega
    obtain ⟨g1, g2, g3, g4⟩ := id hi
    obtain ⟨⟨k1, k2, k3, k4, k5, k6⟩, g5, g6⟩ := g4 (by omega)
    have g6 := g6 (by omega)
    obtain ⟨e5, e6, e7⟩ := h.1.2.1 k hk (by omega)
    have e66 : N 66 0 = t := (h.1.2.2.2.2.1.2 66 (by omega) 0).trans hV
    have eh : hurtC M k (M 1 k) (M 8 k) = hurtR N k ∧ 0 ≤ (hurtC M k (M 1 k) (M 8 k)).toInt ∧ (hurtC M k (M 1 k) (M 8 k)).toInt ≤ 10 := by
      unfold hurtC hurtR
      rw [← d_8 hC h.1, ← d_1 hC h.1, ← d_4 hC h.1]
      have d20 : (M 8 k / 20).toInt = (M 8 k).toInt / 20 := by rw [ti_div g2.2.2.1 (by rw [l20]; decide), l20]
      have b5 : irow 5 (M 4 k) = deepG (M 4 k - 2) ∧ 0 ≤ (irow 5 (M 4 k)).toInt ∧ (irow 5 (M 4 k)).toInt ≤ 6 := by rcases hst with e | e | e <;> rw [e] <;> decide
      have b4 : irow 4 (M 4 k) = dryG (M 4 k - 2) ∧ 0 ≤ (irow 4 (M 4 k)).toInt ∧ (irow 4 (M 4 k)).toInt ≤ 6 := by rcases hst with e | e | e <;> rw [e] <;> decide
      rw [← b5.1, ← b4.1]
      by_cases c1 : 2 ≤ M 1 k
      · by_cases c2 : M 1 k ≤ 20
        · simp only [c1, c2, if_true]
          rw [Int32.add_zero]
          exact ⟨rfl, by omega, by omega⟩
        · simp only [c1, c2, if_true, if_false]
          rw [ti_add (by omega) (by omega)]
          exact ⟨trivial, by omega, by omega⟩
      · simp only [c1, if_false]
        rw [ti_add (by omega) (by omega)]
        exact ⟨trivial, by omega, by omega⟩
    obtain ⟨eh, hb1, hb2⟩ := eh
    unfold growR
    rw [← eh, ← e7]
    generalize hurtC M k (M 1 k) (M 8 k) = hu at hb1 hb2
    have s6 : (M 6 k + t).toInt = (M 6 k).toInt + t.toInt := ti_add (by omega) (by omega)
    have v7a : (M 7 k - hu).toInt = (M 7 k).toInt - hu.toInt := ti_sub (by omega) (by omega)
    have v7b : 0 ≤ (s_max 0 (M 7 k - hu)).toInt ∧ (s_max 0 (M 7 k - hu)).toInt ≤ 100 := by rw [ti_max, l0]; split <;> omega
    generalize s_max 0 (M 7 k - hu) = v7 at v7b
    have hr := rip_val (st := M 4 k) (ki := M 5 k) (su := M 6 k + t) hst k1 k2 (fun z => by
      have z1 : (M 4 k).toInt = 3 ∨ (M 4 k).toInt = 4 := by rw [ti_eq, ti_eq, l3, l4] at z; exact z
      have := g5 z1
      omega)
    have hrC : ∀ X : yT, ripC (s_up2 (s_up2 M 7 k v7) 6 k (M 6 k + t)) k = ripV (M 4 k) (M 5 k) (M 6 k + t) := by
      intro _
      unfold ripC ripV
      simp only [up_rd, Nat.reduceEqDiff, false_and, and_self, if_true, if_false, reduceIte]
    have hrR : rip2 (s_up2 (s_up2 N 7 k v7) 6 k (M 6 k + t)) k = rip2V (M 5 k) (M 6 k + t) := by
      unfold rip2 rip2V
      simp only [up_rd, Nat.reduceEqDiff, false_and, and_self, if_true, if_false, reduceIte, e5]
    have e6' : s_up2 N 7 k v7 6 k + s_up2 N 7 k v7 66 0 = M 6 k + t := by
      simp only [up_rd, Nat.reduceEqDiff, false_and, if_false, e66, e6]
    have e9 : M 9 k = N 9 k := d_9 hC h.1
    have n1 : (M 9 k - 1).toInt = (M 9 k).toInt - 1 := by rw [ti_sub (by omega) (by omega), l1]
    have iFn : ∀ v9 : Int32, 0 ≤ v9.toInt → v9.toInt ≤ 50 → iF (D k) (w4 k v7 (M 6 k + t) (ripV (M 4 k) (M 5 k) (M 6 k + t)) v9 M) k := by
      intro v9 a1 a2
      unfold iF w4
      simp only [up_rd, Nat.reduceEqDiff, false_and, and_self, if_true, if_false, reduceIte]
      refine ⟨g1, ⟨by omega, by omega, g2.2.2.1, g2.2.2.2.1, a1, a2⟩, g3, fun _ => ⟨⟨k1, k2, by omega, by omega, v7b.1, v7b.2⟩, hr.2.2.2.2, hr.2.2.2.1⟩⟩
    simp only [hrC N, e6', hrR, ← hr.1]
    generalize hv4 : ripV (M 4 k) (M 5 k) (M 6 k + t) = v4 at hr iFn
    have key : ∀ v9 : Int32, 0 ≤ v9.toInt → v9.toInt ≤ 50 → SD C E V T D j (w4 k v7 (M 6 k + t) v4 v9 M) (w4 k v7 (M 6 k + t) v4 v9 N) := fun v9 a1 a2 => SD_w4 h e5 (iFn v9 a1 a2)
    have q4 : ∀ X : yT, s_up2 (s_up2 (s_up2 X 7 k v7) 6 k (M 6 k + t)) 4 k v4 4 k = v4 := fun X => by simp only [up_rd, and_self, if_true]
    have q9 : ∀ X : yT, s_up2 (s_up2 (s_up2 X 7 k v7) 6 k (M 6 k + t)) 4 k v4 9 k = X 9 k := fun X => by simp only [up_rd, Nat.reduceEqDiff, false_and, if_false]
    have qs : ∀ X : yT, s_up2 (s_up2 (s_up2 X 7 k v7) 6 k (M 6 k + t)) 4 k v4 = w4 k v7 (M 6 k + t) v4 (X 9 k) X := by
      intro X
      have := up_self (s_up2 (s_up2 (s_up2 X 7 k v7) 6 k (M 6 k + t)) 4 k v4) 9 k
      rw [q9] at this
      exact this.symm
    simp only [q4, q9]
    by_cases c5 : v4.toInt = 5
    · rw [if_pos (isw_ti.mpr (by omega)), if_pos (show (5 : Int32) ≤ v4 by rw [ti_le, l5]; omega), qs, qs, ← e9]
      exact key _ g2.2.2.2.2.1 g2.2.2.2.2.2
    · rw [if_neg (fun z => isw_ti.mp z (by omega)), if_neg (show ¬ (5 : Int32) ≤ v4 by rw [ti_le, l5]; omega)]
      by_cases c9 : M 9 k ≤ 0
      · have h9 : M 9 k = 0 := by rw [ti_eq, l0]; rw [ti_le, l0] at c9; omega
        rw [if_pos c9, qs, h9, ← e9, h9]
        exact key 0 (by decide) (by decide)
      · have h9 : s_max 0 (N 9 k - 1) = M 9 k - 1 := by
          rw [← e9, ti_eq, ti_max, l0, n1]
          rw [ti_le, l0] at c9
          split <;> omega
        rw [if_neg c9, h9]
        rw [ti_le, l0] at c9
        exact key (M 9 k - 1) (by omega) (by omega)
theorem dry3_rd {c j : Nat} (h : c ≠ 2 ∧ c ≠ 3) : dry3 k M c j = M c j := by
  unfold dry3
  have e : ∀ v, s_up2 M 3 k v c j = M c j := fun v => by rw [up_rd, if_neg (by omega)]
  generalize (if M 1 k = 0 then M 3 k + 1 else 0) = v
  show (if s_up2 M 3 k v 3 k ≤ 0 then s_up2 M 3 k v else _) c j = M c j
  split
  · exact e v
  · split
    · rw [up_rd, if_neg (by omega)]; exact e v
    · exact e v
theorem SD_stand (hC : CD C) (hW : EW E V) (hF : F.2.1 = E.2.1) (hk : k < E.2.1) {d : Int} (hd : d < 1000000) {r t : Int32} (ht : 0 ≤ t.toInt ∧ t.toInt ≤ 40) (hr : V 67 0 = r) (hV : V 66 0 = t) (h : SD C E V T (fun a => if a < k then d + 1 else d) k M N) : SD C E V T (fun a => if a < k + 1 then d + 1 else d) (k + 1) (standM E r t k M) (standR F k N) := by
  have h1 := SD_pW hC hW hF hk hr h
  unfold standR stR2 standM
  have q4 : pR2 k (sendR F k (spl (N 67 0) (N 22 k) N k + sepR N k / 2) (pR1 k N)) 4 k = sendR F k (spl (N 67 0) (N 22 k) N k + sepR N k / 2) (pR1 k N) 4 k := by
    unfold pR2
    simp only [up_rd, Nat.reduceEqDiff, false_and, if_false]
  rw [← q4]
  generalize pR2 k (sendR F k (spl (N 67 0) (N 22 k) N k + sepR N k / 2) (pR1 k N)) = N1 at h1 ⊢
  generalize pW E k r (M 22 k) (s_up2 M 22 k 0) = M1 at h1 ⊢
  have h2 := SD_dry (k := k) (d := d) hC (by simp) hd hk h1
  have q5 : dry3 k N1 4 k = N1 4 k := dry3_rd (by decide)
  rw [← q5]
  have eD : (fun a => if a = k then d + 1 else if a < k then d + 1 else d) = (fun a : Nat => if a < k + 1 then d + 1 else d) := by
    funext a
    by_cases c : a = k
    · subst c; simp
    · by_cases c2 : a < k
      · rw [if_neg c, if_pos c2, if_pos (by omega)]
      · rw [if_neg c, if_neg c2, if_neg (by omega)]
  rw [eD] at h2
  have h3 := SD_grow (k := k) hC hk ht hV h2
  exact SD_pest hC hk h3
/-! flight -/
def FL (C : Nat → Prop) (E : eT) (V : yT) (T : Int) (D : Nat → Int) (P : Nat → Int32) (b : Nat → Int) (u : Int) (M N : yT) : Prop :=
  dRel C E V T D M N ∧ (∀ k : Nat, k < E.2.1 → M 11 k = N 11 k) ∧ (∀ k : Nat, k < E.2.1 → M 22 k = 0) ∧ (∀ k : Nat, k < E.2.1 → M 23 k = N 23 k ∧ b k ≤ (M 23 k).toInt ∧ (M 23 k).toInt ≤ u) ∧ (∀ k : Nat, M 8 k = P k)
theorem FL_mv (hC : CD C) {P : Nat → Int32} {b : Nat → Int} {u : Int} {o : Option Nat} {g : Int32} (hk : k < E.2.1) (ho : ∀ j, o = some j → j < E.2.1 ∧ j ≠ k) (hg : 0 ≤ g.toInt ∧ g.toInt ≤ 19) (hb : ∀ k, -10000 ≤ b k) (hu : u ≤ 10000) (h : FL C E V T D P b u M N) : FL C E V T D P (fun a => if a = k then b k - g.toInt else b a) (u + 20) (mvR k g o M) (mvR k g o N) := by
  obtain ⟨h1, h2, h3, h4, h5⟩ := h
  cases o with
  | none =>
    simp only [mvR]
    refine ⟨h1, h2, h3, fun a ha => ⟨(h4 a ha).1, ?_, ?_⟩, h5⟩
    · have := (h4 a ha).2.1
      by_cases c : a = k
      · subst c; simp only [if_true]; omega
      · simp only [c, if_false]; exact this
    · have := (h4 a ha).2.2; omega
  | some j =>
    obtain ⟨j1, j2⟩ := ho j rfl
    have a1 := h4 k hk
    have a2 := h4 j j1
    have b1 := hb k
    have b2 := hb j
    have s1 : (M 23 k - g).toInt = (M 23 k).toInt - g.toInt := ti_sub (by omega) (by omega)
    have s2 : (M 23 j + g).toInt = (M 23 j).toInt + g.toInt := ti_add (by omega) (by omega)
    unfold mvR
    have e : ∀ X : yT, s_up2 X 23 k (X 23 k - g) 23 j = X 23 j := fun X => by rw [up_rd, if_neg (fun z => j2 z.2)]
    simp only [e]
    refine ⟨dRel_up (dRel_up h1 (fun z => absurd z hC.2.2.2.2.2.2.2.1) (by decide) (by decide) (by decide) (by decide) (by decide)) (fun z => absurd z hC.2.2.2.2.2.2.2.1) (by decide) (by decide) (by decide) (by decide) (by decide), fun a ha => ?_, fun a ha => ?_, fun a ha => ?_, fun a => ?_⟩
    · simp only [up_rd, Nat.reduceEqDiff, false_and, if_false]; exact h2 a ha
    · simp only [up_rd, Nat.reduceEqDiff, false_and, if_false]; exact h3 a ha
    · simp only [up_rd, true_and]
      have a3 := h4 a ha
      by_cases c1 : a = j
      · subst c1
        simp only [j2, if_true, if_false]
        exact ⟨by rw [a2.1], by omega, by omega⟩
      · by_cases c2 : a = k
        · subst c2
          simp only [c1, if_true, if_false]
          exact ⟨by rw [a1.1], by omega, by omega⟩
        · simp only [c1, c2, if_false]
          exact ⟨a3.1, a3.2.1, by omega⟩
    · simp only [up_rd, Nat.reduceEqDiff, false_and, if_false]; exact h5 a
theorem mv_0 {o : Option Nat} {X : yT} : mvR k 0 o X = X := by
  cases o with
  | none => rfl
  | some j =>
    unfold mvR
    have e1 : X 23 k - 0 = X 23 k := Int32.sub_zero _
    simp only [e1, up_self, Int32.add_zero]
theorem fly_mv {o : Option Nat} {X : yT} : flyM k o X = mvR k (X 8 k / 5) o X := by cases o <;> rfl
theorem dn_lt {X : yT} : ∀ (a j : Nat), dnF X a = some j → j < a := by
  intro a
  induction a with
  | zero => intro j h; cases h
  | succ a ih =>
    intro j h
    simp only [dnF] at h
    split at h
    · have := ih j h; omega
    · cases h; omega
theorem up_lt {X : yT} : ∀ (d a j : Nat), upF X a d = some j → a ≤ j ∧ j < a + d := by
  intro d
  induction d with
  | zero => intro a j h; cases h
  | succ d ih =>
    intro a j h
    simp only [upF] at h
    split at h
    · have := ih (a + 1) j h; omega
    · cases h; omega
theorem mv_stk {o : Option Nat} {g : Int32} {X : yT} {j : Nat} : stkI (mvR k g o X) j = stkI X j := by
  unfold stkI mvR
  cases o with
  | none => rfl
  | some a => simp only [up_rd, Nat.reduceEqDiff, false_and, if_false]
theorem mv_8 {o : Option Nat} {g : Int32} {X : yT} {j : Nat} : mvR k g o X 8 j = X 8 j := by
  unfold mvR
  cases o with
  | none => rfl
  | some a => simp only [up_rd, Nat.reduceEqDiff, false_and, if_false]
def bP (P : Nat → Int32) (j : Nat) : Nat → Int := fun a => if a < j then -(2 * ((P a).toInt / 5)) else 0
theorem FL_fly (hC : CD C) (hW : EW E V) (hF : F.2.1 = E.2.1) {P : Nat → Int32} (hP : ∀ k, k < E.2.1 → 0 ≤ (P k).toInt ∧ (P k).toInt ≤ 99) (hk : k < E.2.1) (h : FL C E V T D P (bP P k) (40 * (k : Int)) M N) : FL C E V T D P (bP P (k + 1)) (40 * ((k + 1 : Nat) : Int)) (flyS E k M) (flS F k N) := by
  have h12 := hW.2.1
  have l20 : (20 : Int32).toInt = 20 := rfl
  have l5 : (5 : Int32).toInt = 5 := rfl
  have e8 : N 8 k = M 8 k := (d_8 hC h.1).symm
  have hp := hP k hk
  have hpk := h.2.2.2.2 k
  have es : ∀ j, stkI N j = stkI M j := fun j => by unfold stkI; rw [d_4 hC h.1]
  have hmono : ∀ b : Nat → Int, (∀ a, bP P (k + 1) a ≤ b a) → ∀ (u : Int) (X Y : yT), u ≤ 40 * ((k + 1 : Nat) : Int) → FL C E V T D P b u X Y → FL C E V T D P (bP P (k + 1)) (40 * ((k + 1 : Nat) : Int)) X Y := by
    intro b hb u X Y hu hh
    obtain ⟨a1, a2, a3, a4, a5⟩ := hh
    refine ⟨a1, a2, a3, fun a ha => ⟨(a4 a ha).1, ?_, ?_⟩, a5⟩
    · have := (a4 a ha).2.1; have := hb a; omega
    · have := (a4 a ha).2.2; omega
  unfold flyS flS
  rw [e8]
  by_cases c : M 8 k ≤ 20
  · simp only [c, if_true, mv_0]
    refine hmono (bP P k) (fun a => ?_) (40 * (k : Int)) M N (by omega) h
    unfold bP
    by_cases c1 : a < k
    · rw [if_pos c1, if_pos (by omega)]; exact Int.le_refl _
    · by_cases c2 : a = k
      · subst c2; rw [if_pos (by omega), if_neg c1]; omega
      · rw [if_neg c1, if_neg (by omega)]; exact Int.le_refl _
  · simp only [c, if_false]
    have g1 : (M 8 k / 5).toInt = (P k).toInt / 5 := by rw [hpk, ti_div hp.1 (by rw [l5]; decide), l5]
    have hg : 0 ≤ (M 8 k / 5).toInt ∧ (M 8 k / 5).toInt ≤ 19 := by omega
    rw [fly_mv, fly_mv, mv_8]
    rw [upF_congr (M := mvR k (M 8 k / 5) (dnF N k) N) (N := M) (fun j => by rw [mv_stk, es]), dnF_congr (M := N) (N := M) es, hF]
    have hb0 : ∀ a, -10000 ≤ bP P k a := by
      intro a
      unfold bP
      by_cases c1 : a < k
      · have := hP a (by omega); rw [if_pos c1]; omega
      · rw [if_neg c1]; decide
    have f1 := FL_mv (o := dnF M k) (g := M 8 k / 5) hC hk (fun j hj => by have := dn_lt _ _ hj; omega) hg hb0 (by omega) h
    have f2 := FL_mv (o := upF M (k + 1) (E.2.1 - (k + 1))) (g := M 8 k / 5) hC hk (fun j hj => by have := up_lt _ _ _ hj; omega) hg (fun a => by
      have := hb0 a
      have h2 := hb0 k
      unfold bP at h2
      rw [if_neg (Nat.lt_irrefl _)] at h2
      by_cases c1 : a = k
      · subst c1; simp only [if_true]; unfold bP; rw [if_neg (Nat.lt_irrefl _)]; omega
      · simp only [c1, if_false]; exact this) (by omega) f1
    refine hmono _ (fun a => ?_) _ _ _ ?_ f2
    · unfold bP
      by_cases c1 : a = k
      · subst c1
        simp only [if_true, Nat.lt_irrefl, if_false]
        rw [if_pos (by omega)]; omega
      · simp only [c1, if_false]
        by_cases c2 : a < k
        · rw [if_pos c2, if_pos (by omega)]; exact Int.le_refl _
        · rw [if_neg c2, if_neg (by omega)]; exact Int.le_refl _
    · omega
end
