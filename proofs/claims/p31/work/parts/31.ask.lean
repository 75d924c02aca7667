/-! ===== what is asked ===== -/
section
variable {E : eT} {F : fT} {n : Nat} {M M1 N M' N' : yT} {Z : zT} {x1 x2 x3 : Int32} {k i w : Nat}
theorem val14 {x : Int32} (h : 0 ≤ x.toInt ∧ x.toInt ≤ 13) : x = 0 ∨ x = 1 ∨ x = 2 ∨ x = 3 ∨ x = 4 ∨ x = 5 ∨ x = 6 ∨ x = 7 ∨ x = 8 ∨ x = 9 ∨ x = 10 ∨ x = 11 ∨ x = 12 ∨ x = 13 := by
  have l0 : (0 : Int32).toInt = 0 := rfl
  have l1 : (1 : Int32).toInt = 1 := rfl
  have l2 : (2 : Int32).toInt = 2 := rfl
  have l3 : (3 : Int32).toInt = 3 := rfl
  have l4 : (4 : Int32).toInt = 4 := rfl
  have l5 : (5 : Int32).toInt = 5 := rfl
  have l6 : (6 : Int32).toInt = 6 := rfl
  have l7 : (7 : Int32).toInt = 7 := rfl
  have l8 : (8 : Int32).toInt = 8 := rfl
  have l9 : (9 : Int32).toInt = 9 := rfl
  have l10 : (10 : Int32).toInt = 10 := rfl
  have l11 : (11 : Int32).toInt = 11 := rfl
  have l12 : (12 : Int32).toInt = 12 := rfl
  have l13 : (13 : Int32).toInt = 13 := rfl
  simp only [ti_eq, l0, l1, l2, l3, l4, l5, l6, l7, l8, l9, l10, l11, l12, l13]
  omega
def fldC (E : eT) (M : yT) (k : Nat) (x : Int32) : Int32 := if x = 0 then nI (E.2.2 k) else if x = 10 then ryC M k else if x = 11 then M 10 k else if x = 12 then M 11 k else if x = 13 then (if M 12 k = 0 then 0 else 1) else M (Int32.toNatClampNeg x) k
def fldR (M : yT) (k : Nat) (x : Int32) : Int32 := if x = 5 then (if 2 ≤ M 4 k then M 5 k else -1) else if x = 6 then (if 2 ≤ M 4 k then M 6 k else 0) else if x = 7 then (if 2 ≤ M 4 k then M 7 k else 0) else if x = 10 then yR M k else if x = 11 then M 10 k else if x = 12 then M 11 k else if x = 13 then M 12 k else M (Int32.toNatClampNeg x) k
theorem c_ofField (hF : E.2.1 ≤ 12) (hv : vp_in x1 E.2.1) (hx : 0 ≤ x2.toInt ∧ x2.toInt ≤ 13) {Q : Int32 → zT → Prop} : v_X6_ofField E x1 x2 Z Q = Q (fldC E (Z 0) (Int32.toNatClampNeg x1) x2) Z := by
  simp only [v_X6_ofField, v_X6_ofField_b0, c_fieldAt hF hv, forall_eq, e_ripeYield, e_oneIf, fldC]
  rcases val14 hx with e | e | e | e | e | e | e | e | e | e | e | e | e | e <;> subst e <;> simp [q_lit1, q_lit2, q_lit3, q_lit4, q_lit5, q_lit6, q_lit7, q_lit8, q_lit9]
theorem fld_eq (h : LI E n Z N) (hk : k < E.2.1) (hx : 0 ≤ x2.toInt ∧ x2.toInt ≤ 13) : fldC E (Z 0) k x2 = fldR N k x2 := by
  have e4 : ∀ a, Z 0 4 a = N 4 a := fun a => LI_ch h (by unfold Ch; decide)
  have l2 : (2 : Int32).toInt = 2 := rfl
  have ch : ∀ c, Ch c → Z 0 c k = N c k := fun c hc => LI_ch h hc
  have hlo := h.2.2.2.2.2.2.2.2.1 k hk
  have h5 := h.2.1 k hk
  have hst := (h.2.2.1 k hk).2.1
  have hop := (h.2.2.1 k hk).2.2.1.1
  unfold fldC fldR
  rcases val14 hx with e | e | e | e | e | e | e | e | e | e | e | e | e | e <;> subst e
  · rw [if_pos rfl]; exact (LI_of h hk).symm
  · exact ch 1 (by unfold Ch; decide)
  · exact ch 2 (by unfold Ch; decide)
  · exact ch 3 (by unfold Ch; decide)
  · exact ch 4 (by unfold Ch; decide)
  · show Z 0 5 k = if 2 ≤ N 4 k then N 5 k else -1
    rw [← e4]
    by_cases c : 2 ≤ Z 0 4 k
    · rw [if_pos c]; rw [ti_le, l2] at c; exact (h5 c).1
    · rw [if_neg c]; rw [ti_le, l2] at c; exact (hlo (by omega)).1
  · show Z 0 6 k = if 2 ≤ N 4 k then N 6 k else 0
    rw [← e4]
    by_cases c : 2 ≤ Z 0 4 k
    · rw [if_pos c]; rw [ti_le, l2] at c; exact (h5 c).2.1
    · rw [if_neg c]; rw [ti_le, l2] at c; exact (hlo (by omega)).2.1
  · show Z 0 7 k = if 2 ≤ N 4 k then N 7 k else 0
    rw [← e4]
    by_cases c : 2 ≤ Z 0 4 k
    · rw [if_pos c]; rw [ti_le, l2] at c; exact (h5 c).2.2
    · rw [if_neg c]; rw [ti_le, l2] at c; exact (hlo (by omega)).2.2
  · exact ch 8 (by unfold Ch; decide)
  · exact ch 9 (by unfold Ch; decide)
  · exact (LI_yl h hk).1
  · exact ch 10 (by unfold Ch; decide)
  · exact h.2.2.2.2.2.2.1 k hk
  · show (if Z 0 12 k = 0 then 0 else 1) = N 12 k
    rw [← ch 12 (by unfold Ch; decide)]
    rcases hop with e | e <;> rw [e] <;> rfl
theorem isw_r {a b : Int32} (h : ¬ isw x1 a b = 0) : isw x1 a b = 1 := isw_01.resolve_left h
def thoC (M : yT) (k : Nat) (x : Int32) : Int32 := if x = 0 then M 20 k else M 21 k
theorem c_thought (hF : E.2.1 ≤ 12) (hv : vp_in x1 E.2.1) {Q : Int32 → zT → Prop} : v_X6_thought E x1 x2 Z Q = Q (thoC (Z 0) (Int32.toNatClampNeg x1) x2) Z := by
  simp only [v_X6_thought, v_X6_thought_b0, v_X6_thought_b24, c_fieldAt hF hv, forall_eq, thoC]
  exact br_eq (P := fun a => Q a Z)
/-! whom one suspects -/
def susA (M : yT) (k : Nat) (p : Int32 × Int32) : Int32 × Int32 := if M 11 k ≤ 0 then p else (p.1 + M 11 k, p.2 + M 13 k)
def susB (M : yT) (a b : Int32) (k : Nat) (p : Option Nat × Int32) : Option Nat × Int32 := if M 11 k - a * M 13 k / b ≤ p.2 then p else (some k, M 11 k - a * M 13 k / b)
theorem l_susB (hF : E.2.1 ≤ 12) (hb : ¬ x2 = 0) {Q : Option Nat → zT → Prop} : ∀ (d j : Nat) (p : Option Nat × Int32), j + d = (ce_mem E i).length → Q (((ce_mem E i).drop j).foldl (fun p k => susB (Z w) x1 x2 k p) p).1 Z → v_X5_mostAboveNotch_b74 E w Q (d + 1) i x1 x2 p.1 p.2 (nI j) Z := by
  have hl := mem_len E i
  intro d
  induction d with
  | zero =>
    intro j p h hq
    have hj : j = (ce_mem E i).length := h
    subst hj
    unfold v_X5_mostAboveNotch_b74
    simp only [List.drop_length, List.foldl_nil] at hq
    simp only [forall_eq, nI_lei (show (ce_mem E i).length < 2147483648 by omega) (show (ce_mem E i).length < 2147483648 by omega), Nat.le_refl, forall_const, not_true_eq_false, false_implies, and_true]
    exact hq
  | succ d ih =>
    intro j p h hq
    unfold v_X5_mostAboveNotch_b74
    have h1 : j < 2147483648 := by omega
    have h2 : (ce_mem E i).length < 2147483648 := by omega
    have h3 : ¬ (ce_mem E i).length ≤ j := by omega
    have h4 : j < (ce_mem E i).length := by omega
    rw [drop_get h4, List.foldl_cons] at hq
    have hq := ih (j + 1) _ (by omega) hq
    unfold susB at hq
    simp only [forall_eq, nI_lei h2 h1, h3, h4, hb, false_implies, true_and, nI_vp h1, nI_cl h1, not_false_eq_true, forall_const, ← nI_succ, v_X5_mostAboveNotch_b131]
    refine ⟨fun c => ?_, fun c => ?_⟩
    · rw [if_pos c] at hq; exact hq
    · rw [if_neg c] at hq; exact hq
def susP (E : eT) (M : yT) (i : Nat) : Int32 × Int32 := (ce_mem E i).foldl (fun p k => susA M k p) (0, 0)
def susC (E : eT) (M : yT) (i : Nat) : Option Nat := if 0 < (susP E M i).2 then ((ce_mem E i).foldl (fun p k => susB M (susP E M i).1 (susP E M i).2 k p) (none, 0)).1 else none
theorem l_susA (hF : E.2.1 ≤ 12) {Q : Option Nat → zT → Prop} (hq : Q (susC E (Z w) i) Z) : ∀ (d j : Nat) (p : Int32 × Int32), j + d = (ce_mem E i).length → ((ce_mem E i).drop j).foldl (fun p k => susA (Z w) k p) p = susP E (Z w) i → v_X5_mostAboveNotch_b6 E w Q (d + 1) i p.1 p.2 (nI j) Z := by
  have hl := mem_len E i
  intro d
  induction d with
  | zero =>
    intro j p h hp
    have hj : j = (ce_mem E i).length := h
    subst hj
    unfold v_X5_mostAboveNotch_b6
    simp only [List.drop_length, List.foldl_nil] at hp
    subst hp
    unfold susC at hq
    simp only [forall_eq, nI_lei (show (ce_mem E i).length < 2147483648 by omega) (show (ce_mem E i).length < 2147483648 by omega), Nat.le_refl, forall_const, not_true_eq_false, false_implies, and_true]
    refine ⟨fun c => ⟨(ce_mem E i).length + 1, ?_⟩, fun c => ?_⟩
    · rw [if_pos c] at hq
      have hne : ¬ (susP E (Z w) i).2 = 0 := fun z => by rw [z] at c; exact absurd c (by decide)
      have := l_susB (Z := Z) (w := w) (i := i) (x1 := (susP E (Z w) i).1) (x2 := (susP E (Z w) i).2) (Q := Q) hF hne (ce_mem E i).length 0 (none, 0) (by omega) hq
      rw [← nI_z] at this
      exact this
    · rw [if_neg c] at hq; exact hq
  | succ d ih =>
    intro j p h hp
    unfold v_X5_mostAboveNotch_b6
    have h1 : j < 2147483648 := by omega
    have h2 : (ce_mem E i).length < 2147483648 := by omega
    have h3 : ¬ (ce_mem E i).length ≤ j := by omega
    have h4 : j < (ce_mem E i).length := by omega
    rw [drop_get h4, List.foldl_cons] at hp
    have hq2 := ih (j + 1) _ (by omega) hp
    unfold susA at hq2
    simp only [forall_eq, nI_lei h2 h1, h3, h4, false_implies, true_and, nI_vp h1, nI_cl h1, not_false_eq_true, forall_const, ← nI_succ, v_X5_mostAboveNotch_b54]
    refine ⟨fun c => ?_, fun c => ?_⟩
    · rw [if_pos c] at hq2; exact hq2
    · rw [if_neg c] at hq2; exact hq2
theorem e_num {r : Option Nat} {Q : Int32 → zT → Prop} : v_X6_numberOf E r Z Q = Q (onI r) Z := by
  simp only [v_X6_numberOf, v_X6_numberOf_b0, v_X6_numberOf_b12, forall_eq]
  cases r <;> simp [onI]
theorem c_suspect (hS : E.1 ≤ 3) (hF : E.2.1 ≤ 12) (hv : vp_in x1 E.1) {Q : Int32 → zT → Prop} (h : Q (onI (susC E (Z 0) (Int32.toNatClampNeg x1))) Z) : v_X6_suspect E x1 Z Q := by
  simp only [v_X6_suspect, v_X6_suspect_b0, c_societyAt hS hv, v_X5_mostAboveNotch, v_X5_mostAboveNotch_b0, e_num]
  refine ⟨(ce_mem E (Int32.toNatClampNeg x1)).length + 1, ?_⟩
  have := l_susA (Z := Z) (w := 0) (i := Int32.toNatClampNeg x1) (Q := fun r Z => Q (onI r) Z) hF h (ce_mem E (Int32.toNatClampNeg x1)).length 0 (0, 0) (by omega) (by rw [List.drop_zero]; rfl)
  rw [← nI_z] at this
  exact this
def srA (M : yT) (x : Int32) (k : Nat) (p : Int32 × Int32) : Int32 × Int32 := if M 0 k = x then (if M 11 k = 0 then p else (p.1 + M 11 k, p.2 + M 13 k)) else p
def srB (M : yT) (x a b : Int32) (k : Nat) (p : Int32 × Int32) : Int32 × Int32 := if M 0 k = x then (if M 11 k = 0 then p else if p.2 < M 11 k - a * M 13 k / b then (nI k, M 11 k - a * M 13 k / b) else p) else p
def srP (F : fT) (M : yT) (x : Int32) : Int32 × Int32 := itd (srA M x) 0 F.2.1 (0, 0)
def susR (F : fT) (M : yT) (x : Int32) : Int32 := (itd (srB M x (srP F M x).1 (srP F M x).2) 0 F.2.1 (-1, 0)).1
/-- the same suspect; and what is divided by is not 0 where it divides -/
theorem sus_eq (h : LI E n Z N) (hn : n ≤ 1000) (hF : F.2.1 = E.2.1) (hi : i < E.1) : onI (susC E (Z 0) i) = susR F N (nI i) ∧ ((∃ k, k < F.2.1 ∧ N 0 k = nI i ∧ ¬ N 11 k = 0) → ¬ (srP F N (nI i)).2 = 0) := by
  have hW := LJ_EW h
  have h12 := hW.2.1
  have h3 := hW.1
  have l0 : (0 : Int32).toInt = 0 := rfl
  have hWB := h.2.2.2.2.2.2.2.2.2.2.1
  obtain ⟨-, -, wg, wsum, -⟩ := hWB
  have wsum := wsum i hi
  obtain ⟨b1, b2, b3⟩ := sq_b hn
  have ep : gotP E (Z 0) i E.2.1 = gotI E (Z 0) i := rfl
  have hg : ∀ k, k < E.2.1 → N 11 k = Z 0 11 k := fun k hk => (h.2.2.2.2.2.2.1 k hk).symm
  have hnt : ∀ k, N 13 k = Z 0 13 k := fun k => (LI_ch h (by unfold Ch; decide)).symm
  have hof : ∀ k, k < E.2.1 → (N 0 k = nI i ↔ E.2.2 k = i) := fun k hk => by
    have hb := hW.2.2.1 k hk
    rw [LI_of h hk]
    exact nI_inj3 (by omega) (by omega)
  -- the sums
  have hA : susP E (Z 0) i = srP F N (nI i) ∧ 0 ≤ (susP E (Z 0) i).1.toInt ∧ (susP E (Z 0) i).1.toInt ≤ 100 * (n : Int) * ((n : Int) + 1) ∧ 0 ≤ (susP E (Z 0) i).2.toInt ∧ (susP E (Z 0) i).2.toInt ≤ 108 ∧ ((∃ k, k < E.2.1 ∧ E.2.2 k = i ∧ ¬ Z 0 11 k = 0) → 1 ≤ (susP E (Z 0) i).2.toInt) := by
    unfold susP srP
    have h2 := mem_foldl E i (fun k (p : Int32 × Int32) => susA (Z 0) k p) (0, 0)
    rw [h2, hF]
    have hmono : ∀ j, j ≤ E.2.1 → gotP E (Z 0) i j ≤ gotP E (Z 0) i E.2.1 := by
      intro j hj
      have : ∀ d, j + d ≤ E.2.1 → gotP E (Z 0) i j ≤ gotP E (Z 0) i (j + d) := by
        intro d
        induction d with
        | zero => intro _; exact Int.le_refl _
        | succ d ih =>
          intro hd
          have h1 := ih (by omega)
          have h2 := wg (j + d) (by omega)
          rw [show j + (d + 1) = j + d + 1 by omega, gotP_s]
          split <;> omega
      have := this (E.2.1 - j) (by omega)
      rw [show j + (E.2.1 - j) = E.2.1 by omega] at this
      exact this
    have := itd_rel (f := fun k (p : Int32 × Int32) => if E.2.2 k = i then susA (Z 0) k p else p) (g := srA N (nI i)) (R := fun j (a b : Int32 × Int32) => a = b ∧ a.1.toInt = gotP E (Z 0) i j ∧ 0 ≤ gotP E (Z 0) i j ∧ 0 ≤ a.2.toInt ∧ a.2.toInt ≤ 9 * (j : Int) ∧ ((∃ k, k < j ∧ E.2.2 k = i ∧ ¬ Z 0 11 k = 0) → 1 ≤ a.2.toInt)) E.2.1 0 (0, 0) (0, 0)
      (fun k a b _ hk hr => by
        have hk : k < E.2.1 := by omega
        obtain ⟨e, r1, r2, r3, r4, r5⟩ := hr
        subst e
        have g1 := wg k hk
        have g2 := hmono (k + 1) (by omega)
        rw [gotP_s] at g2
        have hnb := (h.2.2.1 k hk).2.2.1
        unfold srA susA
        rw [gotP_s, hg k hk, hnt k]
        by_cases c : E.2.2 k = i
        · rw [if_pos c] at g2
          rw [if_pos c, if_pos c, if_pos ((hof k hk).mpr c)]
          by_cases c2 : Z 0 11 k = 0
          · have c2' : Z 0 11 k ≤ 0 := by rw [c2]; decide
            rw [if_pos c2', if_pos c2, c2, l0]
            refine ⟨rfl, by omega, by omega, r3, by omega, fun z => r5 ?_⟩
            obtain ⟨j, z1, z2, z3⟩ := z
            refine ⟨j, ?_, z2, z3⟩
            have : j ≠ k := fun y => z3 (y ▸ c2)
            omega
          · have c2' : ¬ Z 0 11 k ≤ 0 := by rw [ti_le, l0]; rw [ti_eq, l0] at c2; omega
            rw [if_neg c2', if_neg c2]
            have s1 : (a.1 + Z 0 11 k).toInt = a.1.toInt + (Z 0 11 k).toInt := ti_add (by omega) (by omega)
            have s2 : (a.2 + Z 0 13 k).toInt = a.2.toInt + (Z 0 13 k).toInt := ti_add (by omega) (by omega)
            exact ⟨rfl, by rw [s1]; omega, by omega, by rw [s2]; omega, by rw [s2]; omega, fun _ => by rw [s2]; omega⟩
        · rw [if_neg c, if_neg c, if_neg (fun z => c ((hof k hk).mp z))]
          refine ⟨rfl, r1, r2, r3, by omega, fun z => r5 ?_⟩
          obtain ⟨j, z1, z2, z3⟩ := z
          refine ⟨j, ?_, z2, z3⟩
          have : j ≠ k := fun y => c (y ▸ z2)
          omega)
      ⟨rfl, rfl, Int.le_refl _, Int.le_refl _, Int.le_refl _, fun z => by obtain ⟨j, z1, _⟩ := z; omega⟩
    simp only [Nat.zero_add] at this
    obtain ⟨t1, t2, t3, t4, t5, t6⟩ := this
    refine ⟨t1, by omega, ?_, t4, by omega, t6⟩
    rw [t2]; exact wsum
  obtain ⟨a1, a2, a3, a4, a5, a6⟩ := hA
  refine ⟨?_, fun z => ?_⟩
  · unfold susC susR
    rw [← a1, hF]
    generalize susP E (Z 0) i = p at a2 a3 a4 a5 a6
    by_cases c : 0 < p.2
    · have hp2 : 1 ≤ p.2.toInt := by rw [ti_lt, l0] at c; omega
      rw [if_pos c]
      have h2 := mem_foldl E i (fun k (q : Option Nat × Int32) => susB (Z 0) p.1 p.2 k q) (none, 0)
      rw [h2]
      have := itd_rel (f := fun k (q : Option Nat × Int32) => if E.2.2 k = i then susB (Z 0) p.1 p.2 k q else q) (g := srB N (nI i) p.1 p.2) (R := fun _ (a : Option Nat × Int32) (b : Int32 × Int32) => onI a.1 = b.1 ∧ a.2 = b.2 ∧ 0 ≤ a.2.toInt) E.2.1 0 (none, 0) (-1, 0)
        (fun k a b _ hk hr => by
          have hk : k < E.2.1 := by omega
          obtain ⟨r1, r2, r3⟩ := hr
          have hnb := (h.2.2.1 k hk).2.2.1
          have g1 := wg k hk
          have q0 : 0 ≤ p.1.toInt * (Z 0 13 k).toInt := Int.mul_nonneg a2 (by omega)
          have q1 : p.1.toInt * (Z 0 13 k).toInt ≤ p.1.toInt * 9 := Int.mul_le_mul_of_nonneg_left (by omega) a2
          have s1 : (p.1 * Z 0 13 k).toInt = p.1.toInt * (Z 0 13 k).toInt := ti_mul (by omega) (by omega)
          have s2 : (p.1 * Z 0 13 k / p.2).toInt = p.1.toInt * (Z 0 13 k).toInt / p.2.toInt := by rw [ti_div (by rw [s1]; exact q0) (by omega), s1]
          have q2 : 0 ≤ p.1.toInt * (Z 0 13 k).toInt / p.2.toInt := Int.ediv_nonneg q0 (by omega)
          unfold srB susB
          rw [hg k hk, hnt k, ← r2]
          generalize hv : p.1 * Z 0 13 k / p.2 = v at s2
          have s3 : (Z 0 11 k - v).toInt = (Z 0 11 k).toInt - v.toInt := by
            have := ti_r v
            have := ti_r (Z 0 11 k)
            exact ti_sub (by omega) (by omega)
          by_cases c1 : E.2.2 k = i
          · rw [if_pos c1, if_pos ((hof k hk).mpr c1)]
            by_cases c2 : Z 0 11 k = 0
            · have l : Z 0 11 k - v ≤ a.2 := by
                have : (Z 0 11 k).toInt = 0 := by rw [c2]; rfl
                rw [ti_le]; omega
              rw [if_pos l, if_pos c2]; exact ⟨r1, r2, r3⟩
            · rw [if_neg c2]
              by_cases c3 : Z 0 11 k - v ≤ a.2
              · rw [if_pos c3, if_neg (by rw [ti_lt]; rw [ti_le] at c3; omega)]; exact ⟨r1, r2, r3⟩
              · rw [if_neg c3, if_pos (by rw [ti_lt]; rw [ti_le] at c3; omega)]
                rw [ti_le] at c3
                exact ⟨rfl, rfl, by show 0 ≤ (Z 0 11 k - v).toInt; omega⟩
          · rw [if_neg c1, if_neg (fun z => c1 ((hof k hk).mp z))]; exact ⟨r1, r2, r3⟩)
        ⟨rfl, rfl, Int.le_refl _⟩
      exact this.1
    · rw [if_neg c]
      rw [ti_lt, l0] at c
      have hz : ∀ k, k < E.2.1 → E.2.2 k = i → Z 0 11 k = 0 := fun k hk hk2 => Decidable.byContradiction (fun z => by have := a6 ⟨k, hk, hk2, z⟩; omega)
      have := itd_inv (f := srB N (nI i) p.1 p.2) (R := fun _ (b : Int32 × Int32) => b = (-1, 0)) E.2.1 0 (-1, 0) (fun k b _ hk e => by
        have hk : k < E.2.1 := by omega
        unfold srB
        by_cases c1 : E.2.2 k = i
        · rw [if_pos ((hof k hk).mpr c1), hg k hk, if_pos (hz k hk c1)]; exact e
        · rw [if_neg (fun z => c1 ((hof k hk).mp z))]; exact e) rfl
      rw [this]; rfl
  · obtain ⟨k, z1, z2, z3⟩ := z
    rw [hF] at z1
    have := a6 ⟨k, z1, (hof k z1).mp z2, by rw [← hg k z1]; exact z3⟩
    rw [← a1]
    intro y
    rw [y, l0] at this
    omega
end
