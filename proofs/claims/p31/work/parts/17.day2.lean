/-! ===== a day, on the system's side: weir, shares, pests ===== -/
theorem drop_get {l : List Nat} {j : Nat} (h : j < l.length) : l.drop j = l.getD j 0 :: l.drop (j + 1) := by
  rw [List.drop_eq_getElem_cons h]
  unfold List.getD
  rw [List.getElem?_eq_getElem h]
  rfl
theorem mem_len (E : eT) (i : Nat) : (ce_mem E i).length ≤ E.2.1 := by
  have h := List.length_filter_le (fun k => E.2.2 k == i) (List.range E.2.1)
  rw [List.length_range] at h
  exact h
def zeroL : List Nat → yT → yT
  | [], M => M
  | k :: l, M => zeroL l (s_up2 M 11 k 0)
def parL (M : yT) : List Nat → Int32 → Int32
  | [], s => s
  | k :: l, s => parL M l (s + if tkI M k = 0 then 0 else M 13 k + M 15 k)
def givS (i : Nat) (th pa : Int32) (k : Nat) (M : yT) : yT := if tkI M k = 0 then M else s_up2 (s_up2 M 11 k (th * (M 13 k + M 15 k) / pa)) 37 i (M 37 i - th * (M 13 k + M 15 k) / pa)
def givL (i : Nat) (th pa : Int32) : List Nat → yT → yT
  | [], M => M
  | k :: l, M => givL i th pa l (givS i th pa k M)
def nxtL (M : yT) (t : Int32) : List Nat → Option Nat → Option Nat
  | [], r => r
  | k :: l, r => if tkI M k = 0 then nxtL M t l r else if nI k ≤ t then nxtL M t l (some (r.getD k)) else some k
section
variable {E : eT} {Z : zT} {w k i : Nat} {x y t r td : Int32}
theorem l_giv (hF : E.2.1 ≤ 12) (hp : ¬ y = 0) {Q : zT → Prop} : ∀ (d j : Nat) (M : yT), j + d = (ce_mem E i).length → v_X5_giveByNotch_b80 E w Q (d + 1) i x y (nI j) (zs Z w M) = Q (zs Z w (givL i x y ((ce_mem E i).drop j) M)) := by
  have hl := mem_len E i
  intro d
  induction d with
  | zero =>
    intro j M h
    have hj : j = (ce_mem E i).length := h
    subst hj
    unfold v_X5_giveByNotch_b80
    simp [givL, nI_lei]
  | succ d ih =>
    intro j M h
    unfold v_X5_giveByNotch_b80
    have h1 : j < 2147483648 := by omega
    have h2 : (ce_mem E i).length < 2147483648 := by omega
    have h3 : ¬ (ce_mem E i).length ≤ j := by omega
    have h4 : j < (ce_mem E i).length := by omega
    simp only [forall_eq, nI_lei h2 h1, h3, h4, false_implies, true_and, nI_vp h1, nI_cl h1, not_false_eq_true, forall_const, ← nI_succ, e_takes, e_part, u3_zs, zs_zs, zs_rd, v_X5_giveByNotch_b142, ih (j + 1) _ (by omega), hp, drop_get h4, givL, givS]
    generalize (ce_mem E i).getD j 0 = k
    by_cases h5 : tkI M k = 0
    · simp [h5]
    · simp [h5, up_rd, hp]
theorem l_par (hF : E.2.1 ≤ 12) {Q : zT → Prop} : ∀ (d j : Nat) (s : Int32) (M : yT), j + d = (ce_mem E i).length →
    ((0 < parL M ((ce_mem E i).drop j) s → Q (zs Z w (givL i x (parL M ((ce_mem E i).drop j) s) (ce_mem E i) (s_up2 M 37 i x)))) ∧ (¬ 0 < parL M ((ce_mem E i).drop j) s → Q (zs Z w (s_up2 M 72 0 (M 72 0 + x))))) → v_X5_giveByNotch_b5 E w Q (d + 1) i x s (nI j) (zs Z w M) := by
  have hl := mem_len E i
  intro d
  induction d with
  | zero =>
    intro j s M h
    have hj : j = (ce_mem E i).length := h
    subst hj
    unfold v_X5_giveByNotch_b5
    simp only [forall_eq, nI_lei (show (ce_mem E i).length < 2147483648 by omega) (show (ce_mem E i).length < 2147483648 by omega), Nat.le_refl, forall_const, not_true_eq_false, false_implies, and_true, List.drop_length, parL, u3_zs, zs_zs, zs_rd]
    intro hq
    refine ⟨fun c => ⟨(ce_mem E i).length + 1, ?_⟩, hq.2⟩
    have hc : ¬ s = 0 := fun z => by rw [z] at c; exact absurd c (by decide)
    rw [nI_z, l_giv hF hc _ 0 _ (by omega)]
    exact hq.1 c
  | succ d ih =>
    intro j s M h hq
    unfold v_X5_giveByNotch_b5
    have h1 : j < 2147483648 := by omega
    have h2 : (ce_mem E i).length < 2147483648 := by omega
    have h3 : ¬ (ce_mem E i).length ≤ j := by omega
    have h4 : j < (ce_mem E i).length := by omega
    simp only [drop_get h4, parL] at hq
    simp only [forall_eq, nI_lei h2 h1, h3, h4, false_implies, true_and, nI_vp h1, nI_cl h1, not_false_eq_true, forall_const, ← nI_succ, e_takes, e_part, u3_zs, zs_zs, zs_rd, v_X5_giveByNotch_b49]
    generalize (ce_mem E i).getD j 0 = k at hq ⊢
    by_cases h5 : tkI M k = 0
    · simp only [h5, if_true] at hq
      exact ⟨fun _ => ih (j + 1) _ _ (by omega) hq, fun c => absurd h5 c⟩
    · simp only [h5, if_false] at hq
      exact ⟨fun c => absurd c h5, fun _ => ih (j + 1) _ _ (by omega) hq⟩
def shareN (E : eT) (i : Nat) (th : Int32) (M : yT) : yT := if 0 < parL M (ce_mem E i) 0 then givL i th (parL M (ce_mem E i) 0) (ce_mem E i) (s_up2 M 37 i th) else s_up2 M 72 0 (M 72 0 + th)
theorem s_giveN (hF : E.2.1 ≤ 12) {Q : zT → Prop} {M : yT} (h : Q (zs Z w (shareN E i x M))) : v_X5_giveByNotch E w i x (zs Z w M) Q := by
  unfold v_X5_giveByNotch v_X5_giveByNotch_b0
  refine ⟨(ce_mem E i).length + 1, ?_⟩
  have := l_par (Z := Z) (w := w) (i := i) (x := x) (Q := Q) hF (ce_mem E i).length 0 0 M (by omega)
  rw [← nI_z] at this
  unfold shareN at h
  refine this ?_
  simp only [List.drop_zero]
  exact ⟨fun c => by rw [if_pos c] at h; exact h, fun c => by rw [if_neg c] at h; exact h⟩
theorem l_nxt (hF : E.2.1 ≤ 12) {Q : Option Nat → zT → Prop} : ∀ (d j : Nat) (r : Option Nat), j + d = (ce_mem E i).length → Q (nxtL (Z w) (Z w 39 i) ((ce_mem E i).drop j) r) Z → v_X5_nextInTurn_b4 E w Q (d + 1) i r (nI j) Z := by
  have hl := mem_len E i
  intro d
  induction d with
  | zero =>
    intro j r h
    have hj : j = (ce_mem E i).length := h
    subst hj
    unfold v_X5_nextInTurn_b4
    simp [nxtL, nI_lei]
  | succ d ih =>
    intro j r h hq
    unfold v_X5_nextInTurn_b4
    have h1 : j < 2147483648 := by omega
    have h2 : (ce_mem E i).length < 2147483648 := by omega
    have h3 : ¬ (ce_mem E i).length ≤ j := by omega
    have h4 : j < (ce_mem E i).length := by omega
    simp only [drop_get h4, nxtL] at hq
    simp only [forall_eq, nI_lei h2 h1, h3, h4, false_implies, true_and, nI_vp h1, nI_cl h1, not_false_eq_true, forall_const, ← nI_succ, e_takes, v_X5_nextInTurn_b56]
    generalize (ce_mem E i).getD j 0 = k at hq ⊢
    by_cases h5 : tkI (Z w) k = 0
    · simp only [h5, if_true] at hq
      exact ⟨fun c => absurd h5 c, fun _ => ih (j + 1) _ (by omega) hq⟩
    · simp only [h5, if_false] at hq
      refine ⟨fun _ => ⟨fun c => ?_, fun c => ?_⟩, fun c => absurd c h5⟩
      · rw [if_pos c] at hq
        refine ⟨fun e => ?_, fun a e => ?_⟩
        · subst e; exact ih (j + 1) _ (by omega) hq
        · subst e; exact ih (j + 1) _ (by omega) hq
      · rw [if_neg c] at hq; exact hq
def nxC (E : eT) (M : yT) (i : Nat) : Option Nat := nxtL M (M 39 i) (ce_mem E i) none
theorem s_next (hF : E.2.1 ≤ 12) {Q : Option Nat → zT → Prop} (h : Q (nxC E (Z w) i) Z) : v_X5_nextInTurn E w i Z Q := by
  unfold v_X5_nextInTurn v_X5_nextInTurn_b0
  refine ⟨(ce_mem E i).length + 1, ?_⟩
  rw [nI_z]
  exact l_nxt hF _ 0 none (by omega) h
def shareT (E : eT) (i : Nat) (th : Int32) (M : yT) : yT := match nxC E M i with
  | none => s_up2 M 72 0 (M 72 0 + th)
  | some k => s_up2 (s_up2 M 11 k th) 39 i (nI k)
theorem s_giveT (hF : E.2.1 ≤ 12) {Q : zT → Prop} {M : yT} (h : Q (zs Z w (shareT E i x M))) : v_X5_nextInTurn E w i (zs Z w M) (fun r Z1 => v_X5_giveInTurn E w i r x Z1 Q) := by
  refine s_next hF ?_
  unfold v_X5_giveInTurn v_X5_giveInTurn_b0
  simp only [forall_eq, u3_zs, zs_zs, zs_rd]
  unfold shareT at h
  refine ⟨fun c => ?_, fun a c => ?_⟩
  · rw [c] at h; exact h
  · rw [c] at h; exact h
def sunkF (M : yT) (i : Nat) : Int32 := M 41 i * M 33 i / 100
def thF (M : yT) (i : Nat) : Int32 := M 41 i - sunkF M i + M 37 i
def shareB (E : eT) (td : Int32) (i : Nat) (M : yT) : yT :=
  (fun N : yT => if M 35 i ≤ fmod (td - M 34 i) 210 then s_up2 N 72 0 (N 72 0 + thF M i) else if M 38 i = 0 then shareN E i (thF M i) N else shareT E i (thF M i) N) (s_up2 (s_up2 M 70 0 (M 70 0 + sunkF M i)) 37 i 0)
theorem l_share (hF : E.2.1 ≤ 12) {Q : zT → Prop} : ∀ (d j : Nat) (M : yT), j + d = (ce_mem E i).length → Q (zs Z w (shareB E td i (zeroL ((ce_mem E i).drop j) M))) → v_X5_shareOut_b2 E w Q (d + 1) i td (nI j) (zs Z w M) := by
  have hl := mem_len E i
  intro d
  induction d with
  | zero =>
    intro j M h hq
    have hj : j = (ce_mem E i).length := h
    subst hj
    unfold v_X5_shareOut_b2
    simp only [forall_eq, nI_lei (show (ce_mem E i).length < 2147483648 by omega) (show (ce_mem E i).length < 2147483648 by omega), Nat.le_refl, forall_const, not_true_eq_false, false_implies, and_true, u3_zs, zs_zs, zs_rd, e_openOn, up_rd, Nat.reduceEqDiff, false_and, if_false, reduceIte, v_X5_shareOut_b125, and_self, if_true]
    simp only [List.drop_length, zeroL, shareB, thF, sunkF] at hq
    by_cases h1 : M 35 i ≤ fmod (td - M 34 i) 210
    · simp only [h1, if_true] at hq ⊢
      exact ⟨fun c => absurd trivial c, fun _ => hq⟩
    · simp only [h1, if_false] at hq ⊢
      refine ⟨fun _ => ⟨fun c => ?_, fun c => ?_⟩, fun c => absurd c (by decide)⟩
      · simp only [c, if_true] at hq; exact s_giveN hF hq
      · simp only [c, if_false] at hq; exact s_giveT hF hq
  | succ d ih =>
    intro j M h hq
    unfold v_X5_shareOut_b2
    have h1 : j < 2147483648 := by omega
    have h2 : (ce_mem E i).length < 2147483648 := by omega
    have h3 : ¬ (ce_mem E i).length ≤ j := by omega
    have h4 : j < (ce_mem E i).length := by omega
    simp only [drop_get h4, zeroL] at hq
    simp only [forall_eq, nI_lei h2 h1, h3, h4, false_implies, true_and, nI_vp h1, nI_cl h1, not_false_eq_true, forall_const, ← nI_succ, u3_zs, zs_zs, zs_rd]
    exact ih (j + 1) _ (by omega) hq
def shareF (E : eT) (td : Int32) (i : Nat) (M : yT) : yT := shareB E td i (zeroL (ce_mem E i) M)
theorem s_share (hF : E.2.1 ≤ 12) {Q : zT → Prop} {M : yT} (h : Q (zs Z w (shareF E td i M))) : v_X5_shareOut E w i td (zs Z w M) Q := by
  unfold v_X5_shareOut v_X5_shareOut_b0
  refine ⟨(ce_mem E i).length + 1, ?_⟩
  rw [nI_z]
  exact l_share hF _ 0 M (by omega) h
/-! the weir -/
def weirS (th nn : Int32) (i : Nat) (M : yT) : yT := s_up2 (s_up2 M 41 i (th * M 32 i / nn)) 68 0 (M 68 0 - th * M 32 i / nn)
def notF (M : yT) (i : Nat) (s : Int32) : Int32 := s + M 32 i
theorem l_weir (hS : E.1 ≤ 3) (hp : ¬ y = 0) {Q : zT → Prop} : ∀ (d j : Nat) (M : yT), j + d = E.1 → v_X2_splitAtWeir_b61 E w Q (d + 1) x y (nI j) (zs Z w M) = Q (zs Z w (itd (weirS x y) j d M)) := by
  intro d
  induction d with
  | zero =>
    intro j M h
    have hj : j = E.1 := h
    subst hj
    unfold v_X2_splitAtWeir_b61
    simp [itd, nI_lei]
  | succ d ih =>
    intro j M h
    unfold v_X2_splitAtWeir_b61
    have h1 : j < 2147483648 := by omega
    have h2 : E.1 < 2147483648 := by omega
    have h3 : ¬ E.1 ≤ j := by omega
    have h4 : j < E.1 := by omega
    simp only [forall_eq, nI_lei h2 h1, h3, h4, false_implies, true_and, nI_vp h1, nI_cl h1, not_false_eq_true, forall_const, ← nI_succ, u3_zs, zs_zs, zs_rd, hp, ih (j + 1) _ (by omega), up_rd, Nat.reduceEqDiff, false_and, if_false, reduceIte, and_self, if_true]
    rfl
def splitM (E : eT) (fl : Int32) (M : yT) : yT :=
  if 0 < itd (notF M) 0 E.1 0 then itd (weirS (fl + M 68 0) (itd (notF M) 0 E.1 0)) 0 E.1 (s_up2 M 68 0 (fl + M 68 0)) else s_up2 M 68 0 (fl + M 68 0)
theorem l_not (hS : E.1 ≤ 3) {Q : zT → Prop} : ∀ (d j : Nat) (s : Int32) (M : yT), j + d = E.1 → Q (zs Z w (if 0 < itd (notF M) j d s then itd (weirS x (itd (notF M) j d s)) 0 E.1 (s_up2 M 68 0 x) else s_up2 M 68 0 x)) → v_X2_splitAtWeir_b12 E w Q (d + 1) x s (nI j) (zs Z w M) := by
  intro d
  induction d with
  | zero =>
    intro j s M h hq
    have hj : j = E.1 := h
    subst hj
    unfold v_X2_splitAtWeir_b12
    rw [itd_0] at hq
    simp only [forall_eq, nI_lei (show E.1 < 2147483648 by omega) (show E.1 < 2147483648 by omega), Nat.le_refl, forall_const, not_true_eq_false, false_implies, and_true, u3_zs, zs_zs, zs_rd]
    refine ⟨fun c => ⟨E.1 + 1, ?_⟩, fun c => ?_⟩
    · have hc : ¬ s = 0 := fun z => by rw [z] at c; exact absurd c (by decide)
      rw [if_pos c] at hq
      rw [nI_z, l_weir hS hc _ 0 _ (by omega)]
      exact hq
    · rw [if_neg c] at hq; exact hq
  | succ d ih =>
    intro j s M h hq
    unfold v_X2_splitAtWeir_b12
    have h1 : j < 2147483648 := by omega
    have h2 : E.1 < 2147483648 := by omega
    have h3 : ¬ E.1 ≤ j := by omega
    have h4 : j < E.1 := by omega
    simp only [forall_eq, nI_lei h2 h1, h3, h4, false_implies, true_and, nI_vp h1, nI_cl h1, not_false_eq_true, forall_const, ← nI_succ, zs_rd]
    exact ih (j + 1) _ _ (by omega) hq
theorem s_split (hS : E.1 ≤ 3) {Q : zT → Prop} {M : yT} (h : Q (zs Z w (splitM E x M))) : v_X2_splitAtWeir E w x (zs Z w M) Q := by
  unfold v_X2_splitAtWeir v_X2_splitAtWeir_b0
  simp only [forall_eq, zs_rd]
  refine ⟨E.1 + 1, ?_⟩
  have := l_not (Z := Z) (w := w) (x := x + M 68 0) (Q := Q) hS E.1 0 0 M (by omega) h
  rw [nI_z]
  exact this
/-! pests -/
def stkI (M : yT) (k : Nat) : Int32 := isw (M 4 k) 2 4
def dnF (M : yT) : Nat → Option Nat
  | 0 => none
  | j + 1 => if stkI M j = 0 then dnF M j else some j
def upF (M : yT) : Nat → Nat → Option Nat
  | _, 0 => none
  | j, d + 1 => if stkI M j = 0 then upF M (j + 1) d else some j
theorem l_dn (hF : E.2.1 ≤ 12) {Q : Option Nat → zT → Prop} : ∀ (a l n : Nat), a + l < E.2.1 → a + 2 ≤ n → Q (dnF (Z w) (a + 1)) Z → v_X2_nearestOnTheStalk_b7 E w Q n (-1) (nI a) (nI l) Z := by
  intro a
  induction a with
  | zero =>
    intro l n h hn hq
    obtain ⟨n, rfl⟩ : ∃ m, n = m + 2 := ⟨n - 2, by omega⟩
    unfold v_X2_nearestOnTheStalk_b7
    have h1 : l < 2147483648 := by omega
    have h2 : E.2.1 < 2147483648 := by omega
    have h3 : ¬ E.2.1 ≤ l := by omega
    have h4 : 0 < E.2.1 := by omega
    have h0 : (0 : Nat) < 2147483648 := by omega
    simp only [dnF] at hq
    simp only [forall_eq, nI_lei h2 h1, h3, h4, false_implies, true_and, nI_vp h0, nI_neg h0, nI_lti h0 h2, nI_cl h0, not_false_eq_true, forall_const, ← nI_succ, e_stk, not_true_eq_false, and_true]
    unfold stkI at hq
    refine ⟨fun c => ?_, fun c => ?_⟩
    · rw [if_pos c] at hq
      unfold v_X2_nearestOnTheStalk_b7
      simp only [forall_eq, v_X2_nearestOnTheStalk_b34]
      exact ⟨fun _ => hq, fun _ => ⟨fun _ => hq, fun z => absurd (show nI 0 + -1 < 0 by decide) z⟩⟩
    · rw [if_neg c] at hq; exact hq
  | succ a ih =>
    intro l n h hn hq
    obtain ⟨n, rfl⟩ : ∃ m, n = m + 1 := ⟨n - 1, by omega⟩
    unfold v_X2_nearestOnTheStalk_b7
    have h1 : l < 2147483648 := by omega
    have h2 : E.2.1 < 2147483648 := by omega
    have h3 : ¬ E.2.1 ≤ l := by omega
    have h4 : a + 1 < E.2.1 := by omega
    have h0 : a + 1 < 2147483648 := by omega
    unfold dnF at hq
    simp only [forall_eq, nI_lei h2 h1, h3, h4, false_implies, true_and, nI_vp h0, nI_neg h0, nI_lti h0 h2, nI_cl h0, not_false_eq_true, forall_const, e_stk, not_true_eq_false, and_true]
    unfold stkI at hq
    refine ⟨fun c => ?_, fun c => ?_⟩
    · rw [if_pos c] at hq
      have e1 : nI (a + 1) + -1 = nI a := by rw [← nI_pred a, Int32.sub_eq_add_neg]
      have e2 : nI l + 1 = nI (l + 1) := (nI_succ l).symm
      rw [e1, e2]
      exact ih (l + 1) n (by omega) (by omega) hq
    · rw [if_neg c] at hq; exact hq
theorem l_up (hF : E.2.1 ≤ 12) {Q : Option Nat → zT → Prop} : ∀ (d a l n : Nat), a + d = E.2.1 → l ≤ a → d + 1 ≤ n → Q (upF (Z w) a d) Z → v_X2_nearestOnTheStalk_b7 E w Q n 1 (nI a) (nI l) Z := by
  intro d
  induction d with
  | zero =>
    intro a l n h hl hn hq
    obtain ⟨n, rfl⟩ : ∃ m, n = m + 1 := ⟨n - 1, by omega⟩
    unfold v_X2_nearestOnTheStalk_b7
    have hj : a = E.2.1 := h
    subst hj
    have h2 : E.2.1 < 2147483648 := by omega
    simp only [forall_eq, nI_neg h2, nI_lti h2 h2, Nat.lt_irrefl, false_implies, true_and, not_false_eq_true, forall_const, v_X2_nearestOnTheStalk_b34]
    exact ⟨fun _ => hq, fun _ => hq⟩
  | succ d ih =>
    intro a l n h hl hn hq
    obtain ⟨n, rfl⟩ : ∃ m, n = m + 1 := ⟨n - 1, by omega⟩
    unfold v_X2_nearestOnTheStalk_b7
    have h1 : l < 2147483648 := by omega
    have h2 : E.2.1 < 2147483648 := by omega
    have h3 : ¬ E.2.1 ≤ l := by omega
    have h4 : a < E.2.1 := by omega
    have h0 : a < 2147483648 := by omega
    unfold upF at hq
    simp only [forall_eq, nI_lei h2 h1, h3, h4, false_implies, true_and, nI_vp h0, nI_neg h0, nI_lti h0 h2, nI_cl h0, not_false_eq_true, forall_const, e_stk, not_true_eq_false, and_true, ← nI_succ]
    unfold stkI at hq
    refine ⟨fun c => ?_, fun c => ?_⟩
    · rw [if_pos c] at hq
      exact ih (a + 1) (l + 1) n (by omega) (by omega) (by omega) hq
    · rw [if_neg c] at hq; exact hq
theorem s_near1 (hF : E.2.1 ≤ 12) (hk : k < E.2.1) {Q : Option Nat → zT → Prop} (h : Q (dnF (Z w) k) Z) : v_X2_nearestOnTheStalk E w (nI k) (-1) Z Q := by
  unfold v_X2_nearestOnTheStalk v_X2_nearestOnTheStalk_b0
  simp only [forall_eq]
  cases k with
  | zero =>
    refine ⟨1, ?_⟩
    unfold v_X2_nearestOnTheStalk_b7
    simp only [forall_eq, v_X2_nearestOnTheStalk_b34]
    exact ⟨fun _ => h, fun _ => ⟨fun _ => h, fun z => absurd (show nI 0 + -1 < 0 by decide) z⟩⟩
  | succ a =>
    refine ⟨a + 2, ?_⟩
    have e1 : nI (a + 1) + -1 = nI a := by rw [← nI_pred a, Int32.sub_eq_add_neg]
    rw [e1, nI_z]
    exact l_dn hF a 0 _ (by omega) (by omega) h
theorem s_near2 (hF : E.2.1 ≤ 12) (hk : k < E.2.1) {Q : Option Nat → zT → Prop} (h : Q (upF (Z w) (k + 1) (E.2.1 - (k + 1))) Z) : v_X2_nearestOnTheStalk E w (nI k) 1 Z Q := by
  unfold v_X2_nearestOnTheStalk v_X2_nearestOnTheStalk_b0
  simp only [forall_eq]
  refine ⟨E.2.1 - (k + 1) + 1, ?_⟩
  rw [← nI_succ, nI_z]
  exact l_up hF _ (k + 1) 0 _ (by omega) (by omega) (by omega) h
def flyM (k : Nat) (g : Option Nat) (M : yT) : yT := match g with
  | none => M
  | some j => (fun N : yT => s_up2 N 23 j (N 23 j + M 8 k / 5)) (s_up2 M 23 k (M 23 k - M 8 k / 5))
theorem e_flyFrom {g : Option Nat} {Q : zT → Prop} {M : yT} : v_X2_flyFrom E w k g (zs Z w M) Q = Q (zs Z w (flyM k g M)) := by
  simp only [v_X2_flyFrom, v_X2_flyFrom_b0, forall_eq, u3_zs, zs_zs, zs_rd]
  cases g <;> simp [flyM]
theorem fly_rd {M : yT} {g : Option Nat} {c j : Nat} (h : c ≠ 23) : flyM k g M c j = M c j := by
  cases g with
  | none => rfl
  | some a => exact (if_neg (fun z => h z.1)).trans (if_neg (fun z => h z.1))
theorem fly_stk {M : yT} {g : Option Nat} {j : Nat} : stkI (flyM k g M) j = stkI M j := by
  unfold stkI; rw [fly_rd (by decide)]
theorem upF_congr {M N : yT} (h : ∀ j, stkI M j = stkI N j) : ∀ d j, upF M j d = upF N j d := by
  intro d
  induction d with
  | zero => intro j; rfl
  | succ d ih => intro j; unfold upF; rw [h, ih]
theorem dnF_congr {M N : yT} (h : ∀ j, stkI M j = stkI N j) : ∀ j, dnF M j = dnF N j := by
  intro j
  induction j with
  | zero => rfl
  | succ d ih => unfold dnF; rw [h, ih]
def flyS (E : eT) (k : Nat) (M : yT) : yT := if M 8 k ≤ 20 then M else flyM k (upF M (k + 1) (E.2.1 - (k + 1))) (flyM k (dnF M k) M)
def setS (k : Nat) (M : yT) : yT := s_up2 (s_up2 M 8 k (s_min 99 (M 8 k + M 23 k))) 23 k 0
theorem l_set (hF : E.2.1 ≤ 12) {Q : zT → Prop} : ∀ (d j : Nat) (M : yT), j + d = E.2.1 → v_X2_flyPests_b64 E w Q (d + 1) (nI j) (zs Z w M) = Q (zs Z w (itd setS j d M)) := by
  intro d
  induction d with
  | zero =>
    intro j M h
    have hj : j = E.2.1 := h
    subst hj
    unfold v_X2_flyPests_b64
    simp [itd, nI_lei]
  | succ d ih =>
    intro j M h
    unfold v_X2_flyPests_b64
    have h1 : j < 2147483648 := by omega
    have h2 : E.2.1 < 2147483648 := by omega
    have h3 : ¬ E.2.1 ≤ j := by omega
    have h4 : j < E.2.1 := by omega
    simp only [forall_eq, nI_lei h2 h1, h3, h4, false_implies, true_and, nI_vp h1, nI_cl h1, not_false_eq_true, forall_const, ← nI_succ, e_settle, u3_zs, zs_zs, zs_rd, ih (j + 1) _ (by omega)]
    rfl
def flyF (E : eT) (M : yT) : yT := itd setS 0 E.2.1 (itd (flyS E) 0 E.2.1 M)
theorem l_fly (hF : E.2.1 ≤ 12) {Q : zT → Prop} : ∀ (d j : Nat) (M : yT), j + d = E.2.1 → Q (zs Z w (itd setS 0 E.2.1 (itd (flyS E) j d M))) → v_X2_flyPests_b2 E w Q (d + 1) (nI j) (zs Z w M) := by
  intro d
  induction d with
  | zero =>
    intro j M h hq
    have hj : j = E.2.1 := h
    subst hj
    unfold v_X2_flyPests_b2
    simp only [forall_eq, nI_lei (show E.2.1 < 2147483648 by omega) (show E.2.1 < 2147483648 by omega), Nat.le_refl, forall_const, not_true_eq_false, false_implies, and_true]
    refine ⟨E.2.1 + 1, ?_⟩
    rw [nI_z, l_set hF _ 0 _ (by omega)]
    exact hq
  | succ d ih =>
    intro j M h hq
    unfold v_X2_flyPests_b2
    have h1 : j < 2147483648 := by omega
    have h2 : E.2.1 < 2147483648 := by omega
    have h3 : ¬ E.2.1 ≤ j := by omega
    have h4 : j < E.2.1 := by omega
    rw [itd_s] at hq
    simp only [forall_eq, nI_lei h2 h1, h3, h4, false_implies, true_and, nI_vp h1, nI_cl h1, not_false_eq_true, forall_const, ← nI_succ, zs_rd, v_X2_flyPests_b56]
    refine ⟨fun c => ?_, fun c => ?_⟩
    · refine ih (j + 1) _ (by omega) ?_
      unfold flyS at hq
      rw [if_pos c] at hq
      exact hq
    · refine s_near1 hF h4 ?_
      rw [e_flyFrom]
      refine s_near2 hF h4 ?_
      rw [e_flyFrom]
      refine ih (j + 1) _ (by omega) ?_
      simp only [zs_rd]
      unfold flyS at hq
      rw [if_neg c] at hq
      rw [upF_congr (N := M) (fun _ => fly_stk)]
      exact hq
theorem s_fly (hF : E.2.1 ≤ 12) {Q : zT → Prop} {M : yT} (h : Q (zs Z w (flyF E M))) : v_X2_flyPests E w (zs Z w M) Q := by
  unfold v_X2_flyPests v_X2_flyPests_b0
  refine ⟨E.2.1 + 1, ?_⟩
  rw [nI_z]
  exact l_fly hF _ 0 M (by omega) h
def headM (E : eT) (fl wa ra : Int32) (M : yT) : yT := s_up2 (s_up2 (s_up2 (s_up2 (s_up2 M 64 0 (M 64 0 + 1)) 65 0 fl) 66 0 wa) 67 0 ra) 69 0 (M 69 0 + (fl + ra * nI E.2.1))
def passF (E : eT) (fl wa ra : Int32) (M : yT) : yT :=
  (fun N : yT => flyF E (itd (standM E ra wa) 0 E.2.1 (itd (shareF E (fmod (N 64 0) 210)) 0 E.1 N))) (splitM E fl (headM E fl wa ra M))
theorem l_soc (hS : E.1 ≤ 3) (hF : E.2.1 ≤ 12) {Q : zT → Prop} : ∀ (d j : Nat) (M : yT), j + d = E.1 → Q (zs Z w (flyF E (itd (standM E r t) 0 E.2.1 (itd (shareF E td) j d M)))) → v_X2_passDay_b62 E w Q (d + 1) t r td (nI j) (zs Z w M) := by
  intro d
  induction d with
  | zero =>
    intro j M h hq
    have hj : j = E.1 := h
    subst hj
    unfold v_X2_passDay_b62
    simp only [forall_eq, nI_lei (show E.1 < 2147483648 by omega) (show E.1 < 2147483648 by omega), Nat.le_refl, forall_const, not_true_eq_false, false_implies, and_true]
    refine ⟨E.2.1 + 1, ?_⟩
    rw [nI_z, l_stand hF _ 0 _ (by omega)]
    exact s_fly hF hq
  | succ d ih =>
    intro j M h hq
    unfold v_X2_passDay_b62
    have h1 : j < 2147483648 := by omega
    have h2 : E.1 < 2147483648 := by omega
    have h3 : ¬ E.1 ≤ j := by omega
    have h4 : j < E.1 := by omega
    rw [itd_s] at hq
    simp only [forall_eq, nI_lei h2 h1, h3, h4, false_implies, true_and, nI_vp h1, nI_cl h1, not_false_eq_true, forall_const, ← nI_succ]
    exact s_share hF (ih (j + 1) _ (by omega) hq)
theorem s_pass (hS : E.1 ≤ 3) (hF : E.2.1 ≤ 12) {fl wa ra : Int32} {Q : zT → Prop} {M : yT} (h : Q (zs Z w (passF E fl wa ra M))) : v_X2_passDay E w fl wa ra (zs Z w M) Q := by
  unfold v_X2_passDay v_X2_passDay_b0
  simp only [forall_eq, u3_zs, zs_zs, zs_rd, up_rd, Nat.reduceEqDiff, false_and, if_false, reduceIte]
  refine s_split hS ?_
  rw [e_templeDay]
  refine ⟨E.1 + 1, ?_⟩
  rw [nI_z]
  refine l_soc hS hF _ 0 _ (by omega) ?_
  rw [zs_rd]
  exact h
end
