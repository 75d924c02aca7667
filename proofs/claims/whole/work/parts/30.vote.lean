section
variable {E : eT} {F : fT} {n : Nat} {M M1 N M' N' : yT} {Z : zT} {x1 x2 x3 : Int32} {k i w : Nat}
/-! votes: the system's side -/
def socN (E : eT) (x : Int32) : Option Nat := if 0 ≤ x.toInt ∧ x.toInt < E.1 then some (Int32.toNatClampNeg x) else none
theorem c_soc (hS : E.1 ≤ 3) {Q : Option Nat → zT → Prop} : v_X2_societyOrNull E w x1 Z Q = Q (socN E x1) Z := by
  have h0 : (0 : Int32).toInt = 0 := rfl
  simp only [v_X2_societyOrNull, v_X2_societyOrNull_b0, v_X2_societyOrNull_b29, v_X2_societyOrNull_b30, forall_eq, socN, vp_iff, ti_lt, ti_le, h0, ti_nI (show E.1 < 2147483648 by omega)]
  by_cases c1 : x1.toInt < 0
  · simp only [c1, show ¬ 0 ≤ x1.toInt by omega, false_and, if_false, forall_const, not_true_eq_false, false_implies, and_true]
  · by_cases c2 : (E.1 : Int) ≤ x1.toInt
    · simp only [c1, c2, show ¬ x1.toInt < (E.1 : Int) by omega, and_false, if_false, forall_const, not_true_eq_false, not_false_eq_true, false_implies, true_and, and_true]
    · simp only [c1, c2, show x1.toInt < (E.1 : Int) by omega, show 0 ≤ x1.toInt by omega, and_self, if_true, forall_const, not_false_eq_true, false_implies, true_and]
def mdC (E : eT) (M : yT) (x : Int32) : Option Nat := match socN E (x - 1), socN E (x + 1) with
  | none, r => r
  | some a, none => some a
  | some a, some b => if rateC E M b ≤ rateC E M a then some a else some b
theorem c_model (hS : E.1 ≤ 3) {Q : Option Nat → zT → Prop} : v_X2_modelOf E w x1 Z Q = Q (mdC E (Z w) x1) Z := by
  simp only [v_X2_modelOf, v_X2_modelOf_b0, v_X2_modelOf_b44, forall_eq, c_soc hS, e_cpf, mdC]
  cases socN E (x1 - 1) with
  | none => simp
  | some a =>
    cases socN E (x1 + 1) with
    | none => simp
    | some b =>
      simp only [reduceCtorEq, false_implies, true_and, Option.some.injEq, forall_eq']
      by_cases c : rateC E (Z w) b ≤ rateC E (Z w) a <;> simp [c]
def flC (E : eT) (M : yT) (i : Nat) (r : Option Nat) : Int32 := match r with
  | none => 0
  | some a => if rateC E M a ≤ rateC E M i then 0 else 1
def ysC (M : yT) (f : Int32) (k : Nat) (s : Int32) : Int32 := if f = 0 then (if M 8 k ≤ 30 then s else s + 1) else s + 1
theorem l_yes (hF : E.2.1 ≤ 12) {Q : Int32 → zT → Prop} : ∀ (d j : Nat) (s : Int32), j + d = (ce_mem E i).length → Q (((ce_mem E i).drop j).foldl (fun s k => ysC (Z w) x1 k s) s) Z → v_X5_countYes_b26 E w Q (d + 1) i x1 s (nI j) Z := by
  have hl := mem_len E i
  intro d
  induction d with
  | zero =>
    intro j s h hq
    have hj : j = (ce_mem E i).length := h
    subst hj
    unfold v_X5_countYes_b26
    simp only [List.drop_length, List.foldl_nil] at hq
    simp only [forall_eq, nI_lei (show (ce_mem E i).length < 2147483648 by omega) (show (ce_mem E i).length < 2147483648 by omega), Nat.le_refl, forall_const, not_true_eq_false, false_implies, and_true]
    exact hq
  | succ d ih =>
    intro j s h hq
    unfold v_X5_countYes_b26
    have h1 : j < 2147483648 := by omega
    have h2 : (ce_mem E i).length < 2147483648 := by omega
    have h3 : ¬ (ce_mem E i).length ≤ j := by omega
    have h4 : j < (ce_mem E i).length := by omega
    rw [drop_get h4, List.foldl_cons] at hq
    have hq := ih (j + 1) _ (by omega) hq
    unfold ysC at hq
    simp only [forall_eq, nI_lei h2 h1, h3, h4, false_implies, true_and, nI_vp h1, nI_cl h1, not_false_eq_true, forall_const, ← nI_succ, v_X5_countYes_b62, v_X5_countYes_b65]
    refine ⟨fun c => ?_, fun c => ⟨fun c2 => ?_, fun c2 => ?_⟩⟩
    · rw [if_neg c] at hq; exact hq
    · rw [if_pos c, if_pos c2] at hq; exact hq
    · rw [if_pos c, if_neg c2] at hq; exact hq
def yesC (E : eT) (M : yT) (i : Nat) (r : Option Nat) : Int32 := (ce_mem E i).foldl (fun s k => ysC M (flC E M i r) k s) 0
theorem c_yes (hF : E.2.1 ≤ 12) {r : Option Nat} {Q : Int32 → zT → Prop} (h : Q (yesC E (Z w) i r) Z) : v_X5_countYes E w i r Z Q := by
  have go : ∀ f : Int32, f = flC E (Z w) i r → v_X5_countYes_b20 E w i f Z Q := by
    intro f hf
    refine ⟨(ce_mem E i).length + 1, ?_⟩
    have := l_yes (Z := Z) (w := w) (i := i) (x1 := f) (Q := Q) hF (ce_mem E i).length 0 0 (by omega) (by rw [List.drop_zero, hf]; exact h)
    rw [← nI_z] at this
    exact this
  simp only [v_X5_countYes, v_X5_countYes_b0, v_X5_countYes_b19, e_cpf]
  cases r with
  | none => exact ⟨fun _ => go 0 rfl, fun a z => by cases z⟩
  | some a =>
    refine ⟨fun z => (by cases z), fun b z => ?_⟩
    cases z
    exact ⟨fun c => go 0 (if_pos c).symm, fun c => go 1 (if_neg c).symm⟩
/-! votes: the reference's side -/
def szR (F : fT) (M : yT) (x : Int32) : Int32 := itd (fun k s => s + if M 0 k = x then 1 else 0) 0 F.2.1 0
theorem l_size (hF : F.2.1 ≤ 12) {Q : Int32 → yT → Prop} : ∀ (d j : Nat) (s : Int32), j + d = F.2.1 → Q (itd (fun k s => s + if N 0 k = x1 then 1 else 0) j d s) N → v_X8_size_b17 F Q (d + 1) x1 s (nI F.2.1) (nI j) N := by
  intro d
  induction d with
  | zero =>
    intro j s h hq
    have hj : j = F.2.1 := h
    subst hj
    unfold v_X8_size_b17
    simp only [forall_eq, nI_lei (show F.2.1 < 2147483648 by omega) (show F.2.1 < 2147483648 by omega), Nat.le_refl, forall_const, not_true_eq_false, false_implies, and_true]
    exact hq
  | succ d ih =>
    intro j s h hq
    unfold v_X8_size_b17
    have h1 : j < 2147483648 := by omega
    have h2 : F.2.1 < 2147483648 := by omega
    have h3 : ¬ F.2.1 ≤ j := by omega
    have h4 : j < F.2.1 := by omega
    rw [itd_s] at hq
    have hq := ih (j + 1) _ (by omega) hq
    simp only [forall_eq, nI_lei h2 h1, h3, h4, false_implies, true_and, nI_vp h1, nI_cl h1, not_false_eq_true, forall_const, ← nI_succ, v_X8_size_b44]
    refine ⟨fun c => ?_, fun c => ?_⟩
    · rw [if_neg c] at hq; exact hq
    · rw [if_pos c] at hq; exact hq
theorem r_size (hF : F.2.1 ≤ 12) {Q : Int32 → yT → Prop} (h : Q (szR F N x1) N) : v_X8_size F x1 N Q := by
  simp only [v_X8_size, v_X8_size_b0, forall_eq]
  refine ⟨F.2.1 + 1, ?_⟩
  have := l_size (x1 := x1) (Q := Q) hF F.2.1 0 0 (by omega) h
  rw [← nI_z] at this
  exact this
def rtR (F : fT) (M : yT) (x : Int32) : Int32 := if szR F M x = 0 then 0 else M 40 (Int32.toNatClampNeg x) / szR F M x
theorem r_rate (hF : F.2.1 ≤ 12) (hv : vp_in x1 F.1) {Q : Int32 → yT → Prop} (h : Q (rtR F N x1) N) : v_X8_rate F x1 N Q := by
  unfold v_X8_rate v_X8_rate_b0
  refine r_size hF ?_
  unfold rtR at h
  refine ⟨fun c => ⟨hv, ?_⟩, fun c => ?_⟩
  · simp only [forall_eq]
    refine r_size hF ⟨c, ?_⟩
    rw [if_neg c] at h
    simp only [forall_eq, v_X8_rate_b30]
    exact h
  · rw [if_pos c] at h
    exact h
def m1R (F : fT) (x : Int32) (N : yT) : Int32 := if 0 ≤ (x - 1).toInt ∧ (x - 1).toInt < F.1 then x - 1 else -1
def m2R (F : fT) (x : Int32) (N : yT) : Int32 := if 0 ≤ (x + 1).toInt ∧ (x + 1).toInt < F.1 then (if m1R F x N = -1 then x + 1 else if rtR F N (x + 1) ≤ rtR F N (m1R F x N) then m1R F x N else x + 1) else m1R F x N
theorem r_b25 (hF : F.2.1 ≤ 12) (hS : F.1 ≤ 3) {Q : Int32 → yT → Prop} {m : Nat} {a b : Int32} (hb : ¬ x1 + 1 < b) (ha : a = -1 ∨ vp_in a F.1) (h : v_X8_vote_b25 F Q m x1 (if 0 ≤ b.toInt ∧ b.toInt < F.1 then (if a = -1 then b else if rtR F N b ≤ rtR F N a then a else b) else a) (b + 2) N) : v_X8_vote_b25 F Q (m + 1) x1 a b N := by
  unfold v_X8_vote_b25
  simp only [forall_eq, hb, false_implies, true_and, not_false_eq_true, forall_const, v_X8_vote_b60, v_X8_vote_b58]
  by_cases hv : vp_in b F.1
  · rw [r_isS hS hv]
    rw [if_pos (vp_iff.mp hv)] at h
    refine ⟨fun c => absurd c (by decide), fun _ => ⟨fun c => ?_, fun c => ?_⟩⟩
    · rw [if_pos c] at h; exact h
    · rw [if_neg c] at h
      have hv2 := ha.resolve_left c
      refine r_rate hF hv (r_rate hF hv2 ⟨fun c2 => ?_, fun c2 => ?_⟩)
      · rw [if_pos c2] at h; exact h
      · rw [if_neg c2] at h; exact h
  · rw [r_isS0 hS hv]
    rw [if_neg (fun z => hv (vp_iff.mpr z))] at h
    exact ⟨fun _ => h, fun c => absurd rfl c⟩
theorem r_model (hF : F.2.1 ≤ 12) (hS : F.1 ≤ 3) (hv : vp_in x1 F.1) {Q : Int32 → yT → Prop} (h : ∃ n9 : Nat, v_X8_vote_b85 F Q n9 x1 (m2R F x1 N) (0 : Int32) (nI F.2.1) (0 : Int32) N) : v_X8_vote_b25 F Q 3 x1 (-1) (x1 - 1) N := by
  have hx := vp_iff.mp hv
  have l1 : (1 : Int32).toInt = 1 := rfl
  have l2 : (2 : Int32).toInt = 2 := rfl
  have s1 : (x1 - 1).toInt = x1.toInt - 1 := by rw [ti_sub (by rw [l1]; omega) (by rw [l1]; omega), l1]
  have s2 : (x1 + 1).toInt = x1.toInt + 1 := by rw [ti_add (by rw [l1]; omega) (by rw [l1]; omega), l1]
  have s3 : x1 - 1 + 2 = x1 + 1 := by rw [ti_eq, ti_add (by rw [s1, l2]; omega) (by rw [s1, l2]; omega), s1, s2, l2]; omega
  have s4 : (x1 + 1 + 2).toInt = x1.toInt + 3 := by rw [ti_add (by rw [s2, l2]; omega) (by rw [s2, l2]; omega), s2, l2]; omega
  refine r_b25 hF hS (by rw [ti_lt, s1, s2]; omega) (Or.inl rfl) ?_
  rw [s3]
  have e1 : (if 0 ≤ (x1 - 1).toInt ∧ (x1 - 1).toInt < (F.1 : Int) then (if (-1 : Int32) = -1 then x1 - 1 else if rtR F N (x1 - 1) ≤ rtR F N (-1) then -1 else x1 - 1) else -1) = m1R F x1 N := by
    unfold m1R
    rw [if_pos rfl]
  rw [e1]
  refine r_b25 hF hS (by rw [ti_lt, s2]; omega) ?_ ?_
  · unfold m1R
    by_cases c : 0 ≤ (x1 - 1).toInt ∧ (x1 - 1).toInt < (F.1 : Int)
    · rw [if_pos c]; exact Or.inr (vp_iff.mpr c)
    · rw [if_neg c]; exact Or.inl rfl
  · have e2 : (if 0 ≤ (x1 + 1).toInt ∧ (x1 + 1).toInt < (F.1 : Int) then (if m1R F x1 N = -1 then x1 + 1 else if rtR F N (x1 + 1) ≤ rtR F N (m1R F x1 N) then m1R F x1 N else x1 + 1) else m1R F x1 N) = m2R F x1 N := rfl
    rw [e2]
    unfold v_X8_vote_b25
    simp only [forall_eq]
    refine ⟨fun _ => h, fun c => absurd (show x1 + 1 < x1 + 1 + 2 by rw [ti_lt, s2, s4]; omega) c⟩
def ysR (F : fT) (N : yT) (x m : Int32) (k : Nat) (s : Int32) : Int32 := s + if N 0 k = x then (if 30 < N 8 k then 1 else if m = -1 then 0 else if rtR F N m ≤ rtR F N x then 0 else 1) else 0
def endR (F : fT) (x m s : Int32) (N : yT) : yT := (fun X : yT => s_up2 X 40 (Int32.toNatClampNeg x) 0) (if 2 * s ≤ szR F N x then N else if m = -1 then N else (fun Y : yT => s_up2 Y 35 (Int32.toNatClampNeg x) (N 35 (Int32.toNatClampNeg m))) (s_up2 N 34 (Int32.toNatClampNeg x) (N 34 (Int32.toNatClampNeg m))))
theorem l_yesR (hF : F.2.1 ≤ 12) (hv : vp_in x1 F.1) (hm : x2 = -1 ∨ vp_in x2 F.1) {Q : Int32 → yT → Prop} : ∀ (d j : Nat) (s : Int32), j + d = F.2.1 → (fun s : Int32 => Q s (endR F x1 x2 s N)) (itd (ysR F N x1 x2) j d s) → v_X8_vote_b85 F Q (d + 1) x1 x2 s (nI F.2.1) (nI j) N := by
  intro d
  induction d with
  | zero =>
    intro j s h hq
    have hj : j = F.2.1 := h
    subst hj
    unfold v_X8_vote_b85
    rw [itd_0] at hq
    unfold endR at hq
    simp only [forall_eq, nI_lei (show F.2.1 < 2147483648 by omega) (show F.2.1 < 2147483648 by omega), Nat.le_refl, forall_const, not_true_eq_false, false_implies, and_true]
    refine r_size hF ⟨fun c => ?_, fun c => ⟨fun c2 => ?_, fun c2 => ?_⟩⟩
    · simp only [v_X8_vote_b209, forall_eq, hv, true_and]
      simp only [c, if_true] at hq; exact hq
    · simp only [v_X8_vote_b209, forall_eq, hv, true_and]
      simp only [c, c2, if_true, if_false] at hq; exact hq
    · have hv2 := hm.resolve_left c2
      simp only [v_X8_vote_b209, forall_eq, hv, hv2, true_and, up_rd, Nat.reduceEqDiff, false_and, if_false]
      simp only [c, c2, if_false] at hq; exact hq
  | succ d ih =>
    intro j s h hq
    unfold v_X8_vote_b85
    have h1 : j < 2147483648 := by omega
    have h2 : F.2.1 < 2147483648 := by omega
    have h3 : ¬ F.2.1 ≤ j := by omega
    have h4 : j < F.2.1 := by omega
    rw [itd_s] at hq
    have hq := ih (j + 1) _ (by omega) hq
    unfold ysR at hq
    simp only [forall_eq, nI_lei h2 h1, h3, h4, false_implies, true_and, nI_vp h1, nI_cl h1, not_false_eq_true, forall_const, ← nI_succ, v_X8_vote_b140, v_X8_vote_b136, v_X8_vote_b141]
    refine ⟨fun c => ?_, fun c => ⟨fun c2 => ?_, fun c2 => ⟨fun c3 => ?_, fun c3 => ?_⟩⟩⟩
    · rw [if_neg c] at hq; exact hq
    · rw [if_pos c, if_pos c2] at hq; exact hq
    · rw [if_pos c, if_neg c2, if_pos c3] at hq; exact hq
    · rw [if_pos c, if_neg c2, if_neg c3] at hq
      refine r_rate hF (hm.resolve_left c3) (r_rate hF hv ⟨fun c4 => ?_, fun c4 => ?_⟩)
      · rw [if_pos c4] at hq; exact hq
      · rw [if_neg c4] at hq; exact hq
/-! votes: both -/
theorem len_f {l : List Nat} : ∀ (s : Int32), l.foldl (fun s _ => s + 1) s = s + nI l.length := by
  induction l with
  | nil => intro s; show s = s + nI 0; rw [← nI_z, Int32.add_zero]
  | cons a l ih =>
    intro s
    rw [List.foldl_cons, ih, List.length_cons, nI_succ, Int32.add_assoc, Int32.add_comm 1]
theorem sz_eq (h : LI E n Z N) (hF : F.2.1 = E.2.1) (hi : i < E.1) : szR F N (nI i) = nI (ce_mem E i).length := by
  have h1 := len_f (l := ce_mem E i) 0
  rw [Int32.zero_add] at h1
  rw [← h1]
  unfold szR
  rw [hF]
  have h2 := mem_foldl E i (fun _ (s : Int32) => s + 1) 0
  rw [h2]
  refine itd_rel (R := fun _ a b => a = b) E.2.1 0 0 0 (fun k a b _ hk e => ?_) rfl
  have hk : k < E.2.1 := by omega
  have hb := (LJ_EW h).2.2.1 k hk
  have h3 := (LJ_EW h).1
  rw [LI_of h hk, e]
  simp only [nI_inj3 (show E.2.2 k < 2147483648 by omega) (show i < 2147483648 by omega)]
  by_cases c : E.2.2 k = i
  · simp only [c, if_true]
  · simp only [c, if_false, Int32.add_zero]
theorem rt_eq (h : LI E n Z N) (hF : F.2.1 = E.2.1) (hi : i < E.1) : rtR F N (nI i) = rateC E (Z 0) i := by
  have h3 := (LJ_EW h).1
  unfold rtR rateC
  rw [sz_eq h hF hi, nI_cl (show i < 2147483648 by omega), LI_ch h (c := 40) (by unfold Ch; decide)]
theorem md_eq (h : LI E n Z N) (hF : F.2.1 = E.2.1) (hF1 : F.1 = E.1) (hi : i < E.1) : m2R F (nI i) N = onI (mdC E (Z 0) (nI i)) ∧ ∀ a, mdC E (Z 0) (nI i) = some a → a < E.1 := by
  have h3 := (LJ_EW h).1
  have l1 : (1 : Int32).toInt = 1 := rfl
  have hx : (nI i).toInt = i := ti_nI (by omega)
  have s1 : (nI i - 1).toInt = (i : Int) - 1 := by rw [ti_sub (by rw [l1]; omega) (by rw [l1]; omega), l1, hx]
  have s2 : (nI i + 1).toInt = (i : Int) + 1 := by rw [ti_add (by rw [l1]; omega) (by rw [l1]; omega), l1, hx]
  have e2 : nI i + 1 = nI (i + 1) := (nI_succ i).symm
  unfold m2R m1R mdC socN
  rw [hF1]
  by_cases c1 : 0 ≤ (nI i - 1).toInt ∧ (nI i - 1).toInt < (E.1 : Int)
  · obtain ⟨j, hj⟩ : ∃ j, i = j + 1 := ⟨i - 1, by omega⟩
    have e1 : nI i - 1 = nI j := by rw [hj, nI_pred]
    have cl1 : Int32.toNatClampNeg (nI i - 1) = j := by rw [e1, nI_cl (by omega)]
    simp only [c1, and_self, if_true, cl1]
    by_cases c2 : 0 ≤ (nI i + 1).toInt ∧ (nI i + 1).toInt < (E.1 : Int)
    · have cl2 : Int32.toNatClampNeg (nI i + 1) = i + 1 := by rw [e2, nI_cl (by omega)]
      simp only [c2, and_self, if_true, cl2]
      rw [e1, e2, if_neg (onI_ne (by omega)), rt_eq h hF (by omega), rt_eq h hF (by omega)]
      by_cases c3 : rateC E (Z 0) (i + 1) ≤ rateC E (Z 0) j
      · rw [if_pos c3, if_pos c3]; exact ⟨rfl, fun a z => by cases z; omega⟩
      · rw [if_neg c3, if_neg c3]; exact ⟨rfl, fun a z => by cases z; omega⟩
    · simp only [c2, if_false]
      exact ⟨e1, fun a z => by cases z; omega⟩
  · simp only [c1, if_false]
    by_cases c2 : 0 ≤ (nI i + 1).toInt ∧ (nI i + 1).toInt < (E.1 : Int)
    · have cl2 : Int32.toNatClampNeg (nI i + 1) = i + 1 := by rw [e2, nI_cl (by omega)]
      simp only [c2, and_self, if_true, cl2]
      exact ⟨e2, fun a z => by cases z; omega⟩
    · simp only [c2, if_false]
      exact ⟨rfl, fun a z => by cases z⟩
theorem m_vote (h : LI E n Z N) (hF : F.2.1 = E.2.1) (hF1 : F.1 = E.1) : RES E n Z N (v_X6_vote E x1 Z) (vT_X6_vote E x1 Z) (v_X8_vote F x1 N) [xI] := by
  have hW := LJ_EW h
  have n1 : ¬ (1 : Int32) = 0 := by decide
  have h80 : LI E n Z (s_up2 N 80 0 0) := LJ_80 h
  by_cases hv : vp_in x1 E.1
  · have hi := vp_lt hv
    have hx := vp_nI hv
    have hS := hW.1
    generalize hii : Int32.toNatClampNeg x1 = ii at hi hx
    obtain ⟨me, ml⟩ := md_eq h80 hF hF1 hi
    rw [← hx] at me ml
    have hyes : yesC E (Z 0) ii (mdC E (Z 0) x1) = itd (ysR F (s_up2 N 80 0 0) x1 (m2R F x1 (s_up2 N 80 0 0))) 0 F.2.1 0 := by
      unfold yesC
      have h2 := mem_foldl E ii (fun k (s : Int32) => ysC (Z 0) (flC E (Z 0) ii (mdC E (Z 0) x1)) k s) 0
      rw [h2, hF]
      refine itd_rel (R := fun _ a b => a = b) E.2.1 0 0 0 (fun k a b _ hk e => ?_) rfl
      have hk : k < E.2.1 := by omega
      have hb := hW.2.2.1 k hk
      unfold ysR ysC
      rw [LI_of h80 hk, e, ← LI_ch h80 (c := 8) (by unfold Ch; decide)]
      rw [hx]
      simp only [nI_inj3 (show E.2.2 k < 2147483648 by omega) (show ii < 2147483648 by omega)]
      by_cases c : E.2.2 k = ii
      · simp only [c, if_true]
        by_cases c2 : Z 0 8 k ≤ 30
        · have c2' : ¬ 30 < Z 0 8 k := by rw [ti_lt]; rw [ti_le] at c2; omega
          simp only [c2, c2', if_true, if_false]
          rw [← hx, me]
          cases hm : mdC E (Z 0) x1 with
          | none => rw [show flC E (Z 0) ii none = 0 from rfl, if_pos rfl, if_pos (show onI none = -1 from rfl), Int32.add_zero]
          | some a =>
            have ha := ml a hm
            have hA : rtR F (s_up2 N 80 0 0) (onI (some a)) = rateC E (Z 0) a := rt_eq h80 hF ha
            have hB : rtR F (s_up2 N 80 0 0) x1 = rateC E (Z 0) ii := by rw [hx]; exact rt_eq h80 hF hi
            have hne : ¬ onI (some a) = -1 := onI_ne (show a < 2147483648 by omega)
            rw [if_neg hne, hA, hB]
            by_cases c3 : rateC E (Z 0) a ≤ rateC E (Z 0) ii
            · rw [show flC E (Z 0) ii (some a) = 0 from if_pos c3, if_pos rfl, if_pos c3, Int32.add_zero]
            · rw [show flC E (Z 0) ii (some a) = 1 from if_neg c3, if_neg n1, if_neg c3]
        · have c2' : 30 < Z 0 8 k := by rw [ti_lt]; rw [ti_le] at c2; omega
          simp only [c2, c2', if_true, if_false]
          split <;> rfl
      · simp only [c, if_false, Int32.add_zero]
    have hend : ∃ (M' N' : yT), M' = (fun X : yT => s_up2 X 40 ii 0) (match mdC E (Z 0) x1 with
        | none => Z 0
        | some a => if 2 * yesC E (Z 0) ii (mdC E (Z 0) x1) ≤ nI (ce_mem E ii).length then Z 0 else s_up2 (s_up2 (Z 0) 34 ii (Z 0 34 a)) 35 ii (Z 0 35 a)) ∧ N' = endR F x1 (m2R F x1 (s_up2 N 80 0 0)) (yesC E (Z 0) ii (mdC E (Z 0) x1)) (s_up2 N 80 0 0) ∧ LJ E n M' (Z 1) N' ∧ N' 80 0 = 0 := by
      refine ⟨_, _, rfl, rfl, ?_⟩
      unfold endR
      have e34 : ∀ a, Z 0 34 a = s_up2 N 80 0 0 34 a := fun a => LI_ch h80 (by unfold Ch; decide)
      have e35 : ∀ a, Z 0 35 a = s_up2 N 80 0 0 35 a := fun a => LI_ch h80 (by unfold Ch; decide)
      have esz : szR F (s_up2 N 80 0 0) x1 = nI (ce_mem E ii).length := by rw [hx]; exact sz_eq h80 hF hi
      have hcl : Int32.toNatClampNeg x1 = ii := hii
      rw [esz, hcl]
      cases hm : mdC E (Z 0) x1 with
      | none =>
        rw [me, hm]
        have hg : (if 2 * yesC E (Z 0) ii none ≤ nI (ce_mem E ii).length then s_up2 N 80 0 0 else if onI none = -1 then s_up2 N 80 0 0 else (fun Y : yT => s_up2 Y 35 ii (s_up2 N 80 0 0 35 (Int32.toNatClampNeg (onI none)))) (s_up2 (s_up2 N 80 0 0) 34 ii (s_up2 N 80 0 0 34 (Int32.toNatClampNeg (onI none))))) = s_up2 N 80 0 0 := by
          split
          · rfl
          · exact if_pos (show onI none = -1 from rfl)
        rw [hg]
        exact ⟨LJ_p (by unfold plainC; omega) h80 rfl, by simp only [up_rd, Nat.reduceEqDiff, false_and, and_self, if_true, if_false]⟩
      | some a =>
        have ha := ml a hm
        rw [me, hm]
        simp only [onI, onI_ne (show a < 2147483648 by omega), if_false, nI_cl (show a < 2147483648 by omega)]
        by_cases c : 2 * yesC E (Z 0) ii (some a) ≤ nI (ce_mem E ii).length
        · simp only [c, if_true]
          exact ⟨LJ_p (by unfold plainC; omega) h80 rfl, by simp only [up_rd, Nat.reduceEqDiff, false_and, and_self, if_true, if_false]⟩
        · simp only [c, if_false]
          refine ⟨LJ_p (by unfold plainC; omega) (LJ_p (by unfold plainC; omega) (LJ_s (by omega) h80 (e34 a) ?_) (e35 a)) rfl, by simp only [up_rd, Nat.reduceEqDiff, false_and, and_self, if_true, if_false]⟩
          have g1 := h.2.2.2.1 ii hi
          have g2 := h.2.2.2.1 a ha
          unfold iS at g1 g2 ⊢
          simp only [up_rd, Nat.reduceEqDiff, false_and, and_self, if_true, if_false, reduceIte]
          exact ⟨g1.1, g1.2.1, g2.2.2.1, g2.2.2.2.1, g1.2.2.2.2⟩
    obtain ⟨M', N', hM', hN', hLJ, h0⟩ := hend
    refine Or.inl ⟨yesC E (Z 0) ii (mdC E (Z 0) x1), zs Z 0 M', N', fun Q hq => ?_, fun Q hq => ?_, h0, LI_zs hLJ⟩
    · rw [hM'] at hq
      simp only [v_X6_vote, v_X6_vote_b0, v_X6_vote_b56, c_societyAt hS hv, c_model hS, hii]
      refine c_yes hW.2.1 ?_
      generalize hr : mdC E (Z 0) x1 = r at hq ⊢
      generalize yesC E (Z 0) ii r = yy at hq ⊢
      cases r with
      | none =>
        refine ⟨fun _ => ?_, fun a z => by cases z⟩
        simp only [forall_eq, u3_zs]
        exact hq
      | some a =>
        refine ⟨fun z => (by cases z), fun b z => ?_⟩
        cases z
        simp only [forall_eq, u3_zs, zs_zs, zs_rd, up_rd, Nat.reduceEqDiff, false_and, if_false]
        refine ⟨fun c => ?_, fun c => ?_⟩
        · simp only [c, if_true] at hq; exact hq
        · simp only [c, if_false] at hq; exact hq
    · rw [hN', hyes] at hq
      simp only [v_X8_vote, v_X8_vote_b0, forall_eq, r_isS (hF1 ▸ hS) (hF1 ▸ hv), n1, not_false_eq_true, forall_const, false_implies, and_true]
      refine ⟨3, r_model (hF ▸ hW.2.1) (hF1 ▸ hS) (hF1 ▸ hv) ⟨F.2.1 + 1, ?_⟩⟩
      have hm2 : m2R F x1 (s_up2 N 80 0 0) = -1 ∨ vp_in (m2R F x1 (s_up2 N 80 0 0)) F.1 := by
        rw [me]
        cases hm : mdC E (Z 0) x1 with
        | none => exact Or.inl rfl
        | some a =>
          have ha := ml a hm
          refine Or.inr ?_
          show vp_in (nI a) F.1
          rw [nI_vp (by omega), hF1]; exact ha
      have := l_yesR (N := s_up2 N 80 0 0) (x1 := x1) (x2 := m2R F x1 (s_up2 N 80 0 0)) (Q := Q) (hF ▸ hW.2.1) (hF1 ▸ hv) hm2 F.2.1 0 0 (by omega) hq
      rw [← nI_z] at this
      exact this
  · refine Or.inr ⟨0, xI, 0, s_up2 (s_up2 N 80 0 0) 80 0 1, rfl, fun Q hq => ?_, fun Q hq => ?_, rfl, LJ_80 (LJ_80 h)⟩
    · exact Or.inr (by rw [t_societyAt hW.1 hv]; exact hq)
    · simp only [v_X8_vote, v_X8_vote_b0, forall_eq, r_isS0 (hF1 ▸ hW.1) (hF1 ▸ hv), r_refuse, not_true_eq_false, false_implies, true_and, forall_const]
      exact hq
end
