section
variable {E : eT} {F : fT} {n : Nat} {M M1 N M' N' : yT} {Z : zT} {x1 x2 x3 : Int32} {k i w : Nat}
/-! votes: the system's side -/
def socN (E : eT) (x : Int32) : Option Nat := if 0 ≤ x.toInt ∧ x.toInt < E.1 then some (Int32.toNatClampNeg x) else none
theorem c_soc (hS : E.1 ≤ 3) {Q : Option Nat → zT → Prop} : v_X2_societyOrNull E w x1 Z Q = Q (socN E x1) Z := by
  have h0 : (0 : Int32).toInt = 0 := rfl
  simp only [v_X2_societyOrNull, v_X2_societyOrNull_b0, v_X2_societyOrNull_b29, v_X2_societyOrNull_b30, forall_eq, socN, vp_iff, ti_lt, ti_le, h0, ti_nI (show E.1 < 2147483648 by omega)]
  by_cases c1 : x1.toInt < 0
  · simp only [c1, show ¬ 0 ≤ x1.toInt by omega, false_and, if_false, forall_const, not_true_eq_false, false_implies, and_true]
  · by_cases c2 : (E.1 : Int) ≤ x1.toInt
    · simp only [c1, c2, show ¬ x1.toInt < (E.1 : Int) by omega, and_false, if_false, forall_const, not_true_eq_false, not_false_eq_true, false_implies, true_and, and_true]
    · simp only [c1, c2, show x1.toInt < (E.1 : Int) by omega, show 0 ≤ x1.toInt by omega, and_self, if_true, forall_const, not_false_eq_true, false_implies, true_and]
def mdC (E : eT) (M : yT) (x : Int32) : Option Nat := match socN E (x - 1), socN E (x + 1) with
  | none, r => r
  | some a, none => some a
  | some a, some b => if rateC E M b ≤ rateC E M a then some a else some b
theorem c_model (hS : E.1 ≤ 3) {Q : Option Nat → zT → Prop} : v_X2_modelOf E w x1 Z Q = Q (mdC E (Z w) x1) Z := by
  simp only [v_X2_modelOf, v_X2_modelOf_b0, v_X2_modelOf_b44, forall_eq, c_soc hS, e_cpf, mdC]
  cases socN E (x1 - 1) with
  | none => simp
  | some a =>
    cases socN E (x1 + 1) with
    | none => simp
    | some b =>
      simp only [reduceCtorEq, false_implies, true_and, Option.some.injEq, forall_eq']
      by_cases c : rateC E (Z w) b ≤ rateC E (Z w) a <;> simp [c]
def flC (E : eT) (M : yT) (i : Nat) (r : Option Nat) : Int32 := match r with
  | none => 0
  | some a => if rateC E M a ≤ rateC E M i then 0 else 1
def ysC (M : yT) (f : Int32) (k : Nat) (s : Int32) : Int32 := if f = 0 then (if M 8 k ≤ 30 then s else s + 1) else s + 1
theorem l_yes (hF : E.2.1 ≤ 12) {Q : Int32 → zT → Prop} : ∀ (d j : Nat) (s : Int32), j + d = (ce_mem E i).length → Q (((ce_mem E i).drop j).foldl (fun s k => ysC (Z w) x1 k s) s) Z → v_X5_countYes_b26 E w Q (d + 1) i x1 s (nI j) Z := by
  have hl := mem_len E i
  intro d
  induction d with
  | zero =>
    intro j s h hq
    have hj : j = (ce_mem E i).length := h
    subst hj
    unfold v_X5_countYes_b26
    simp only [List.drop_length, List.foldl_nil] at hq
    simp only [forall_eq, nI_lei (show (ce_mem E i).length < 2147483648 by omega) (show (ce_mem E i).length < 2147483648 by omega), Nat.le_refl, forall_const, not_true_eq_false, false_implies, and_true]
    exact hq
  | succ d ih =>
    intro j s h hq
    unfold v_X5_countYes_b26
    have h1 : j < 2147483648 := by omega
    have h2 : (ce_mem E i).length < 2147483648 := by omega
    have h3 : ¬ (ce_mem E i).length ≤ j := by omega
    have h4 : j < (ce_mem E i).length := by omega
    rw [drop_get h4, List.foldl_cons] at hq
    have hq := ih (j + 1) _ (by omega) hq
    unfold ysC at hq
    simp only [forall_eq, nI_lei h2 h1, h3, h4, false_implies, true_and, nI_vp h1, nI_cl h1, not_false_eq_true, forall_const, ← nI_succ, v_X5_countYes_b62, v_X5_countYes_b65]
    refine ⟨fun c => ?_, fun c => ⟨fun c2 => ?_, fun c2 => ?_⟩⟩
    · rw [if_neg c] at hq; exact hq
    · rw [if_pos c, if_pos c2] at hq; exact hq
    · rw [if_pos c, if_neg c2] at hq; exact hq
def yesC (E : eT) (M : yT) (i : Nat) (r : Option Nat) : Int32 := (ce_mem E i).foldl (fun s k => ysC M (flC E M i r) k s) 0
theorem c_yes (hF : E.2.1 ≤ 12) {r : Option Nat} {Q : Int32 → zT → Prop} (h : Q (yesC E (Z w) i r) Z) : v_X5_countYes E w i r Z Q := by
  have go : ∀ f : Int32, f = flC E (Z w) i r → v_X5_countYes_b20 E w i f Z Q := by
    intro f hf
    refine ⟨(ce_mem E i).length + 1, ?_⟩
    have := l_yes (Z := Z) (w := w) (i := i) (x1 := f) (Q := Q) hF (ce_mem E i).length 0 0 (by omega) (by rw [List.drop_zero, hf]; exact h)
    rw [← nI_z] at this
    exact this
  simp only [v_X5_countYes, v_X5_countYes_b0, v_X5_countYes_b19, e_cpf]
  cases r with
  | none => exact ⟨fun _ => go 0 rfl, fun a z => by cases z⟩
  | some a =>
    refine ⟨fun z => (by cases z), fun b z => ?_⟩
    cases z
    exact ⟨fun c => go 0 (if_pos c).symm, fun c => go 1 (if_neg c).symm⟩
/-! votes: the reference's side -/
def szR (F : fT) (M : yT) (x : Int32) : Int32 := itd (fun k s => s + if M 0 k = x then 1 else 0) 0 F.2.1 0
def rtR (F : fT) (M : yT) (x : Int32) : Int32 := if szR F M x = 0 then 0 else M 40 (Int32.toNatClampNeg x) / szR F M x
def m1R (F : fT) (x : Int32) (N : yT) : Int32 := if 0 ≤ (x - 1).toInt ∧ (x - 1).toInt < F.1 then x - 1 else -1
def m2R (F : fT) (x : Int32) (N : yT) : Int32 := if 0 ≤ (x + 1).toInt ∧ (x + 1).toInt < F.1 then (if m1R F x N = -1 then x + 1 else if rtR F N (x + 1) ≤ rtR F N (m1R F x N) then m1R F x N else x + 1) else m1R F x N
def ysR (F : fT) (N : yT) (x m : Int32) (k : Nat) (s : Int32) : Int32 := s + if N 0 k = x then (if 30 < N 8 k then 1 else if m = -1 then 0 else if rtR F N m ≤ rtR F N x then 0 else 1) else 0
def endR (F : fT) (x m s : Int32) (N : yT) : yT := (fun X : yT => s_up2 X 40 (Int32.toNatClampNeg x) 0) (if 2 * s ≤ szR F N x then N else if m = -1 then N else (fun Y : yT => s_up2 Y 35 (Int32.toNatClampNeg x) (N 35 (Int32.toNatClampNeg m))) (s_up2 N 34 (Int32.toNatClampNeg x) (N 34 (Int32.toNatClampNeg m))))
/-! votes: both -/
theorem len_f {l : List Nat} : ∀ (s : Int32), l.foldl (fun s _ => s + 1) s = s + nI l.length := by
  induction l with
  | nil => intro s; show s = s + nI 0; rw [← nI_z, Int32.add_zero]
  | cons a l ih =>
    intro s
    rw [List.foldl_cons, ih, List.length_cons, nI_succ, Int32.add_assoc, Int32.add_comm 1]
theorem sz_eq (h : LI E n Z N) (hF : F.2.1 = E.2.1) (hi : i < E.1) : szR F N (nI i) = nI (ce_mem E i).length := by
  have h1 := len_f (l := ce_mem E i) 0
  rw [Int32.zero_add] at h1
  rw [← h1]
  unfold szR
  rw [hF]
  have h2 := mem_foldl E i (fun _ (s : Int32) => s + 1) 0
  rw [h2]
  refine itd_rel (R := fun _ a b => a = b) E.2.1 0 0 0 (fun k a b _ hk e => ?_) rfl
  have hk : k < E.2.1 := by omega
  have hb := (LJ_EW h).2.2.1 k hk
  have h3 := (LJ_EW h).1
  rw [LI_of h hk, e]
  simp only [nI_inj3 (show E.2.2 k < 2147483648 by omega) (show i < 2147483648 by omega)]
  by_cases c : E.2.2 k = i
  · simp only [c, if_true]
  · simp only [c, if_false, Int32.add_zero]
theorem rt_eq (h : LI E n Z N) (hF : F.2.1 = E.2.1) (hi : i < E.1) : rtR F N (nI i) = rateC E (Z 0) i := by
  have h3 := (LJ_EW h).1
  unfold rtR rateC
  rw [sz_eq h hF hi, nI_cl (show i < 2147483648 by omega), LI_ch h (c := 40) (by unfold Ch; decide)]
theorem md_eq (h : LI E n Z N) (hF : F.2.1 = E.2.1) (hF1 : F.1 = E.1) (hi : i < E.1) : m2R F (nI i) N = onI (mdC E (Z 0) (nI i)) ∧ ∀ a, mdC E (Z 0) (nI i) = some a → a < E.1 := by
  have h3 := (LJ_EW h).1
  have l1 : (1 : Int32).toInt = 1 := rfl
  have hx : (nI i).toInt = i := ti_nI (by omega)
  have s1 : (nI i - 1).toInt = (i : Int) - 1 := by rw [ti_sub (by rw [l1]; omega) (by rw [l1]; omega), l1, hx]
  have s2 : (nI i + 1).toInt = (i : Int) + 1 := by rw [ti_add (by rw [l1]; omega) (by rw [l1]; omega), l1, hx]
  have e2 : nI i + 1 = nI (i + 1) := (nI_succ i).symm
  unfold m2R m1R mdC socN
  rw [hF1]
  by_cases c1 : 0 ≤ (nI i - 1).toInt ∧ (nI i - 1).toInt < (E.1 : Int)
  · obtain ⟨j, hj⟩ : ∃ j, i = j + 1 := ⟨i - 1, by omega⟩
    have e1 : nI i - 1 = nI j := by rw [hj, nI_pred]
    have cl1 : Int32.toNatClampNeg (nI i - 1) = j := by rw [e1, nI_cl (by omega)]
    simp only [c1, and_self, if_true, cl1]
    by_cases c2 : 0 ≤ (nI i + 1).toInt ∧ (nI i + 1).toInt < (E.1 : Int)
    · have cl2 : Int32.toNatClampNeg (nI i + 1) = i + 1 := by rw [e2, nI_cl (by omega)]
      simp only [c2, and_self, if_true, cl2]
      rw [e1, e2, if_neg (onI_ne (by omega)), rt_eq h hF (by omega), rt_eq h hF (by omega)]
      by_cases c3 : rateC E (Z 0) (i + 1) ≤ rateC E (Z 0) j
      · rw [if_pos c3, if_pos c3]; exact ⟨rfl, fun a z => by cases z; omega⟩
      · rw [if_neg c3, if_neg c3]; exact ⟨rfl, fun a z => by cases z; omega⟩
    · simp only [c2, if_false]
      exact ⟨e1, fun a z => by cases z; omega⟩
  · simp only [c1, if_false]
    by_cases c2 : 0 ≤ (nI i + 1).toInt ∧ (nI i + 1).toInt < (E.1 : Int)
    · have cl2 : Int32.toNatClampNeg (nI i + 1) = i + 1 := by rw [e2, nI_cl (by omega)]
      simp only [c2, and_self, if_true, cl2]
      exact ⟨e2, fun a z => by cases z; omega⟩
    · simp only [c2, if_false]
      exact ⟨rfl, fun a z => by cases z⟩
end
