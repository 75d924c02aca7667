/-! ===== trial runs ===== -/
def cpL (cols : List Nat) (M : yT) (k : Nat) (X : yT) : yT := cols.foldl (fun X c => s_up2 X c k (M c k)) X
theorem cpL_rd (M : yT) (k : Nat) : ∀ (cols : List Nat) (X : yT) (c j : Nat), cpL cols M k X c j = if c ∈ cols ∧ j = k then M c j else X c j := by
  intro cols
  induction cols with
  | nil => intro X c j; rw [if_neg (fun z => absurd z.1 List.not_mem_nil)]; rfl
  | cons a l ih =>
    intro X c j
    show cpL l M k (s_up2 X a k (M a k)) c j = _
    rw [ih, up_rd]
    by_cases h1 : j = k
    · subst h1
      by_cases h2 : c ∈ l
      · rw [if_pos ⟨h2, rfl⟩, if_pos ⟨List.mem_cons_of_mem _ h2, rfl⟩]
      · rw [if_neg (fun z => h2 z.1)]
        by_cases h3 : c = a
        · rw [if_pos ⟨h3, rfl⟩, if_pos ⟨h3 ▸ List.mem_cons_self, rfl⟩, h3]
        · rw [if_neg (fun z => h3 z.1), if_neg (fun z => (List.mem_cons.mp z.1).elim h3 h2)]
    · rw [if_neg (fun z => h1 z.2), if_neg (fun z => h1 z.2), if_neg (fun z => h1 z.2)]
theorem cpL_itd (cols : List Nat) (M : yT) : ∀ (n : Nat) (X : yT) (c j : Nat), itd (cpL cols M) 0 n X c j = if c ∈ cols ∧ j < n then M c j else X c j := by
  intro n
  induction n with
  | zero => intro X c j; rw [if_neg (fun z => by omega)]; rfl
  | succ n ih =>
    intro X c j
    rw [itd_last, Nat.zero_add, cpL_rd, ih]
    by_cases h1 : c ∈ cols
    · by_cases h2 : j = n
      · rw [if_pos ⟨h1, h2⟩, if_pos ⟨h1, by omega⟩]
      · rw [if_neg (fun z => h2 z.2)]
        by_cases h3 : j < n
        · rw [if_pos ⟨h1, h3⟩, if_pos ⟨h1, by omega⟩]
        · rw [if_neg (fun z => h3 z.2), if_neg (fun z => by omega)]
    · rw [if_neg (fun z => h1 z.1), if_neg (fun z => h1 z.1), if_neg (fun z => h1 z.1)]
abbrev colS : List Nat := [34, 35, 37, 38, 39]
abbrev colF : List Nat := [15, 12, 1, 2, 3, 8, 16, 17, 4, 5, 6, 7, 9]
def cpM (E : eT) (M X : yT) : yT := itd (cpL colF M) 0 E.2.1 (itd (cpL colS M) 0 E.1 (s_up2 (s_up2 X 64 0 (M 64 0)) 68 0 (M 68 0)))
theorem cpM_rd {E : eT} {M X : yT} {c j : Nat} : cpM E M X c j = if c ∈ colF ∧ j < E.2.1 then M c j else if c ∈ colS ∧ j < E.1 then M c j else if c = 68 ∧ j = 0 then M 68 0 else if c = 64 ∧ j = 0 then M 64 0 else X c j := by
  unfold cpM
  rw [cpL_itd, cpL_itd, up_rd, up_rd]
theorem zs_r0 (Z : zT) (M : yT) : zs Z 1 M 0 = Z 0 := if_neg (by decide)
section
variable {E : eT} {F : fT} {n : Nat} {M M1 N M' N' X Y : yT} {Z : zT} {x1 x2 x3 : Int32} {k i w : Nat}
theorem l_cpF (hF : E.2.1 ≤ 12) (hb : ∀ k, k < E.2.1 → (Z 0 12 k = 0 ∨ Z 0 12 k = 1) ∧ (Z 0 16 k = 0 ∨ Z 0 16 k = 1)) {Q : zT → Prop} : ∀ (d j : Nat) (X : yT), j + d = E.2.1 → Q (zs Z 1 (itd (cpL colF (Z 0)) j d X)) → v_X2_copyFrom_b73 E Q (d + 1) (nI j) (zs Z 1 X) := by
  intro d
  induction d with
  | zero =>
    intro j X h hq
    have hj : j = E.2.1 := h
    subst hj
    unfold v_X2_copyFrom_b73
    simp only [forall_eq, nI_lei (show E.2.1 < 2147483648 by omega) (show E.2.1 < 2147483648 by omega), Nat.le_refl, forall_const, not_true_eq_false, false_implies, and_true, v_X2_copyFrom_b126]
    exact hq
  | succ d ih =>
    intro j X h hq
    unfold v_X2_copyFrom_b73
    have h1 : j < 2147483648 := by omega
    have h2 : E.2.1 < 2147483648 := by omega
    have h3 : ¬ E.2.1 ≤ j := by omega
    have h4 : j < E.2.1 := by omega
    rw [itd_s] at hq
    have hq := ih (j + 1) _ (by omega) hq
    have hb := hb j h4
    simp only [forall_eq, nI_lei h2 h1, h3, h4, nI_vp h1, nI_cl h1, false_implies, true_and, not_false_eq_true, forall_const, ← nI_succ, v_X1_copyFrom, v_X1_copyFrom_b0, v_X0_copyFrom, v_X0_copyFrom_b0, u3_zs, zs_zs, zs_rd, zs_r0]
    exact ⟨hb.1, hb.2, hq⟩
theorem l_cpS (hF : E.2.1 ≤ 12) (hS : E.1 ≤ 3) (hb : ∀ k, k < E.2.1 → (Z 0 12 k = 0 ∨ Z 0 12 k = 1) ∧ (Z 0 16 k = 0 ∨ Z 0 16 k = 1)) (hs : ∀ i, i < E.1 → Z 0 38 i = 0 ∨ Z 0 38 i = 1) {Q : zT → Prop} : ∀ (d j : Nat) (X : yT), j + d = E.1 → Q (zs Z 1 (itd (cpL colF (Z 0)) 0 E.2.1 (itd (cpL colS (Z 0)) j d X))) → v_X2_copyFrom_b18 E Q (d + 1) (nI j) (zs Z 1 X) := by
  intro d
  induction d with
  | zero =>
    intro j X h hq
    have hj : j = E.1 := h
    subst hj
    unfold v_X2_copyFrom_b18
    simp only [forall_eq, nI_lei (show E.1 < 2147483648 by omega) (show E.1 < 2147483648 by omega), Nat.le_refl, forall_const, not_true_eq_false, false_implies, and_true, v_X2_copyFrom_b71]
    refine ⟨E.2.1 + 1, ?_⟩
    rw [nI_z]
    exact l_cpF hF hb _ 0 _ (by omega) hq
  | succ d ih =>
    intro j X h hq
    unfold v_X2_copyFrom_b18
    have h1 : j < 2147483648 := by omega
    have h2 : E.1 < 2147483648 := by omega
    have h3 : ¬ E.1 ≤ j := by omega
    have h4 : j < E.1 := by omega
    rw [itd_s] at hq
    have hq := ih (j + 1) _ (by omega) hq
    have hs := hs j h4
    simp only [forall_eq, nI_lei h2 h1, h3, h4, nI_vp h1, nI_cl h1, false_implies, true_and, not_false_eq_true, forall_const, ← nI_succ, v_X5_copyFrom, v_X5_copyFrom_b0, u3_zs, zs_zs, zs_rd, zs_r0]
    exact ⟨hs, hq⟩
theorem c_copy (hF : E.2.1 ≤ 12) (hS : E.1 ≤ 3) (hb : ∀ k, k < E.2.1 → (Z 0 12 k = 0 ∨ Z 0 12 k = 1) ∧ (Z 0 16 k = 0 ∨ Z 0 16 k = 1)) (hs : ∀ i, i < E.1 → Z 0 38 i = 0 ∨ Z 0 38 i = 1) {Q : zT → Prop} (h : Q (zs Z 1 (cpM E (Z 0) X))) : v_X2_copyFrom E (zs Z 1 X) Q := by
  unfold v_X2_copyFrom v_X2_copyFrom_b0
  simp only [forall_eq, u3_zs, zs_zs, zs_rd, zs_r0]
  refine ⟨E.1 + 1, ?_⟩
  rw [nI_z]
  exact l_cpS hF hS hb hs _ 0 _ (by omega) h
def pF (E : eT) (fl wa ra : Int32) (d : Nat) (X : yT) : yT := itd (fun _ X => passF E fl wa ra X) 0 d X
theorem l_try (hF : E.2.1 ≤ 12) (hS : E.1 ≤ 3) {D : Nat} (hD : D < 1000) {Q : zT → Prop} : ∀ (d j : Nat) (X : yT), j + d = D → Q (zs Z 1 (itd (fun _ X => passF E (Z 0 65 0) (Z 0 66 0) (Z 0 67 0) X) j d X)) → v_X6_tryDays_b13 E Q (d + 1) (nI D) (nI j) (zs Z 1 X) := by
  intro d
  induction d with
  | zero =>
    intro j X h hq
    have hj : j = D := h
    subst hj
    unfold v_X6_tryDays_b13
    simp only [forall_eq, nI_lei (show j < 2147483648 by omega) (show j < 2147483648 by omega), Nat.le_refl, forall_const, not_true_eq_false, false_implies, and_true]
    exact hq
  | succ d ih =>
    intro j X h hq
    unfold v_X6_tryDays_b13
    have h1 : j < 2147483648 := by omega
    have h2 : D < 2147483648 := by omega
    have h3 : ¬ D ≤ j := by omega
    rw [itd_s] at hq
    simp only [forall_eq, nI_lei h2 h1, h3, false_implies, true_and, not_false_eq_true, forall_const, ← nI_succ, zs_r0]
    exact s_pass hS hF (ih (j + 1) _ (by omega) hq)
theorem s_try (hF : E.2.1 ≤ 12) (hS : E.1 ≤ 3) (hb : ∀ k, k < E.2.1 → (Z 0 12 k = 0 ∨ Z 0 12 k = 1) ∧ (Z 0 16 k = 0 ∨ Z 0 16 k = 1)) (hs : ∀ i, i < E.1 → Z 0 38 i = 0 ∨ Z 0 38 i = 1) {D : Nat} (hD : D < 1000) {Q : zT → Prop} (h : Q (zs Z 1 (pF E (Z 0 65 0) (Z 0 66 0) (Z 0 67 0) D (cpM E (Z 0) X)))) : v_X6_tryDays E (nI D) (zs Z 1 X) Q := by
  unfold v_X6_tryDays v_X6_tryDays_b0
  refine c_copy hF hS hb hs ⟨D + 1, ?_⟩
  have := l_try (Z := Z) (Q := Q) hF hS hD D 0 (cpM E (Z 0) X) (by omega) h
  rw [← nI_z] at this
  exact this
theorem c_yieldOf (hF : E.2.1 ≤ 12) (hv : vp_in x1 E.2.1) {Q : Int32 → zT → Prop} : v_X2_yieldOf E w x1 Z Q = Q (ryC (Z w) (Int32.toNatClampNeg x1)) Z := by
  have h1 := vp_iff.mp hv
  have h2 : ¬ x1 < 0 := vp_nn hv
  have h3 : ¬ nI E.2.1 ≤ x1 := by rw [ti_le, ti_nI (by omega)]; omega
  simp only [v_X2_yieldOf, v_X2_yieldOf_b0, v_X2_yieldOf_b36, forall_eq, h2, h3, hv, e_ripeYield, false_implies, true_and, not_false_eq_true, forall_const]
def syC (E : eT) (X : yT) : Int32 := itd (fun k s => s + ryC X k) 0 E.2.1 0
theorem l_sy (hF : E.2.1 ≤ 12) {Q : Int32 → zT → Prop} : ∀ (d j : Nat) (s : Int32), j + d = E.2.1 → v_X2_sumOfYields_b4 E w Q (d + 1) s (nI j) Z = Q (itd (fun k s => s + ryC (Z w) k) j d s) Z := by
  intro d
  induction d with
  | zero =>
    intro j s h
    have hj : j = E.2.1 := h
    subst hj
    unfold v_X2_sumOfYields_b4
    simp [itd, nI_lei]
  | succ d ih =>
    intro j s h
    unfold v_X2_sumOfYields_b4
    have h1 : j < 2147483648 := by omega
    have h2 : E.2.1 < 2147483648 := by omega
    have h3 : ¬ E.2.1 ≤ j := by omega
    have h4 : j < E.2.1 := by omega
    simp only [forall_eq, nI_lei h2 h1, h3, h4, nI_vp h1, nI_cl h1, false_implies, true_and, not_false_eq_true, forall_const, ← nI_succ, e_ripeYield, ih (j + 1) _ (by omega), itd_s]
theorem s_sy (hF : E.2.1 ≤ 12) {Q : Int32 → zT → Prop} (h : Q (syC E (Z w)) Z) : v_X2_sumOfYields E w Z Q := by
  unfold v_X2_sumOfYields v_X2_sumOfYields_b0
  refine ⟨E.2.1 + 1, ?_⟩
  rw [nI_z, l_sy hF _ 0 _ (by omega)]
  exact h
def crC (E : eT) (X : yT) : Int32 := itd (fun k s => s + if X 4 k = 5 then 1 else 0) 0 E.2.1 0
theorem l_cr (hF : E.2.1 ≤ 12) {Q : Int32 → zT → Prop} : ∀ (d j : Nat) (s : Int32), j + d = E.2.1 → v_X2_countRipe_b4 E w Q (d + 1) s (nI j) Z = Q (itd (fun k s => s + if Z w 4 k = 5 then 1 else 0) j d s) Z := by
  intro d
  induction d with
  | zero =>
    intro j s h
    have hj : j = E.2.1 := h
    subst hj
    unfold v_X2_countRipe_b4
    simp [itd, nI_lei]
  | succ d ih =>
    intro j s h
    unfold v_X2_countRipe_b4
    have h1 : j < 2147483648 := by omega
    have h2 : E.2.1 < 2147483648 := by omega
    have h3 : ¬ E.2.1 ≤ j := by omega
    have h4 : j < E.2.1 := by omega
    simp only [forall_eq, nI_lei h2 h1, h3, h4, nI_vp h1, nI_cl h1, false_implies, true_and, not_false_eq_true, forall_const, ← nI_succ, v_X2_countRipe_b42, ih (j + 1) _ (by omega), itd_s]
    by_cases c : Z w 4 j = 5
    · simp only [c, not_true_eq_false, false_implies, true_and, forall_const, if_true]
    · simp only [c, not_false_eq_true, false_implies, and_true, forall_const, if_false]
theorem s_cr (hF : E.2.1 ≤ 12) {Q : Int32 → zT → Prop} (h : Q (crC E (Z w)) Z) : v_X2_countRipe E w Z Q := by
  unfold v_X2_countRipe v_X2_countRipe_b0
  refine ⟨E.2.1 + 1, ?_⟩
  rw [nI_z, l_cr hF _ 0 _ (by omega)]
  exact h
/-! planting by a plan -/
def plK (x : Int32) (k : Nat) (X : yT) : yT := if X 4 k = 0 ∨ X 4 k = 1 then s_up2 (begS k x X) 2 k 0 else X
theorem l_pl (hF : E.2.1 ≤ 12) {Q : zT → Prop} : ∀ (d j : Nat) (X : yT), j + d = (ce_mem E i).length → Q (zs Z w (((ce_mem E i).drop j).foldl (fun X k => plK x1 k X) X)) → v_X5_plantAll_b2 E w Q (d + 1) i x1 (nI j) (zs Z w X) := by
  have hl := mem_len E i
  intro d
  induction d with
  | zero =>
    intro j X h hq
    have hj : j = (ce_mem E i).length := h
    subst hj
    unfold v_X5_plantAll_b2
    simp only [List.drop_length, List.foldl_nil] at hq
    simp only [forall_eq, nI_lei (show (ce_mem E i).length < 2147483648 by omega) (show (ce_mem E i).length < 2147483648 by omega), Nat.le_refl, forall_const, not_true_eq_false, false_implies, and_true]
    exact hq
  | succ d ih =>
    intro j X h hq
    unfold v_X5_plantAll_b2
    have h1 : j < 2147483648 := by omega
    have h2 : (ce_mem E i).length < 2147483648 := by omega
    have h3 : ¬ (ce_mem E i).length ≤ j := by omega
    have h4 : j < (ce_mem E i).length := by omega
    rw [drop_get h4, List.foldl_cons] at hq
    have hq := ih (j + 1) _ (by omega) hq
    unfold plK begS at hq
    simp only [forall_eq, nI_lei h2 h1, h3, h4, false_implies, true_and, nI_vp h1, nI_cl h1, not_false_eq_true, forall_const, ← nI_succ, v_X5_plantAll_b46, v_X5_plantAll_b59, e_begin, u3_zs, zs_zs, zs_rd]
    refine ⟨fun c => ?_, fun c => ⟨fun c2 => ?_, fun c2 => ?_⟩⟩
    · rw [if_pos (Or.inl c)] at hq; exact hq
    · rw [if_neg (fun z => z.elim c c2)] at hq; exact hq
    · rw [if_pos (Or.inr c2)] at hq; exact hq
def plC (E : eT) (i : Nat) (x : Int32) (X : yT) : yT := (ce_mem E i).foldl (fun X k => plK x k X) X
theorem s_pl (hF : E.2.1 ≤ 12) {Q : zT → Prop} (h : Q (zs Z w (plC E i x1 X))) : v_X5_plantAll E w i x1 (zs Z w X) Q := by
  unfold v_X5_plantAll v_X5_plantAll_b0
  refine ⟨(ce_mem E i).length + 1, ?_⟩
  rw [nI_z]
  exact l_pl hF _ 0 _ (by omega) (by rw [List.drop_zero]; exact h)
def pbS (E : eT) (x day : Int32) (i : Nat) (p : Int32 × yT) : Int32 × yT := (p.1 / 3, if (p.1 - p.1 / 3 * 3) * 5 = day then plC E i x p.2 else p.2)
theorem l_pb (hF : E.2.1 ≤ 12) (hS : E.1 ≤ 3) {Q : zT → Prop} : ∀ (d j : Nat) (p : Int32 × yT), j + d = E.1 → Q (zs Z w (itd (pbS E x1 x2) j d p).2) → v_X2_plantByPlan_b6 E w Q (d + 1) x1 x2 p.1 (nI j) (zs Z w p.2) := by
  intro d
  induction d with
  | zero =>
    intro j p h hq
    have hj : j = E.1 := h
    subst hj
    unfold v_X2_plantByPlan_b6
    rw [itd_0] at hq
    simp only [forall_eq, nI_lei (show E.1 < 2147483648 by omega) (show E.1 < 2147483648 by omega), Nat.le_refl, forall_const, not_true_eq_false, false_implies, and_true]
    exact hq
  | succ d ih =>
    intro j p h hq
    unfold v_X2_plantByPlan_b6
    have h1 : j < 2147483648 := by omega
    have h2 : E.1 < 2147483648 := by omega
    have h3 : ¬ E.1 ≤ j := by omega
    have h4 : j < E.1 := by omega
    rw [itd_s] at hq
    have hq := ih (j + 1) _ (by omega) hq
    unfold pbS at hq
    simp only [forall_eq, nI_lei h2 h1, h3, h4, false_implies, true_and, nI_vp h1, nI_cl h1, not_false_eq_true, forall_const, ← nI_succ, v_X2_plantByPlan_b44]
    refine ⟨fun c => ?_, fun c => s_pl hF ?_⟩
    · simp only [c, if_false] at hq; exact hq
    · simp only [c, if_true] at hq; exact hq
def pbC (E : eT) (pl x day : Int32) (X : yT) : yT := (itd (pbS E x day) 0 E.1 (pl, X)).2
theorem s_pb (hF : E.2.1 ≤ 12) (hS : E.1 ≤ 3) {Q : zT → Prop} (h : Q (zs Z w (pbC E x1 x2 x3 X))) : v_X2_plantByPlan E w x1 x2 x3 (zs Z w X) Q := by
  unfold v_X2_plantByPlan v_X2_plantByPlan_b0
  refine ⟨E.1 + 1, ?_⟩
  rw [nI_z]
  exact l_pb hF hS _ 0 (x1, X) (by omega) h
/-- one day of a plan -/
def pdC (E : eT) (fl wa ra pl x : Int32) (j : Nat) (X : yT) : yT := passF E fl wa ra (pbC E pl x (nI j) X)
theorem l_yp (hF : E.2.1 ≤ 12) (hS : E.1 ≤ 3) {D : Nat} (hD : D < 1000) {Q : Int32 → zT → Prop} : ∀ (d j : Nat) (X : yT), j + d = D → (fun Y : yT => Q (syC E Y) (zs Z 1 Y)) (itd (pdC E (Z 0 65 0) (Z 0 66 0) (Z 0 67 0) x1 x2) j d X) → v_X6_yieldByPlan_b14 E Q (d + 1) x1 x2 (nI D) (nI j) (zs Z 1 X) := by
  intro d
  induction d with
  | zero =>
    intro j X h hq
    have hj : j = D := h
    subst hj
    unfold v_X6_yieldByPlan_b14
    rw [itd_0] at hq
    simp only [forall_eq, nI_lei (show j < 2147483648 by omega) (show j < 2147483648 by omega), Nat.le_refl, forall_const, not_true_eq_false, false_implies, and_true]
    refine s_sy hF ?_
    rw [zs_rd]
    exact hq
  | succ d ih =>
    intro j X h hq
    unfold v_X6_yieldByPlan_b14
    have h1 : j < 2147483648 := by omega
    have h2 : D < 2147483648 := by omega
    have h3 : ¬ D ≤ j := by omega
    rw [itd_s] at hq
    simp only [nI_lei h2 h1, h3, false_implies, true_and, not_false_eq_true, forall_const]
    refine s_pb hF hS ?_
    simp only [forall_eq, zs_r0, ← nI_succ]
    exact s_pass hS hF (ih (j + 1) _ (by omega) hq)
def ypC (E : eT) (M X : yT) (pl x : Int32) (D : Nat) : yT := itd (pdC E (M 65 0) (M 66 0) (M 67 0) pl x) 0 D (cpM E M X)
theorem s_yp (hF : E.2.1 ≤ 12) (hS : E.1 ≤ 3) (hb : ∀ k, k < E.2.1 → (Z 0 12 k = 0 ∨ Z 0 12 k = 1) ∧ (Z 0 16 k = 0 ∨ Z 0 16 k = 1)) (hs : ∀ i, i < E.1 → Z 0 38 i = 0 ∨ Z 0 38 i = 1) {D : Nat} (hD : D < 1000) {Q : Int32 → zT → Prop} (h : Q (syC E (ypC E (Z 0) X x1 x2 D)) (zs Z 1 (ypC E (Z 0) X x1 x2 D))) : v_X6_yieldByPlan E x1 x2 (nI D) (zs Z 1 X) Q := by
  unfold v_X6_yieldByPlan v_X6_yieldByPlan_b0
  refine c_copy hF hS hb hs ⟨D + 1, ?_⟩
  have := l_yp (Z := Z) (x1 := x1) (x2 := x2) (Q := Q) hF hS hD D 0 (cpM E (Z 0) X) (by omega) h
  rw [← nI_z] at this
  exact this
end
