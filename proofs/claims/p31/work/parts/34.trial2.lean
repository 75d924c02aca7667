section
variable {E : eT} {F : fT} {n : Nat} {M M1 N M' N' X Y : yT} {Z : zT} {x1 x2 x3 : Int32} {k i w : Nat}
def riC (E : eT) (fl wa ra c : Int32) : Nat → Nat → yT → Int32 × yT
  | 0, _, X => (-1, X)
  | d + 1, j, X => if crC E (passF E fl wa ra X) ≤ c then riC E fl wa ra c d (j + 1) (passF E fl wa ra X) else (nI j, passF E fl wa ra X)
theorem l_ri (hF : E.2.1 ≤ 12) (hS : E.1 ≤ 3) {D : Nat} (hD : D < 1000) {Q : Int32 → zT → Prop} : ∀ (d j : Nat) (X : yT), j + d = D + 1 → (fun p : Int32 × yT => Q p.1 (zs Z 1 p.2)) (riC E (Z 0 65 0) (Z 0 66 0) (Z 0 67 0) x1 d j X) → v_X6_ripeIn_b27 E Q (d + 1) (nI D) x1 (nI j) (zs Z 1 X) := by
  intro d
  induction d with
  | zero =>
    intro j X h hq
    have hj : j = D + 1 := h
    subst hj
    unfold v_X6_ripeIn_b27
    simp only [nI_lti (show D < 2147483648 by omega) (show D + 1 < 2147483648 by omega), Nat.lt_succ_self, forall_const, not_true_eq_false, false_implies, and_true]
    exact hq
  | succ d ih =>
    intro j X h hq
    unfold v_X6_ripeIn_b27
    have h3 : ¬ D < j := by omega
    simp only [riC] at hq
    simp only [nI_lti (show D < 2147483648 by omega) (show j < 2147483648 by omega), h3, false_implies, true_and, not_false_eq_true, forall_const, forall_eq, zs_r0, ← nI_succ]
    refine s_pass hS hF (s_cr hF ?_)
    rw [zs_rd]
    refine ⟨fun c => ?_, fun c => ?_⟩
    · rw [if_pos c] at hq; exact ih (j + 1) _ (by omega) hq
    · rw [if_neg c] at hq; exact hq
theorem s_ri (hF : E.2.1 ≤ 12) (hS : E.1 ≤ 3) (hb : ∀ k, k < E.2.1 → (Z 0 12 k = 0 ∨ Z 0 12 k = 1) ∧ (Z 0 16 k = 0 ∨ Z 0 16 k = 1)) (hs : ∀ i, i < E.1 → Z 0 38 i = 0 ∨ Z 0 38 i = 1) {D : Nat} (hD1 : 1 ≤ D) (hD : D ≤ 40) {Q : Int32 → zT → Prop} (h : (fun p : Int32 × yT => Q p.1 (zs Z 1 p.2)) (riC E (Z 0 65 0) (Z 0 66 0) (Z 0 67 0) (crC E (Z 0)) D 1 (cpM E (Z 0) X))) : v_X6_ripeIn E (nI D) (zs Z 1 X) Q := by
  have hD3 : (nI D).toInt = D := ti_nI (by omega)
  have l1 : (1 : Int32).toInt = 1 := rfl
  have l40 : (40 : Int32).toInt = 40 := rfl
  have hi : isw (nI D) 1 40 = 1 := by
    unfold isw
    rw [if_neg (by rw [ti_lt, hD3, l1]; omega), if_neg (by rw [ti_lt, hD3, l40]; omega)]
  simp only [v_X6_ripeIn, v_X6_ripeIn_b0, v_X6_checkDays, v_X6_checkDays_b0, e_isw, hi, show ¬ (1 : Int32) = 0 by decide, not_false_eq_true, forall_const, false_implies, and_true]
  refine c_copy hF hS hb hs (s_cr hF ⟨D + 1, ?_⟩)
  rw [zs_r0]
  exact l_ri hF hS (by omega) D 1 _ (by omega) h
/-! the best plan -/
def plS2 (E : eT) (M : yT) (x : Int32) (D : Nat) (j : Nat) (p : Int32 × Int32 × yT) : Int32 × Int32 × yT :=
  (fun Y : yT => if syC E Y ≤ p.2.1 then (p.1, p.2.1, Y) else (nI j, syC E Y, Y)) (ypC E M p.2.2 (nI j) x D)
theorem l_pn (hF : E.2.1 ≤ 12) (hS : E.1 ≤ 3) (hb : ∀ k, k < E.2.1 → (Z 0 12 k = 0 ∨ Z 0 12 k = 1) ∧ (Z 0 16 k = 0 ∨ Z 0 16 k = 1)) (hs : ∀ i, i < E.1 → Z 0 38 i = 0 ∨ Z 0 38 i = 1) {D P : Nat} (hD : D < 1000) (hP : P < 1000) {Q : Int32 → zT → Prop} : ∀ (d j : Nat) (p : Int32 × Int32 × yT), j + d = P → (fun q : Int32 × Int32 × yT => Q q.1 (zs Z 1 q.2.2)) (itd (plS2 E (Z 0) x1 D) j d p) → v_X6_plan_b49 E Q (d + 1) x1 (nI D) (nI P) p.1 p.2.1 (nI j) (zs Z 1 p.2.2) := by
  intro d
  induction d with
  | zero =>
    intro j p h hq
    have hj : j = P := h
    subst hj
    unfold v_X6_plan_b49
    rw [itd_0] at hq
    simp only [nI_lei (show j < 2147483648 by omega) (show j < 2147483648 by omega), Nat.le_refl, forall_const, not_true_eq_false, false_implies, and_true]
    exact hq
  | succ d ih =>
    intro j p h hq
    unfold v_X6_plan_b49
    have h3 : ¬ P ≤ j := by omega
    rw [itd_s] at hq
    have hq := ih (j + 1) _ (by omega) hq
    unfold plS2 at hq
    simp only [nI_lei (show P < 2147483648 by omega) (show j < 2147483648 by omega), h3, false_implies, true_and, not_false_eq_true, forall_const]
    refine s_yp hF hS hb hs hD ?_
    simp only [v_X6_plan_b80, forall_eq, ← nI_succ]
    refine ⟨fun c => ?_, fun c => ?_⟩
    · simp only [c, if_true] at hq; exact hq
    · simp only [c, if_false] at hq; exact hq
def plV (E : eT) (M : yT) (x : Int32) (D : Nat) (X : yT) : Int32 × Int32 × yT := itd (plS2 E M x D) 0 (3 ^ E.1) (0, -1, X)
theorem l_p3 {Q : Int32 → zT → Prop} (hS : E.1 ≤ 3) (h : ∃ n9 : Nat, v_X6_plan_b49 E Q n9 x1 x2 (nI (3 ^ E.1)) (0 : Int32) (-1 : Int32) (0 : Int32) Z) : ∀ (d j : Nat), j + d = E.1 → v_X6_plan_b15 E Q (d + 1) x1 x2 (nI (3 ^ j)) (nI j) Z := by
  intro d
  induction d with
  | zero =>
    intro j hj
    have hj : j = E.1 := hj
    subst hj
    unfold v_X6_plan_b15
    simp only [forall_eq, nI_lei (show E.1 < 2147483648 by omega) (show E.1 < 2147483648 by omega), Nat.le_refl, forall_const, not_true_eq_false, false_implies, and_true]
    exact h
  | succ d ih =>
    intro j hj
    unfold v_X6_plan_b15
    have h3 : ¬ E.1 ≤ j := by omega
    have e : nI (3 ^ j) * 3 = nI (3 ^ (j + 1)) := by
      have hj3 : j = 0 ∨ j = 1 ∨ j = 2 := by omega
      rcases hj3 with z | z | z <;> subst z <;> decide
    simp only [forall_eq, nI_lei (show E.1 < 2147483648 by omega) (show j < 2147483648 by omega), h3, false_implies, true_and, not_false_eq_true, forall_const, e, ← nI_succ]
    exact ih (j + 1) (by omega)
theorem s_pn (hF : E.2.1 ≤ 12) (hS : E.1 ≤ 3) (hb : ∀ k, k < E.2.1 → (Z 0 12 k = 0 ∨ Z 0 12 k = 1) ∧ (Z 0 16 k = 0 ∨ Z 0 16 k = 1)) (hs : ∀ i, i < E.1 → Z 0 38 i = 0 ∨ Z 0 38 i = 1) (hx : ¬ isw x1 0 2 = 0) {D : Nat} (hD1 : 1 ≤ D) (hD : D ≤ 30) {Q : Int32 → zT → Prop} (h : (fun q : Int32 × Int32 × yT => Q q.1 (zs Z 1 q.2.2)) (plV E (Z 0) x1 D X)) : v_X6_plan E x1 (nI D) (zs Z 1 X) Q := by
  have hD3 : (nI D).toInt = D := ti_nI (by omega)
  have l1 : (1 : Int32).toInt = 1 := rfl
  have l30 : (30 : Int32).toInt = 30 := rfl
  have hi : isw (nI D) 1 30 = 1 := by
    unfold isw
    rw [if_neg (by rw [ti_lt, hD3, l1]; omega), if_neg (by rw [ti_lt, hD3, l30]; omega)]
  have hP : 3 ^ E.1 ≤ 27 := by
    have : E.1 = 0 ∨ E.1 = 1 ∨ E.1 = 2 ∨ E.1 = 3 := by omega
    rcases this with z | z | z | z <;> rw [z] <;> decide
  simp only [v_X6_plan, v_X6_plan_b0, v_X6_checkKind, v_X6_checkKind_b0, v_X6_checkDays, v_X6_checkDays_b0, e_isw, hi, hx, show ¬ (1 : Int32) = 0 by decide, not_false_eq_true, forall_const, false_implies, and_true]
  refine ⟨E.1 + 1, ?_⟩
  have := l_p3 (x1 := x1) (x2 := nI D) (Z := zs Z 1 X) (Q := Q) hS ⟨3 ^ E.1 + 1, by
    have := l_pn (Z := Z) (x1 := x1) (Q := Q) hF hS hb hs (D := D) (P := 3 ^ E.1) (by omega) (by omega) (3 ^ E.1) 0 (0, -1, X) (by omega) h
    rw [← nI_z] at this
    exact this⟩ E.1 0 (by omega)
  rw [show nI (3 ^ 0) = 1 by decide, ← nI_z] at this
  exact this
/-! the digest -/
def mxI (d : Int64) (v : Int32) : Int64 := d * 31 + Int32.toInt64 v
theorem e_mx {d : Int64} {v : Int32} {Q : Int64 → zT → Prop} : v_X6_mix E d v Z Q = Q (mxI d v) Z := e_mix
def dg1 (E : eT) (M : yT) (d : Int64) : Int64 := itd (fun j d => mxI d (manC E M (nI j))) 0 12 d
def dg2 (E : eT) (M : yT) (d : Int64) : Int64 := itd (fun j d => mxI d (watC E M (nI j))) 0 7 d
def dgS (E : eT) (M : yT) (i : Nat) (d : Int64) : Int64 := mxI (itd (fun j d => mxI d (socC E M i (nI j))) 0 9 d) (onI (susC E M i))
def dgF (E : eT) (M X : yT) (k : Nat) (d : Int64) : Int64 := mxI (mxI (mxI (itd (fun j d => mxI d (ownC M k (nI j))) 0 4 (itd (fun j d => mxI d (fldC E M k (nI j))) 0 14 d)) (thoC M k 0)) (thoC M k 1)) (ryC X k)
theorem l_dgF2 (hF : E.2.1 ≤ 12) (hv : vp_in x1 E.2.1) {Q : Int64 → zT → Prop} : ∀ (d j : Nat) (s : Int64), j + d = 4 → v_X6_mixField_b36 E Q (d + 1) x1 s (nI j) Z = Q (mxI (mxI (mxI (itd (fun j d => mxI d (ownC (Z 0) (Int32.toNatClampNeg x1) (nI j))) j d s) (thoC (Z 0) (Int32.toNatClampNeg x1) 0)) (thoC (Z 0) (Int32.toNatClampNeg x1) 1)) (ryC (Z 1) (Int32.toNatClampNeg x1))) Z := by
  intro d
  induction d with
  | zero =>
    intro j s h
    have hj : j = 4 := h
    subst hj
    unfold v_X6_mixField_b36
    simp only [show (3 : Int32) < nI 4 by decide, forall_const, not_true_eq_false, false_implies, and_true, c_thought hF hv, e_mx, c_yieldOf hF hv, itd_0]
  | succ d ih =>
    intro j s h
    unfold v_X6_mixField_b36
    have h3 : ¬ (3 : Int32) < nI j := by
      have l3 : (3 : Int32).toInt = 3 := rfl
      rw [ti_lt, l3, ti_nI (by omega)]; omega
    have hx : 0 ≤ (nI j).toInt ∧ (nI j).toInt ≤ 3 := by rw [ti_nI (by omega)]; omega
    simp only [h3, false_implies, true_and, not_false_eq_true, forall_const, c_ofOwner hF hv hx, e_mx, forall_eq, ← nI_succ, ih (j + 1) _ (by omega), itd_s]
theorem l_dgF1 (hF : E.2.1 ≤ 12) (hv : vp_in x1 E.2.1) {Q : Int64 → zT → Prop} : ∀ (d j : Nat) (s : Int64), j + d = 14 → Q (mxI (mxI (mxI (itd (fun j d => mxI d (ownC (Z 0) (Int32.toNatClampNeg x1) (nI j))) 0 4 (itd (fun j d => mxI d (fldC E (Z 0) (Int32.toNatClampNeg x1) (nI j))) j d s)) (thoC (Z 0) (Int32.toNatClampNeg x1) 0)) (thoC (Z 0) (Int32.toNatClampNeg x1) 1)) (ryC (Z 1) (Int32.toNatClampNeg x1))) Z → v_X6_mixField_b6 E Q (d + 1) x1 s (nI j) Z := by
  intro d
  induction d with
  | zero =>
    intro j s h hq
    have hj : j = 14 := h
    subst hj
    unfold v_X6_mixField_b6
    simp only [show (13 : Int32) < nI 14 by decide, forall_const, not_true_eq_false, false_implies, and_true]
    refine ⟨5, ?_⟩
    rw [nI_z, l_dgF2 hF hv 4 0 _ (by omega)]
    exact hq
  | succ d ih =>
    intro j s h hq
    unfold v_X6_mixField_b6
    have h3 : ¬ (13 : Int32) < nI j := by
      have l3 : (13 : Int32).toInt = 13 := rfl
      rw [ti_lt, l3, ti_nI (by omega)]; omega
    have hx : 0 ≤ (nI j).toInt ∧ (nI j).toInt ≤ 13 := by rw [ti_nI (by omega)]; omega
    rw [itd_s] at hq
    simp only [h3, false_implies, true_and, not_false_eq_true, forall_const, c_ofField hF hv hx, e_mx, forall_eq, ← nI_succ]
    exact ih (j + 1) _ (by omega) hq
theorem s_dgF (hF : E.2.1 ≤ 12) (hv : vp_in x1 E.2.1) {d : Int64} {Q : Int64 → zT → Prop} (h : Q (dgF E (Z 0) (Z 1) (Int32.toNatClampNeg x1) d) Z) : v_X6_mixField E d x1 Z Q := by
  unfold v_X6_mixField v_X6_mixField_b0
  refine ⟨15, ?_⟩
  rw [nI_z]
  exact l_dgF1 hF hv 14 0 d (by omega) h
theorem l_dgS (hF : E.2.1 ≤ 12) (hS : E.1 ≤ 3) (hv : vp_in x1 E.1) {Q : Int64 → zT → Prop} : ∀ (d j : Nat) (s : Int64), j + d = 9 → Q (mxI (itd (fun j d => mxI d (socC E (Z 0) (Int32.toNatClampNeg x1) (nI j))) j d s) (onI (susC E (Z 0) (Int32.toNatClampNeg x1)))) Z → v_X6_mixSociety_b6 E Q (d + 1) x1 s (nI j) Z := by
  intro d
  induction d with
  | zero =>
    intro j s h hq
    have hj : j = 9 := h
    subst hj
    unfold v_X6_mixSociety_b6
    simp only [show (8 : Int32) < nI 9 by decide, forall_const, not_true_eq_false, false_implies, and_true]
    refine c_suspect hS hF hv ?_
    rw [e_mx]
    exact hq
  | succ d ih =>
    intro j s h hq
    unfold v_X6_mixSociety_b6
    have h3 : ¬ (8 : Int32) < nI j := by
      have l3 : (8 : Int32).toInt = 8 := rfl
      rw [ti_lt, l3, ti_nI (by omega)]; omega
    have hx : 0 ≤ (nI j).toInt ∧ (nI j).toInt ≤ 8 := by rw [ti_nI (by omega)]; omega
    rw [itd_s] at hq
    simp only [h3, false_implies, true_and, not_false_eq_true, forall_const]
    refine c_ofSociety hF hS hv hx ?_
    simp only [e_mx, forall_eq, ← nI_succ]
    exact ih (j + 1) _ (by omega) hq
theorem s_dgS (hF : E.2.1 ≤ 12) (hS : E.1 ≤ 3) (hv : vp_in x1 E.1) {d : Int64} {Q : Int64 → zT → Prop} (h : Q (dgS E (Z 0) (Int32.toNatClampNeg x1) d) Z) : v_X6_mixSociety E d x1 Z Q := by
  unfold v_X6_mixSociety v_X6_mixSociety_b0
  refine ⟨10, ?_⟩
  rw [nI_z]
  exact l_dgS hF hS hv 9 0 d (by omega) h
/-- behind the fields -/
def dgE (E : eT) (M X : yT) (d : Int64) : Int64 × yT :=
  (fun p : Int32 × yT => (fun q : Int32 × Int32 × yT => (mxI (mxI d p.1) q.1, q.2.2)) (plV E M 0 12 p.2)) (riC E (M 65 0) (M 66 0) (M 67 0) (crC E M) 10 1 (cpM E M X))
theorem l_dg100 (hF : E.2.1 ≤ 12) (hS : E.1 ≤ 3) (hb : ∀ k, k < E.2.1 → (Z 0 12 k = 0 ∨ Z 0 12 k = 1) ∧ (Z 0 16 k = 0 ∨ Z 0 16 k = 1)) (hs : ∀ i, i < E.1 → Z 0 38 i = 0 ∨ Z 0 38 i = 1) {Q : Int64 → zT → Prop} : ∀ (d j : Nat) (s : Int64), j + d = E.2.1 → (fun p : Int64 × yT => Q p.1 (zs Z 1 p.2)) (dgE E (Z 0) X (itd (dgF E (Z 0) X) j d s)) → v_X6_digest_b100 E Q (d + 1) s (nI j) (zs Z 1 X) := by
  intro d
  induction d with
  | zero =>
    intro j s h hq
    have hj : j = E.2.1 := h
    subst hj
    unfold v_X6_digest_b100
    rw [itd_0] at hq
    simp only [forall_eq, nI_lei (show E.2.1 < 2147483648 by omega) (show E.2.1 < 2147483648 by omega), Nat.le_refl, forall_const, not_true_eq_false, false_implies, and_true]
    rw [show (10 : Int32) = nI 10 by decide, show (12 : Int32) = nI 12 by decide]
    refine s_ri hF hS hb hs (by omega) (by omega) ?_
    show v_X6_mix E s _ (zs Z 1 _) _
    rw [e_mx]
    refine s_pn hF hS hb hs (by decide) (by omega) (by omega) ?_
    show v_X6_mix E _ _ (zs Z 1 _) _
    rw [e_mx]
    exact hq
  | succ d ih =>
    intro j s h hq
    unfold v_X6_digest_b100
    have h1 : j < 2147483648 := by omega
    have h3 : ¬ E.2.1 ≤ j := by omega
    have hv : vp_in (nI j) E.2.1 := by rw [nI_vp h1]; omega
    rw [itd_s] at hq
    simp only [forall_eq, nI_lei (show E.2.1 < 2147483648 by omega) h1, h3, false_implies, true_and, not_false_eq_true, forall_const]
    refine s_dgF hF hv ?_
    rw [nI_cl h1, zs_r0, zs_rd]
    simp only [← nI_succ]
    exact ih (j + 1) _ (by omega) hq
theorem l_dg66 (hF : E.2.1 ≤ 12) (hS : E.1 ≤ 3) (hb : ∀ k, k < E.2.1 → (Z 0 12 k = 0 ∨ Z 0 12 k = 1) ∧ (Z 0 16 k = 0 ∨ Z 0 16 k = 1)) (hs : ∀ i, i < E.1 → Z 0 38 i = 0 ∨ Z 0 38 i = 1) {Q : Int64 → zT → Prop} : ∀ (d j : Nat) (s : Int64), j + d = E.1 → (fun Y : yT => (fun p : Int64 × yT => Q p.1 (zs Z 1 p.2)) (dgE E (Z 0) Y (itd (dgF E (Z 0) Y) 0 E.2.1 (itd (dgS E (Z 0)) j d s)))) (pF E (Z 0 65 0) (Z 0 66 0) (Z 0 67 0) 5 (cpM E (Z 0) X)) → v_X6_digest_b66 E Q (d + 1) s (nI j) (zs Z 1 X) := by
  intro d
  induction d with
  | zero =>
    intro j s h hq
    have hj : j = E.1 := h
    subst hj
    unfold v_X6_digest_b66
    rw [itd_0] at hq
    simp only [forall_eq, nI_lei (show E.1 < 2147483648 by omega) (show E.1 < 2147483648 by omega), Nat.le_refl, forall_const, not_true_eq_false, false_implies, and_true]
    rw [show (5 : Int32) = nI 5 by decide]
    refine s_try hF hS hb hs (by omega) ⟨E.2.1 + 1, ?_⟩
    rw [nI_z]
    exact l_dg100 hF hS hb hs _ 0 s (by omega) hq
  | succ d ih =>
    intro j s h hq
    unfold v_X6_digest_b66
    have h1 : j < 2147483648 := by omega
    have h3 : ¬ E.1 ≤ j := by omega
    have hv : vp_in (nI j) E.1 := by rw [nI_vp h1]; omega
    rw [itd_s] at hq
    simp only [forall_eq, nI_lei (show E.1 < 2147483648 by omega) h1, h3, false_implies, true_and, not_false_eq_true, forall_const]
    refine s_dgS hF hS hv ?_
    rw [nI_cl h1, zs_r0]
    simp only [← nI_succ]
    exact ih (j + 1) _ (by omega) hq
def dg3 (E : eT) (M : yT) (d : Int64) : Int64 := itd (dgS E M) 0 E.1 (mxI (dg2 E M (dg1 E M d)) (if cloC E M = 0 then 0 else 1))
def dgC (E : eT) (M X : yT) : Int64 × yT := (fun Y : yT => dgE E M Y (itd (dgF E M Y) 0 E.2.1 (dg3 E M 58173))) (pF E (M 65 0) (M 66 0) (M 67 0) 5 (cpM E M X))
theorem l_dg30 (hF : E.2.1 ≤ 12) (hS : E.1 ≤ 3) {Q : Int64 → zT → Prop} : ∀ (d j : Nat) (s : Int64), j + d = 7 → (∃ n9 : Nat, v_X6_digest_b66 E Q n9 (mxI (itd (fun j d => mxI d (watC E (Z 0) (nI j))) j d s) (if cloC E (Z 0) = 0 then 0 else 1)) (0 : Int32) Z) → v_X6_digest_b30 E Q (d + 1) s (nI j) Z := by
  intro d
  induction d with
  | zero =>
    intro j s h hq
    have hj : j = 7 := h
    subst hj
    unfold v_X6_digest_b30
    rw [itd_0] at hq
    simp only [show (6 : Int32) < nI 7 by decide, forall_const, not_true_eq_false, false_implies, and_true]
    refine c_closed hF hS ?_
    rw [e_oneIf, e_mx]
    exact hq
  | succ d ih =>
    intro j s h hq
    unfold v_X6_digest_b30
    have h3 : ¬ (6 : Int32) < nI j := by
      have l3 : (6 : Int32).toInt = 6 := rfl
      rw [ti_lt, l3, ti_nI (by omega)]; omega
    have hx : 0 ≤ (nI j).toInt ∧ (nI j).toInt ≤ 6 := by rw [ti_nI (by omega)]; omega
    rw [itd_s] at hq
    simp only [h3, false_implies, true_and, not_false_eq_true, forall_const]
    refine c_water hF hS hx ?_
    simp only [e_mx, forall_eq, ← nI_succ]
    exact ih (j + 1) _ (by omega) hq
theorem l_dg6 (hF : E.2.1 ≤ 12) (hS : E.1 ≤ 3) {Q : Int64 → zT → Prop} : ∀ (d j : Nat) (s : Int64), j + d = 12 → (∃ n9 : Nat, v_X6_digest_b66 E Q n9 (mxI (dg2 E (Z 0) (itd (fun j d => mxI d (manC E (Z 0) (nI j))) j d s)) (if cloC E (Z 0) = 0 then 0 else 1)) (0 : Int32) Z) → v_X6_digest_b6 E Q (d + 1) s (nI j) Z := by
  intro d
  induction d with
  | zero =>
    intro j s h hq
    have hj : j = 12 := h
    subst hj
    unfold v_X6_digest_b6
    rw [itd_0] at hq
    simp only [show (11 : Int32) < nI 12 by decide, forall_const, not_true_eq_false, false_implies, and_true]
    refine ⟨8, ?_⟩
    rw [nI_z]
    exact l_dg30 hF hS 7 0 s (by omega) hq
  | succ d ih =>
    intro j s h hq
    unfold v_X6_digest_b6
    have h3 : ¬ (11 : Int32) < nI j := by
      have l3 : (11 : Int32).toInt = 11 := rfl
      rw [ti_lt, l3, ti_nI (by omega)]; omega
    have hx : 0 ≤ (nI j).toInt ∧ (nI j).toInt ≤ 11 := by rw [ti_nI (by omega)]; omega
    rw [itd_s] at hq
    simp only [h3, false_implies, true_and, not_false_eq_true, forall_const]
    refine c_many hF hS hx ?_
    simp only [e_mx, forall_eq, ← nI_succ]
    exact ih (j + 1) _ (by omega) hq
theorem s_dg (hF : E.2.1 ≤ 12) (hS : E.1 ≤ 3) (hb : ∀ k, k < E.2.1 → (Z 0 12 k = 0 ∨ Z 0 12 k = 1) ∧ (Z 0 16 k = 0 ∨ Z 0 16 k = 1)) (hs : ∀ i, i < E.1 → Z 0 38 i = 0 ∨ Z 0 38 i = 1) {Q : Int64 → zT → Prop} (h : (fun p : Int64 × yT => Q p.1 (zs Z 1 p.2)) (dgC E (Z 0) X)) : v_X6_digest E (zs Z 1 X) Q := by
  unfold v_X6_digest v_X6_digest_b0
  refine ⟨13, ?_⟩
  have h66 := l_dg66 (Z := Z) (X := X) (Q := Q) hF hS hb hs E.1 0 (mxI (dg2 E (Z 0) (dg1 E (Z 0) 58173)) (if cloC E (Z 0) = 0 then 0 else 1)) (by omega) h
  rw [← nI_z] at h66
  have := l_dg6 (Z := zs Z 1 X) (Q := Q) hF hS 12 0 58173 (by omega) ⟨E.1 + 1, by
    rw [zs_r0]
    exact h66⟩
  rw [← nI_z] at this
  exact this
end
