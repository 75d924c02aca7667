theorem div_num {a b : Int32} (hb : ¬ b = 0) : vf_n64 (FP.ddiv (FP.i2d a) (FP.i2d b)) := by
  have h : FP.Core.dIsNaN (FP.ddiv (FP.i2d a) (FP.i2d b)) = false := FP.Core.ddiv_out (FP.Core.i2d_fin a).notNaN (FP.Core.i2d_fin b) (fun z => FP.Core.i2d_ne_zero hb ((FP.Core.zero_bits2 _).mp z))
  have h2 : ¬ 9218868437227405312 < (FP.ddiv (FP.i2d a) (FP.i2d b)).toNat % 2 ^ 63 := fun z => by
    have := (FP.Core.isNaN_bits _).mpr z
    rw [h] at this
    cases this
  unfold vf_n64
  rw [UInt64.le_iff_toNat_le, UInt64.toNat_and]
  have e1 : (0x7fffffffffffffff : UInt64).toNat = 2 ^ 63 - 1 := rfl
  have e2 : (0x7ff0000000000000 : UInt64).toNat = 9218868437227405312 := rfl
  rw [e1, e2, Nat.and_two_pow_sub_one_eq_mod]
  omega
section
variable {E : eT} {F : fT} {n : Nat} {M M1 N M' N' : yT} {Z : zT} {x1 x2 x3 : Int32} {k i w : Nat}
def mwC (E : eT) (M : yT) (i : Nat) : Int32 := (ce_mem E i).foldl (fun s k => s + M 1 k) 0
def mnC (E : eT) (M : yT) (i : Nat) : UInt64 := if nI (ce_mem E i).length = 0 then FP.dconst0 else FP.ddiv (FP.i2d (mwC E M i)) (FP.i2d (nI (ce_mem E i).length))
def mwR (F : fT) (N : yT) (x : Int32) : Int32 := itd (fun k s => s + if N 0 k = x then N 1 k else 0) 0 F.2.1 0
def RESd (E : eT) (n : Nat) (Z : zT) (N : yT) (cl : (UInt64 → zT → Prop) → Prop) (clT : (String → zT → Prop) → Prop) (rf : (UInt64 → yT → Prop) → Prop) (exs : List String) : Prop :=
  (∃ (v : UInt64) (Z' : zT) (N' : yT), (∀ Q : UInt64 → zT → Prop, Q v Z' → cl Q) ∧ (∀ Q : UInt64 → yT → Prop, Q v N' → rf Q) ∧ N' 80 0 = 0 ∧ LI E n Z' N') ∨
  (∃ (c : Nat) (ex : String) (u : UInt64) (N' : yT), exs[c]? = some ex ∧ (∀ Q : String → zT → Prop, Q ex Z → clT Q) ∧ (∀ Q : UInt64 → yT → Prop, Q u N' → rf Q) ∧ N' 80 0 = nI (c + 1) ∧ LI E n Z N')
/-! the system's other answers -/
def ownC (M : yT) (k : Nat) (x : Int32) : Int32 := if x = 0 then M 17 k else if x = 1 then M 18 k else if x = 2 then M 19 k else (if 0 ≤ M 17 k then 0 else 1)
theorem c_ofOwner (hF : E.2.1 ≤ 12) (hv : vp_in x1 E.2.1) (hx : 0 ≤ x2.toInt ∧ x2.toInt ≤ 3) {Q : Int32 → zT → Prop} : v_X6_ofOwner E x1 x2 Z Q = Q (ownC (Z 0) (Int32.toNatClampNeg x1) x2) Z := by
  have n1 : ¬ (1 : Int32) = 0 := by decide
  have hx4 : x2 = 0 ∨ x2 = 1 ∨ x2 = 2 ∨ x2 = 3 := by
    have l0 : (0 : Int32).toInt = 0 := rfl
    have l1 : (1 : Int32).toInt = 1 := rfl
    have l2 : (2 : Int32).toInt = 2 := rfl
    have l3 : (3 : Int32).toInt = 3 := rfl
    simp only [ti_eq, l0, l1, l2, l3]; omega
  simp only [v_X6_ofOwner, v_X6_ofOwner_b0, c_fieldAt hF hv, forall_eq, e_excl, e_oneIf, ownC]
  rcases hx4 with e | e | e | e <;> subst e <;> by_cases c : 0 ≤ Z 0 17 (Int32.toNatClampNeg x1) <;> simp [c]
def socC (E : eT) (M : yT) (i : Nat) (x : Int32) : Int32 := if x = 0 then M 34 i else if x = 1 then M 35 i else if x = 2 then M 36 i else if x = 3 then M 37 i else if x = 4 then (if M 35 i ≤ fmod (fmod (M 64 0) 210 - M 34 i) 210 then 0 else 1) else if x = 5 then M 40 i else if x = 6 then nI (ce_mem E i).length else if x = 7 then M 41 i else onI (nxC E M i)
theorem c_ofSociety (hF : E.2.1 ≤ 12) (hS : E.1 ≤ 3) (hv : vp_in x1 E.1) (hx : 0 ≤ x2.toInt ∧ x2.toInt ≤ 8) {Q : Int32 → zT → Prop} (h : Q (socC E (Z 0) (Int32.toNatClampNeg x1) x2) Z) : v_X6_ofSociety E x1 x2 Z Q := by
  have n1 : ¬ (1 : Int32) = 0 := by decide
  unfold socC at h
  simp only [v_X6_ofSociety, v_X6_ofSociety_b0, c_societyAt hS hv, forall_eq, e_templeDay, e_openOn, e_oneIf, e_num]
  by_cases e8 : x2 = 8
  · subst e8
    have h : Q (onI (nxC E (Z 0) (Int32.toNatClampNeg x1))) Z := h
    refine ⟨fun z => absurd z (by decide), fun z => absurd z (by decide), fun z => absurd z (by decide), fun z => absurd z (by decide), fun z => absurd z (by decide), fun z => absurd z (by decide), fun z => absurd z (by decide), fun z => absurd z (by decide), fun _ => s_next hF h, fun z => absurd rfl z.2.2.2.2.2.2.2.2⟩
  · rcases val14 (show 0 ≤ x2.toInt ∧ x2.toInt ≤ 13 by omega) with e | e | e | e | e | e | e | e | e | e | e | e | e | e <;> subst e
    · simpa using h
    · simpa using h
    · simpa using h
    · simpa using h
    · by_cases c : Z 0 35 (Int32.toNatClampNeg x1) ≤ fmod (fmod (Z 0 64 0) 210 - Z 0 34 (Int32.toNatClampNeg x1)) 210 <;> simp [c] at h ⊢ <;> exact h
    · simpa using h
    · simpa using h
    · simpa using h
    · exact absurd rfl e8
    · exact absurd hx.2 (by decide)
    · exact absurd hx.2 (by decide)
    · exact absurd hx.2 (by decide)
    · exact absurd hx.2 (by decide)
    · exact absurd hx.2 (by decide)
def sumF (E : eT) (M : yT) (x : Int32) : Int32 := itd (fun k s => s + fldC E M k x) 0 E.2.1 0
theorem l_sumF (hF : E.2.1 ≤ 12) (hx : 0 ≤ x1.toInt ∧ x1.toInt ≤ 13) {Q : Int32 → zT → Prop} : ∀ (d j : Nat) (s : Int32), j + d = E.2.1 → v_X6_sumOfFields_b4 E Q (d + 1) x1 s (nI j) Z = Q (itd (fun k s => s + fldC E (Z 0) k x1) j d s) Z := by
  intro d
  induction d with
  | zero =>
    intro j s h
    have hj : j = E.2.1 := h
    subst hj
    unfold v_X6_sumOfFields_b4
    simp [itd, nI_lei]
  | succ d ih =>
    intro j s h
    unfold v_X6_sumOfFields_b4
    have h1 : j < 2147483648 := by omega
    have h2 : E.2.1 < 2147483648 := by omega
    have h3 : ¬ E.2.1 ≤ j := by omega
    have h4 : j < E.2.1 := by omega
    have hv : vp_in (nI j) E.2.1 := by rw [nI_vp h1]; exact h4
    simp only [forall_eq, nI_lei h2 h1, h3, false_implies, true_and, not_false_eq_true, forall_const, ← nI_succ, c_ofField hF hv hx, nI_cl h1, ih (j + 1) _ (by omega), itd_s]
theorem s_sumF (hF : E.2.1 ≤ 12) (hx : 0 ≤ x1.toInt ∧ x1.toInt ≤ 13) {Q : Int32 → zT → Prop} (h : Q (sumF E (Z 0) x1) Z) : v_X6_sumOfFields E x1 Z Q := by
  unfold v_X6_sumOfFields v_X6_sumOfFields_b0
  refine ⟨E.2.1 + 1, ?_⟩
  rw [nI_z, l_sumF hF hx _ 0 _ (by omega)]
  exact h
def sumO (E : eT) (M : yT) (x : Int32) : Int32 := itd (fun k s => s + ownC M k x) 0 E.2.1 0
theorem l_sumO (hF : E.2.1 ≤ 12) (hx : 0 ≤ x1.toInt ∧ x1.toInt ≤ 3) {Q : Int32 → zT → Prop} : ∀ (d j : Nat) (s : Int32), j + d = E.2.1 → v_X6_sumOfOwners_b4 E Q (d + 1) x1 s (nI j) Z = Q (itd (fun k s => s + ownC (Z 0) k x1) j d s) Z := by
  intro d
  induction d with
  | zero =>
    intro j s h
    have hj : j = E.2.1 := h
    subst hj
    unfold v_X6_sumOfOwners_b4
    simp [itd, nI_lei]
  | succ d ih =>
    intro j s h
    unfold v_X6_sumOfOwners_b4
    have h1 : j < 2147483648 := by omega
    have h2 : E.2.1 < 2147483648 := by omega
    have h3 : ¬ E.2.1 ≤ j := by omega
    have h4 : j < E.2.1 := by omega
    have hv : vp_in (nI j) E.2.1 := by rw [nI_vp h1]; exact h4
    simp only [forall_eq, nI_lei h2 h1, h3, false_implies, true_and, not_false_eq_true, forall_const, ← nI_succ, c_ofOwner hF hv hx, nI_cl h1, ih (j + 1) _ (by omega), itd_s]
theorem s_sumO (hF : E.2.1 ≤ 12) (hx : 0 ≤ x1.toInt ∧ x1.toInt ≤ 3) {Q : Int32 → zT → Prop} (h : Q (sumO E (Z 0) x1) Z) : v_X6_sumOfOwners E x1 Z Q := by
  unfold v_X6_sumOfOwners v_X6_sumOfOwners_b0
  refine ⟨E.2.1 + 1, ?_⟩
  rw [nI_z, l_sumO hF hx _ 0 _ (by omega)]
  exact h
def sumS (E : eT) (M : yT) (x : Int32) : Int32 := itd (fun i s => s + socC E M i x) 0 E.1 0
theorem l_sumS (hF : E.2.1 ≤ 12) (hS : E.1 ≤ 3) (hx : 0 ≤ x1.toInt ∧ x1.toInt ≤ 8) {Q : Int32 → zT → Prop} : ∀ (d j : Nat) (s : Int32), j + d = E.1 → Q (itd (fun i s => s + socC E (Z 0) i x1) j d s) Z → v_X6_sumOfSocieties_b4 E Q (d + 1) x1 s (nI j) Z := by
  intro d
  induction d with
  | zero =>
    intro j s h hq
    have hj : j = E.1 := h
    subst hj
    unfold v_X6_sumOfSocieties_b4
    simp only [forall_eq, nI_lei (show E.1 < 2147483648 by omega) (show E.1 < 2147483648 by omega), Nat.le_refl, forall_const, not_true_eq_false, false_implies, and_true]
    exact hq
  | succ d ih =>
    intro j s h hq
    unfold v_X6_sumOfSocieties_b4
    have h1 : j < 2147483648 := by omega
    have h2 : E.1 < 2147483648 := by omega
    have h3 : ¬ E.1 ≤ j := by omega
    have h4 : j < E.1 := by omega
    have hv : vp_in (nI j) E.1 := by rw [nI_vp h1]; exact h4
    rw [itd_s] at hq
    simp only [forall_eq, nI_lei h2 h1, h3, false_implies, true_and, not_false_eq_true, forall_const, ← nI_succ]
    refine c_ofSociety hF hS hv hx ?_
    rw [nI_cl h1]
    exact ih (j + 1) _ (by omega) hq
theorem s_sumS (hF : E.2.1 ≤ 12) (hS : E.1 ≤ 3) (hx : 0 ≤ x1.toInt ∧ x1.toInt ≤ 8) {Q : Int32 → zT → Prop} (h : Q (sumS E (Z 0) x1) Z) : v_X6_sumOfSocieties E x1 Z Q := by
  unfold v_X6_sumOfSocieties v_X6_sumOfSocieties_b0
  refine ⟨E.1 + 1, ?_⟩
  rw [nI_z]
  exact l_sumS hF hS hx _ 0 _ (by omega) h
def sumT (E : eT) (M : yT) : Int32 := itd (fun k s => s + M 15 k) 0 E.2.1 0
theorem l_sumT (hF : E.2.1 ≤ 12) {Q : Int32 → zT → Prop} : ∀ (d j : Nat) (s : Int32), j + d = E.2.1 → v_X6_sumOfStones_b4 E Q (d + 1) s (nI j) Z = Q (itd (fun k s => s + Z 0 15 k) j d s) Z := by
  intro d
  induction d with
  | zero =>
    intro j s h
    have hj : j = E.2.1 := h
    subst hj
    unfold v_X6_sumOfStones_b4
    simp [itd, nI_lei]
  | succ d ih =>
    intro j s h
    unfold v_X6_sumOfStones_b4
    have h1 : j < 2147483648 := by omega
    have h2 : E.2.1 < 2147483648 := by omega
    have h3 : ¬ E.2.1 ≤ j := by omega
    have h4 : j < E.2.1 := by omega
    simp only [forall_eq, nI_lei h2 h1, h3, h4, nI_vp h1, nI_cl h1, false_implies, true_and, not_false_eq_true, forall_const, ← nI_succ, ih (j + 1) _ (by omega), itd_s]
theorem s_sumT (hF : E.2.1 ≤ 12) {Q : Int32 → zT → Prop} (h : Q (sumT E (Z 0)) Z) : v_X6_sumOfStones E Z Q := by
  unfold v_X6_sumOfStones v_X6_sumOfStones_b0
  refine ⟨E.2.1 + 1, ?_⟩
  rw [nI_z, l_sumT hF _ 0 _ (by omega)]
  exact h
def watC (E : eT) (M : yT) (x : Int32) : Int32 := if x = 0 then M 69 0 else if x = 1 then sumF E M 1 else if x = 2 then M 68 0 else if x = 3 then sumS E M 3 else if x = 4 then M 70 0 else if x = 5 then M 71 0 else M 72 0
theorem c_water (hF : E.2.1 ≤ 12) (hS : E.1 ≤ 3) (hx : 0 ≤ x1.toInt ∧ x1.toInt ≤ 6) {Q : Int32 → zT → Prop} (h : Q (watC E (Z 0) x1) Z) : v_X6_water E x1 Z Q := by
  unfold watC at h
  simp only [v_X6_water, v_X6_water_b0, forall_eq]
  have d13 : 0 ≤ (3 : Int32).toInt ∧ (3 : Int32).toInt ≤ 8 := by decide
  have d1 : 0 ≤ (1 : Int32).toInt ∧ (1 : Int32).toInt ≤ 13 := by decide
  have dd : ∀ {P : Prop} (a b : Int32), a ≠ b → a = b → P := fun a b h1 h2 => absurd h2 h1
  rcases val14 (show 0 ≤ x1.toInt ∧ x1.toInt ≤ 13 by omega) with e | e | e | e | e | e | e | e | e | e | e | e | e | e <;> subst e
  · simpa using h
  · exact ⟨dd _ _ (by decide), fun _ => s_sumF hF d1 h, dd _ _ (by decide), dd _ _ (by decide), dd _ _ (by decide), dd _ _ (by decide), dd _ _ (by decide), fun z => absurd rfl z.2.1⟩
  · simpa using h
  · exact ⟨dd _ _ (by decide), dd _ _ (by decide), dd _ _ (by decide), fun _ => s_sumS hF hS d13 h, dd _ _ (by decide), dd _ _ (by decide), dd _ _ (by decide), fun z => absurd rfl z.2.2.2.1⟩
  · simpa using h
  · simpa using h
  · simpa using h
  · exact absurd hx.2 (by decide)
  · exact absurd hx.2 (by decide)
  · exact absurd hx.2 (by decide)
  · exact absurd hx.2 (by decide)
  · exact absurd hx.2 (by decide)
  · exact absurd hx.2 (by decide)
  · exact absurd hx.2 (by decide)
def cloC (E : eT) (M : yT) : Int32 := if M 69 0 = sumF E M 1 + M 68 0 + sumS E M 3 + (M 70 0 + M 71 0 + M 72 0) then 1 else 0
theorem c_closed (hF : E.2.1 ≤ 12) (hS : E.1 ≤ 3) {Q : Int32 → zT → Prop} (h : Q (cloC E (Z 0)) Z) : v_X6_isClosed E Z Q := by
  unfold cloC at h
  simp only [v_X6_isClosed, v_X6_isClosed_b0, v_X6_isClosed_b50]
  refine s_sumF hF (by decide) ?_
  simp only [forall_eq]
  refine s_sumS hF hS (by decide) ?_
  simp only [forall_eq, e_gone]
  refine ⟨fun c => ⟨Or.inl trivial, ?_⟩, fun c => ⟨Or.inr trivial, ?_⟩⟩
  · rw [if_neg c] at h; exact h
  · rw [if_pos c] at h; exact h
def manC (E : eT) (M : yT) (x : Int32) : Int32 := if x = 0 then nI E.1 else if x = 1 then nI E.2.1 else if x = 2 then M 64 0 else if x = 3 then fmod (M 64 0) 210 else if x = 4 then (if M 64 0 - M 64 0 / 30 * 30 = 0 then 1 else 0) else if x = 5 then sumF E M 8 else if x = 6 then sumO E M 0 else if x = 7 then sumS E M 2 else if x = 8 then sumO E M 3 else if x = 9 then M 73 0 else if x = 10 then M 74 0 else sumT E M
theorem c_many (hF : E.2.1 ≤ 12) (hS : E.1 ≤ 3) (hx : 0 ≤ x1.toInt ∧ x1.toInt ≤ 11) {Q : Int32 → zT → Prop} (h : Q (manC E (Z 0) x1) Z) : v_X6_many E x1 Z Q := by
  unfold manC at h
  simp only [v_X6_many, v_X6_many_b0, forall_eq, e_templeDay, e_isDark, e_oneIf]
  have dd : ∀ {P : Prop} (a b : Int32), a ≠ b → a = b → P := fun a b h1 h2 => absurd h2 h1
  rcases val14 (show 0 ≤ x1.toInt ∧ x1.toInt ≤ 13 by omega) with e | e | e | e | e | e | e | e | e | e | e | e | e | e <;> subst e
  · simpa using h
  · simpa using h
  · simpa using h
  · simpa using h
  · by_cases c : Z 0 64 0 - Z 0 64 0 / 30 * 30 = 0 <;> simp [c] at h ⊢ <;> exact h
  · exact ⟨dd _ _ (by decide), dd _ _ (by decide), dd _ _ (by decide), dd _ _ (by decide), dd _ _ (by decide), fun _ => s_sumF hF (by decide) h, dd _ _ (by decide), dd _ _ (by decide), dd _ _ (by decide), dd _ _ (by decide), dd _ _ (by decide), dd _ _ (by decide), fun z => absurd rfl z.2.2.2.2.2.1⟩
  · exact ⟨dd _ _ (by decide), dd _ _ (by decide), dd _ _ (by decide), dd _ _ (by decide), dd _ _ (by decide), dd _ _ (by decide), fun _ => s_sumO hF (by decide) h, dd _ _ (by decide), dd _ _ (by decide), dd _ _ (by decide), dd _ _ (by decide), dd _ _ (by decide), fun z => absurd rfl z.2.2.2.2.2.2.1⟩
  · exact ⟨dd _ _ (by decide), dd _ _ (by decide), dd _ _ (by decide), dd _ _ (by decide), dd _ _ (by decide), dd _ _ (by decide), dd _ _ (by decide), fun _ => s_sumS hF hS (by decide) h, dd _ _ (by decide), dd _ _ (by decide), dd _ _ (by decide), dd _ _ (by decide), fun z => absurd rfl z.2.2.2.2.2.2.2.1⟩
  · exact ⟨dd _ _ (by decide), dd _ _ (by decide), dd _ _ (by decide), dd _ _ (by decide), dd _ _ (by decide), dd _ _ (by decide), dd _ _ (by decide), dd _ _ (by decide), fun _ => s_sumO hF (by decide) h, dd _ _ (by decide), dd _ _ (by decide), dd _ _ (by decide), fun z => absurd rfl z.2.2.2.2.2.2.2.2.1⟩
  · simpa using h
  · simpa using h
  · exact ⟨dd _ _ (by decide), dd _ _ (by decide), dd _ _ (by decide), dd _ _ (by decide), dd _ _ (by decide), dd _ _ (by decide), dd _ _ (by decide), dd _ _ (by decide), dd _ _ (by decide), dd _ _ (by decide), dd _ _ (by decide), fun _ => s_sumT hF h, fun z => absurd rfl z.2.2.2.2.2.2.2.2.2.2.2⟩
  · exact absurd hx.2 (by decide)
  · exact absurd hx.2 (by decide)
/-! refused -/
theorem ne_isw {a b c : Int32} (h : isw x2 a b = 0) (h1 : a.toInt ≤ c.toInt) (h2 : c.toInt ≤ b.toInt) : ¬ x2 = c := by
  intro z
  subst z
  unfold isw at h
  rw [if_neg (by rw [ti_lt]; omega), if_neg (by rw [ti_lt]; omega)] at h
  exact absurd h (by decide)
end
