theorem div_num {a b : Int32} (hb : ¬ b = 0) : vf_n64 (FP.ddiv (FP.i2d a) (FP.i2d b)) := by
  have h : FP.Core.dIsNaN (FP.ddiv (FP.i2d a) (FP.i2d b)) = false := FP.Core.ddiv_out (FP.Core.i2d_fin a).notNaN (FP.Core.i2d_fin b) (fun z => FP.Core.i2d_ne_zero hb ((FP.Core.zero_bits2 _).mp z))
  have h2 : ¬ 9218868437227405312 < (FP.ddiv (FP.i2d a) (FP.i2d b)).toNat % 2 ^ 63 := fun z => by
    have := (FP.Core.isNaN_bits _).mpr z
    rw [h] at this
    cases this
  unfold vf_n64
  rw [UInt64.le_iff_toNat_le, UInt64.toNat_and]
  have e1 : (0x7fffffffffffffff : UInt64).toNat = 2 ^ 63 - 1 := rfl
  have e2 : (0x7ff0000000000000 : UInt64).toNat = 9218868437227405312 := rfl
  rw [e1, e2, Nat.and_two_pow_sub_one_eq_mod]
  omega
section
variable {E : eT} {F : fT} {n : Nat} {M M1 N M' N' : yT} {Z : zT} {x1 x2 x3 : Int32} {k i w : Nat}
def mwC (E : eT) (M : yT) (i : Nat) : Int32 := (ce_mem E i).foldl (fun s k => s + M 1 k) 0
def mnC (E : eT) (M : yT) (i : Nat) : UInt64 := if nI (ce_mem E i).length = 0 then FP.dconst0 else FP.ddiv (FP.i2d (mwC E M i)) (FP.i2d (nI (ce_mem E i).length))
theorem l_mean (hF : E.2.1 ≤ 12) {Q : UInt64 → zT → Prop} (hq : Q (mnC E (Z w) i) Z) : ∀ (d j : Nat) (s : Int32), j + d = (ce_mem E i).length → ((ce_mem E i).drop j).foldl (fun s k => s + Z w 1 k) s = mwC E (Z w) i → v_X5_meanWater_b4 E w Q (d + 1) i s (nI j) Z := by
  have hl := mem_len E i
  intro d
  induction d with
  | zero =>
    intro j s h hp
    have hj : j = (ce_mem E i).length := h
    subst hj
    unfold v_X5_meanWater_b4
    simp only [List.drop_length, List.foldl_nil] at hp
    subst hp
    unfold mnC at hq
    simp only [forall_eq, nI_lei (show (ce_mem E i).length < 2147483648 by omega) (show (ce_mem E i).length < 2147483648 by omega), Nat.le_refl, forall_const, not_true_eq_false, false_implies, and_true, v_X5_meanWater_b59]
    refine ⟨fun c => ⟨div_num c, ?_⟩, fun c => ?_⟩
    · rw [if_neg c] at hq; exact hq
    · rw [if_pos c] at hq; exact hq
  | succ d ih =>
    intro j s h hp
    unfold v_X5_meanWater_b4
    have h1 : j < 2147483648 := by omega
    have h2 : (ce_mem E i).length < 2147483648 := by omega
    have h3 : ¬ (ce_mem E i).length ≤ j := by omega
    have h4 : j < (ce_mem E i).length := by omega
    rw [drop_get h4, List.foldl_cons] at hp
    simp only [forall_eq, nI_lei h2 h1, h3, h4, false_implies, true_and, nI_vp h1, nI_cl h1, not_false_eq_true, forall_const, ← nI_succ]
    exact ih (j + 1) _ (by omega) hp
def mwR (F : fT) (N : yT) (x : Int32) : Int32 := itd (fun k s => s + if N 0 k = x then N 1 k else 0) 0 F.2.1 0
theorem l_meanR (hF : F.2.1 ≤ 12) (hz : ¬ szR F N x1 = 0) {Q : UInt64 → yT → Prop} (hq : Q (FP.ddiv (FP.i2d (mwR F N x1)) (FP.i2d (szR F N x1))) N) : ∀ (d j : Nat) (s : Int32), j + d = F.2.1 → itd (fun k s => s + if N 0 k = x1 then N 1 k else 0) j d s = mwR F N x1 → v_X8_meanDepth_b51 F Q (d + 1) x1 s (nI F.2.1) (nI j) N := by
  intro d
  induction d with
  | zero =>
    intro j s h hp
    have hj : j = F.2.1 := h
    subst hj
    unfold v_X8_meanDepth_b51
    rw [itd_0] at hp
    subst hp
    simp only [forall_eq, nI_lei (show F.2.1 < 2147483648 by omega) (show F.2.1 < 2147483648 by omega), Nat.le_refl, forall_const, not_true_eq_false, false_implies, and_true]
    exact r_size hF ⟨div_num hz, hq⟩
  | succ d ih =>
    intro j s h hp
    unfold v_X8_meanDepth_b51
    have h1 : j < 2147483648 := by omega
    have h2 : F.2.1 < 2147483648 := by omega
    have h3 : ¬ F.2.1 ≤ j := by omega
    have h4 : j < F.2.1 := by omega
    rw [itd_s] at hp
    have hq2 := ih (j + 1) _ (by omega) hp
    simp only [forall_eq, nI_lei h2 h1, h3, h4, false_implies, true_and, nI_vp h1, nI_cl h1, not_false_eq_true, forall_const, ← nI_succ, v_X8_meanDepth_b81]
    refine ⟨fun c => ?_, fun c => ?_⟩
    · rw [if_neg c] at hq2; exact hq2
    · rw [if_pos c] at hq2; exact hq2
def RESd (E : eT) (n : Nat) (Z : zT) (N : yT) (cl : (UInt64 → zT → Prop) → Prop) (clT : (String → zT → Prop) → Prop) (rf : (UInt64 → yT → Prop) → Prop) (exs : List String) : Prop :=
  (∃ (v : UInt64) (Z' : zT) (N' : yT), (∀ Q : UInt64 → zT → Prop, Q v Z' → cl Q) ∧ (∀ Q : UInt64 → yT → Prop, Q v N' → rf Q) ∧ N' 80 0 = 0 ∧ LI E n Z' N') ∨
  (∃ (c : Nat) (ex : String) (u : UInt64) (N' : yT), exs[c]? = some ex ∧ (∀ Q : String → zT → Prop, Q ex Z → clT Q) ∧ (∀ Q : UInt64 → yT → Prop, Q u N' → rf Q) ∧ N' 80 0 = nI (c + 1) ∧ LI E n Z N')
theorem m_meanDepth (h : LI E n Z N) (hF : F.2.1 = E.2.1) (hF1 : F.1 = E.1) : RESd E n Z N (v_X6_meanDepth E x1 Z) (vT_X6_meanDepth E x1 Z) (v_X8_meanDepth F x1 N) [xI] := by
  have hW := LJ_EW h
  have h12 := hW.2.1
  have n1 : ¬ (1 : Int32) = 0 := by decide
  have h80 : LI E n Z (s_up2 N 80 0 0) := LJ_80 h
  by_cases hv : vp_in x1 E.1
  · have hi := vp_lt hv
    have hx := vp_nI hv
    generalize hii : Int32.toNatClampNeg x1 = ii at hi hx
    refine Or.inl ⟨mnC E (Z 0) ii, Z, s_up2 N 80 0 0, fun Q hq => ?_, fun Q hq => ?_, rfl, h80⟩
    · simp only [v_X6_meanDepth, v_X6_meanDepth_b0, c_societyAt hW.1 hv, v_X5_meanWater, v_X5_meanWater_b0, hii]
      refine ⟨(ce_mem E ii).length + 1, ?_⟩
      have := l_mean (Z := Z) (w := 0) (i := ii) (Q := Q) h12 hq (ce_mem E ii).length 0 0 (by omega) (by rw [List.drop_zero]; rfl)
      rw [← nI_z] at this
      exact this
    · have esz : szR F (s_up2 N 80 0 0) x1 = nI (ce_mem E ii).length := by rw [hx]; exact sz_eq h80 hF hi
      have emw : mwR F (s_up2 N 80 0 0) x1 = mwC E (Z 0) ii := by
        unfold mwC mwR
        have h2 := mem_foldl E ii (fun k (s : Int32) => s + Z 0 1 k) 0
        rw [h2, hF]
        refine itd_rel (R := fun _ a b => a = b) E.2.1 0 0 0 (fun k a b _ hk e => ?_) rfl
        have hk : k < E.2.1 := by omega
        have hb := hW.2.2.1 k hk
        have h3 := hW.1
        rw [LI_of h80 hk, e, hx, ← LI_ch h80 (c := 1) (by unfold Ch; decide)]
        simp only [nI_inj3 (show E.2.2 k < 2147483648 by omega) (show ii < 2147483648 by omega)]
        by_cases c : E.2.2 k = ii
        · simp only [c, if_true]
        · simp only [c, if_false, Int32.add_zero]
      unfold mnC at hq
      rw [← esz, ← emw] at hq
      simp only [v_X8_meanDepth, v_X8_meanDepth_b0, v_X8_meanDepth_b14, v_X8_meanDepth_b32, forall_eq, r_isS (hF1 ▸ hW.1) (hF1 ▸ hv), n1, up_rd, and_self, if_true, show ¬ (0 : Int32) < 0 by decide, not_true_eq_false, not_false_eq_true, false_implies, true_and, and_true, forall_const]
      refine r_size (hF ▸ h12) ⟨fun c => ⟨F.2.1 + 1, ?_⟩, fun c => ?_⟩
      · rw [if_neg c] at hq
        have := l_meanR (N := s_up2 N 80 0 0) (x1 := x1) (Q := Q) (hF ▸ h12) c hq F.2.1 0 0 (by omega) rfl
        rw [← nI_z] at this
        exact this
      · rw [if_pos c] at hq; exact hq
  · refine Or.inr ⟨0, xI, FP.dconst0, s_up2 N 80 0 1, rfl, fun Q hq => ?_, fun Q hq => ?_, rfl, LJ_80 h⟩
    · exact Or.inr (by rw [t_societyAt hW.1 hv]; exact hq)
    · simp only [v_X8_meanDepth, v_X8_meanDepth_b0, v_X8_meanDepth_b14, v_X8_meanDepth_b32, forall_eq, r_isS0 (hF1 ▸ hW.1) (hF1 ▸ hv), up_rd, and_self, if_true, show (0 : Int32) < 1 by decide, not_true_eq_false, not_false_eq_true, false_implies, true_and, and_true, forall_const]
      exact hq
/-! the system's other answers -/
def ownC (M : yT) (k : Nat) (x : Int32) : Int32 := if x = 0 then M 17 k else if x = 1 then M 18 k else if x = 2 then M 19 k else (if 0 ≤ M 17 k then 0 else 1)
theorem c_ofOwner (hF : E.2.1 ≤ 12) (hv : vp_in x1 E.2.1) (hx : 0 ≤ x2.toInt ∧ x2.toInt ≤ 3) {Q : Int32 → zT → Prop} : v_X6_ofOwner E x1 x2 Z Q = Q (ownC (Z 0) (Int32.toNatClampNeg x1) x2) Z := by
  have n1 : ¬ (1 : Int32) = 0 := by decide
  have hx4 : x2 = 0 ∨ x2 = 1 ∨ x2 = 2 ∨ x2 = 3 := by
    have l0 : (0 : Int32).toInt = 0 := rfl
    have l1 : (1 : Int32).toInt = 1 := rfl
    have l2 : (2 : Int32).toInt = 2 := rfl
    have l3 : (3 : Int32).toInt = 3 := rfl
    simp only [ti_eq, l0, l1, l2, l3]; omega
  simp only [v_X6_ofOwner, v_X6_ofOwner_b0, c_fieldAt hF hv, forall_eq, e_excl, e_oneIf, ownC]
  rcases hx4 with e | e | e | e <;> subst e <;> by_cases c : 0 ≤ Z 0 17 (Int32.toNatClampNeg x1) <;> simp [c]
def socC (E : eT) (M : yT) (i : Nat) (x : Int32) : Int32 := if x = 0 then M 34 i else if x = 1 then M 35 i else if x = 2 then M 36 i else if x = 3 then M 37 i else if x = 4 then (if M 35 i ≤ fmod (fmod (M 64 0) 210 - M 34 i) 210 then 0 else 1) else if x = 5 then M 40 i else if x = 6 then nI (ce_mem E i).length else if x = 7 then M 41 i else onI (nxC E M i)
theorem c_ofSociety (hF : E.2.1 ≤ 12) (hS : E.1 ≤ 3) (hv : vp_in x1 E.1) (hx : 0 ≤ x2.toInt ∧ x2.toInt ≤ 8) {Q : Int32 → zT → Prop} (h : Q (socC E (Z 0) (Int32.toNatClampNeg x1) x2) Z) : v_X6_ofSociety E x1 x2 Z Q := by
  have n1 : ¬ (1 : Int32) = 0 := by decide
  unfold socC at h
  simp only [v_X6_ofSociety, v_X6_ofSociety_b0, c_societyAt hS hv, forall_eq, e_templeDay, e_openOn, e_oneIf, e_num]
  by_cases e8 : x2 = 8
  · subst e8
    have h : Q (onI (nxC E (Z 0) (Int32.toNatClampNeg x1))) Z := h
    refine ⟨fun z => absurd z (by decide), fun z => absurd z (by decide), fun z => absurd z (by decide), fun z => absurd z (by decide), fun z => absurd z (by decide), fun z => absurd z (by decide), fun z => absurd z (by decide), fun z => absurd z (by decide), fun _ => s_next hF h, fun z => absurd rfl z.2.2.2.2.2.2.2.2⟩
  · rcases val14 (show 0 ≤ x2.toInt ∧ x2.toInt ≤ 13 by omega) with e | e | e | e | e | e | e | e | e | e | e | e | e | e <;> subst e
    · simpa using h
    · simpa using h
    · simpa using h
    · simpa using h
    · by_cases c : Z 0 35 (Int32.toNatClampNeg x1) ≤ fmod (fmod (Z 0 64 0) 210 - Z 0 34 (Int32.toNatClampNeg x1)) 210 <;> simp [c] at h ⊢ <;> exact h
    · simpa using h
    · simpa using h
    · simpa using h
    · exact absurd rfl e8
    · exact absurd hx.2 (by decide)
    · exact absurd hx.2 (by decide)
    · exact absurd hx.2 (by decide)
    · exact absurd hx.2 (by decide)
    · exact absurd hx.2 (by decide)
def sumF (E : eT) (M : yT) (x : Int32) : Int32 := itd (fun k s => s + fldC E M k x) 0 E.2.1 0
theorem l_sumF (hF : E.2.1 ≤ 12) (hx : 0 ≤ x1.toInt ∧ x1.toInt ≤ 13) {Q : Int32 → zT → Prop} : ∀ (d j : Nat) (s : Int32), j + d = E.2.1 → v_X6_sumOfFields_b4 E Q (d + 1) x1 s (nI j) Z = Q (itd (fun k s => s + fldC E (Z 0) k x1) j d s) Z := by
  intro d
  induction d with
  | zero =>
    intro j s h
    have hj : j = E.2.1 := h
    subst hj
    unfold v_X6_sumOfFields_b4
    simp [itd, nI_lei]
  | succ d ih =>
    intro j s h
    unfold v_X6_sumOfFields_b4
    have h1 : j < 2147483648 := by omega
    have h2 : E.2.1 < 2147483648 := by omega
    have h3 : ¬ E.2.1 ≤ j := by omega
    have h4 : j < E.2.1 := by omega
    have hv : vp_in (nI j) E.2.1 := by rw [nI_vp h1]; exact h4
    simp only [forall_eq, nI_lei h2 h1, h3, false_implies, true_and, not_false_eq_true, forall_const, ← nI_succ, c_ofField hF hv hx, nI_cl h1, ih (j + 1) _ (by omega), itd_s]
theorem s_sumF (hF : E.2.1 ≤ 12) (hx : 0 ≤ x1.toInt ∧ x1.toInt ≤ 13) {Q : Int32 → zT → Prop} (h : Q (sumF E (Z 0) x1) Z) : v_X6_sumOfFields E x1 Z Q := by
  unfold v_X6_sumOfFields v_X6_sumOfFields_b0
  refine ⟨E.2.1 + 1, ?_⟩
  rw [nI_z, l_sumF hF hx _ 0 _ (by omega)]
  exact h
def sumO (E : eT) (M : yT) (x : Int32) : Int32 := itd (fun k s => s + ownC M k x) 0 E.2.1 0
theorem l_sumO (hF : E.2.1 ≤ 12) (hx : 0 ≤ x1.toInt ∧ x1.toInt ≤ 3) {Q : Int32 → zT → Prop} : ∀ (d j : Nat) (s : Int32), j + d = E.2.1 → v_X6_sumOfOwners_b4 E Q (d + 1) x1 s (nI j) Z = Q (itd (fun k s => s + ownC (Z 0) k x1) j d s) Z := by
  intro d
  induction d with
  | zero =>
    intro j s h
    have hj : j = E.2.1 := h
    subst hj
    unfold v_X6_sumOfOwners_b4
    simp [itd, nI_lei]
  | succ d ih =>
    intro j s h
    unfold v_X6_sumOfOwners_b4
    have h1 : j < 2147483648 := by omega
    have h2 : E.2.1 < 2147483648 := by omega
    have h3 : ¬ E.2.1 ≤ j := by omega
    have h4 : j < E.2.1 := by omega
    have hv : vp_in (nI j) E.2.1 := by rw [nI_vp h1]; exact h4
    simp only [forall_eq, nI_lei h2 h1, h3, false_implies, true_and, not_false_eq_true, forall_const, ← nI_succ, c_ofOwner hF hv hx, nI_cl h1, ih (j + 1) _ (by omega), itd_s]
theorem s_sumO (hF : E.2.1 ≤ 12) (hx : 0 ≤ x1.toInt ∧ x1.toInt ≤ 3) {Q : Int32 → zT → Prop} (h : Q (sumO E (Z 0) x1) Z) : v_X6_sumOfOwners E x1 Z Q := by
  unfold v_X6_sumOfOwners v_X6_sumOfOwners_b0
  refine ⟨E.2.1 + 1, ?_⟩
  rw [nI_z, l_sumO hF hx _ 0 _ (by omega)]
  exact h
def sumS (E : eT) (M : yT) (x : Int32) : Int32 := itd (fun i s => s + socC E M i x) 0 E.1 0
theorem l_sumS (hF : E.2.1 ≤ 12) (hS : E.1 ≤ 3) (hx : 0 ≤ x1.toInt ∧ x1.toInt ≤ 8) {Q : Int32 → zT → Prop} : ∀ (d j : Nat) (s : Int32), j + d = E.1 → Q (itd (fun i s => s + socC E (Z 0) i x1) j d s) Z → v_X6_sumOfSocieties_b4 E Q (d + 1) x1 s (nI j) Z := by
  intro d
  induction d with
  | zero =>
    intro j s h hq
    have hj : j = E.1 := h
    subst hj
    unfold v_X6_sumOfSocieties_b4
    simp only [forall_eq, nI_lei (show E.1 < 2147483648 by omega) (show E.1 < 2147483648 by omega), Nat.le_refl, forall_const, not_true_eq_false, false_implies, and_true]
    exact hq
  | succ d ih =>
    intro j s h hq
    unfold v_X6_sumOfSocieties_b4
    have h1 : j < 2147483648 := by omega
    have h2 : E.1 < 2147483648 := by omega
    have h3 : ¬ E.1 ≤ j := by omega
    have h4 : j < E.1 := by omega
    have hv : vp_in (nI j) E.1 := by rw [nI_vp h1]; exact h4
    rw [itd_s] at hq
    simp only [forall_eq, nI_lei h2 h1, h3, false_implies, true_and, not_false_eq_true, forall_const, ← nI_succ]
    refine c_ofSociety hF hS hv hx ?_
    rw [nI_cl h1]
    exact ih (j + 1) _ (by omega) hq
theorem s_sumS (hF : E.2.1 ≤ 12) (hS : E.1 ≤ 3) (hx : 0 ≤ x1.toInt ∧ x1.toInt ≤ 8) {Q : Int32 → zT → Prop} (h : Q (sumS E (Z 0) x1) Z) : v_X6_sumOfSocieties E x1 Z Q := by
  unfold v_X6_sumOfSocieties v_X6_sumOfSocieties_b0
  refine ⟨E.1 + 1, ?_⟩
  rw [nI_z]
  exact l_sumS hF hS hx _ 0 _ (by omega) h
def sumT (E : eT) (M : yT) : Int32 := itd (fun k s => s + M 15 k) 0 E.2.1 0
theorem l_sumT (hF : E.2.1 ≤ 12) {Q : Int32 → zT → Prop} : ∀ (d j : Nat) (s : Int32), j + d = E.2.1 → v_X6_sumOfStones_b4 E Q (d + 1) s (nI j) Z = Q (itd (fun k s => s + Z 0 15 k) j d s) Z := by
  intro d
  induction d with
  | zero =>
    intro j s h
    have hj : j = E.2.1 := h
    subst hj
    unfold v_X6_sumOfStones_b4
    simp [itd, nI_lei]
  | succ d ih =>
    intro j s h
    unfold v_X6_sumOfStones_b4
    have h1 : j < 2147483648 := by omega
    have h2 : E.2.1 < 2147483648 := by omega
    have h3 : ¬ E.2.1 ≤ j := by omega
    have h4 : j < E.2.1 := by omega
    simp only [forall_eq, nI_lei h2 h1, h3, h4, nI_vp h1, nI_cl h1, false_implies, true_and, not_false_eq_true, forall_const, ← nI_succ, ih (j + 1) _ (by omega), itd_s]
theorem s_sumT (hF : E.2.1 ≤ 12) {Q : Int32 → zT → Prop} (h : Q (sumT E (Z 0)) Z) : v_X6_sumOfStones E Z Q := by
  unfold v_X6_sumOfStones v_X6_sumOfStones_b0
  refine ⟨E.2.1 + 1, ?_⟩
  rw [nI_z, l_sumT hF _ 0 _ (by omega)]
  exact h
def watC (E : eT) (M : yT) (x : Int32) : Int32 := if x = 0 then M 69 0 else if x = 1 then sumF E M 1 else if x = 2 then M 68 0 else if x = 3 then sumS E M 3 else if x = 4 then M 70 0 else if x = 5 then M 71 0 else M 72 0
theorem c_water (hF : E.2.1 ≤ 12) (hS : E.1 ≤ 3) (hx : 0 ≤ x1.toInt ∧ x1.toInt ≤ 6) {Q : Int32 → zT → Prop} (h : Q (watC E (Z 0) x1) Z) : v_X6_water E x1 Z Q := by
  unfold watC at h
  simp only [v_X6_water, v_X6_water_b0, forall_eq]
  have d13 : 0 ≤ (3 : Int32).toInt ∧ (3 : Int32).toInt ≤ 8 := by decide
  have d1 : 0 ≤ (1 : Int32).toInt ∧ (1 : Int32).toInt ≤ 13 := by decide
  have dd : ∀ {P : Prop} (a b : Int32), a ≠ b → a = b → P := fun a b h1 h2 => absurd h2 h1
  rcases val14 (show 0 ≤ x1.toInt ∧ x1.toInt ≤ 13 by omega) with e | e | e | e | e | e | e | e | e | e | e | e | e | e <;> subst e
  · simpa using h
  · exact ⟨dd _ _ (by decide), fun _ => s_sumF hF d1 h, dd _ _ (by decide), dd _ _ (by decide), dd _ _ (by decide), dd _ _ (by decide), dd _ _ (by decide), fun z => absurd rfl z.2.1⟩
  · simpa using h
  · exact ⟨dd _ _ (by decide), dd _ _ (by decide), dd _ _ (by decide), fun _ => s_sumS hF hS d13 h, dd _ _ (by decide), dd _ _ (by decide), dd _ _ (by decide), fun z => absurd rfl z.2.2.2.1⟩
  · simpa using h
  · simpa using h
  · simpa using h
  · exact absurd hx.2 (by decide)
  · exact absurd hx.2 (by decide)
  · exact absurd hx.2 (by decide)
  · exact absurd hx.2 (by decide)
  · exact absurd hx.2 (by decide)
  · exact absurd hx.2 (by decide)
  · exact absurd hx.2 (by decide)
def cloC (E : eT) (M : yT) : Int32 := if M 69 0 = sumF E M 1 + M 68 0 + sumS E M 3 + (M 70 0 + M 71 0 + M 72 0) then 1 else 0
theorem c_closed (hF : E.2.1 ≤ 12) (hS : E.1 ≤ 3) {Q : Int32 → zT → Prop} (h : Q (cloC E (Z 0)) Z) : v_X6_isClosed E Z Q := by
  unfold cloC at h
  simp only [v_X6_isClosed, v_X6_isClosed_b0, v_X6_isClosed_b50]
  refine s_sumF hF (by decide) ?_
  simp only [forall_eq]
  refine s_sumS hF hS (by decide) ?_
  simp only [forall_eq, e_gone]
  refine ⟨fun c => ⟨Or.inl trivial, ?_⟩, fun c => ⟨Or.inr trivial, ?_⟩⟩
  · rw [if_neg c] at h; exact h
  · rw [if_pos c] at h; exact h
def manC (E : eT) (M : yT) (x : Int32) : Int32 := if x = 0 then nI E.1 else if x = 1 then nI E.2.1 else if x = 2 then M 64 0 else if x = 3 then fmod (M 64 0) 210 else if x = 4 then (if M 64 0 - M 64 0 / 30 * 30 = 0 then 1 else 0) else if x = 5 then sumF E M 8 else if x = 6 then sumO E M 0 else if x = 7 then sumS E M 2 else if x = 8 then sumO E M 3 else if x = 9 then M 73 0 else if x = 10 then M 74 0 else sumT E M
theorem c_many (hF : E.2.1 ≤ 12) (hS : E.1 ≤ 3) (hx : 0 ≤ x1.toInt ∧ x1.toInt ≤ 11) {Q : Int32 → zT → Prop} (h : Q (manC E (Z 0) x1) Z) : v_X6_many E x1 Z Q := by
  unfold manC at h
  simp only [v_X6_many, v_X6_many_b0, forall_eq, e_templeDay, e_isDark, e_oneIf]
  have dd : ∀ {P : Prop} (a b : Int32), a ≠ b → a = b → P := fun a b h1 h2 => absurd h2 h1
  rcases val14 (show 0 ≤ x1.toInt ∧ x1.toInt ≤ 13 by omega) with e | e | e | e | e | e | e | e | e | e | e | e | e | e <;> subst e
  · simpa using h
  · simpa using h
  · simpa using h
  · simpa using h
  · by_cases c : Z 0 64 0 - Z 0 64 0 / 30 * 30 = 0 <;> simp [c] at h ⊢ <;> exact h
  · exact ⟨dd _ _ (by decide), dd _ _ (by decide), dd _ _ (by decide), dd _ _ (by decide), dd _ _ (by decide), fun _ => s_sumF hF (by decide) h, dd _ _ (by decide), dd _ _ (by decide), dd _ _ (by decide), dd _ _ (by decide), dd _ _ (by decide), dd _ _ (by decide), fun z => absurd rfl z.2.2.2.2.2.1⟩
  · exact ⟨dd _ _ (by decide), dd _ _ (by decide), dd _ _ (by decide), dd _ _ (by decide), dd _ _ (by decide), dd _ _ (by decide), fun _ => s_sumO hF (by decide) h, dd _ _ (by decide), dd _ _ (by decide), dd _ _ (by decide), dd _ _ (by decide), dd _ _ (by decide), fun z => absurd rfl z.2.2.2.2.2.2.1⟩
  · exact ⟨dd _ _ (by decide), dd _ _ (by decide), dd _ _ (by decide), dd _ _ (by decide), dd _ _ (by decide), dd _ _ (by decide), dd _ _ (by decide), fun _ => s_sumS hF hS (by decide) h, dd _ _ (by decide), dd _ _ (by decide), dd _ _ (by decide), dd _ _ (by decide), fun z => absurd rfl z.2.2.2.2.2.2.2.1⟩
  · exact ⟨dd _ _ (by decide), dd _ _ (by decide), dd _ _ (by decide), dd _ _ (by decide), dd _ _ (by decide), dd _ _ (by decide), dd _ _ (by decide), dd _ _ (by decide), fun _ => s_sumO hF (by decide) h, dd _ _ (by decide), dd _ _ (by decide), dd _ _ (by decide), fun z => absurd rfl z.2.2.2.2.2.2.2.2.1⟩
  · simpa using h
  · simpa using h
  · exact ⟨dd _ _ (by decide), dd _ _ (by decide), dd _ _ (by decide), dd _ _ (by decide), dd _ _ (by decide), dd _ _ (by decide), dd _ _ (by decide), dd _ _ (by decide), dd _ _ (by decide), dd _ _ (by decide), dd _ _ (by decide), fun _ => s_sumT hF h, fun z => absurd rfl z.2.2.2.2.2.2.2.2.2.2.2⟩
  · exact absurd hx.2 (by decide)
  · exact absurd hx.2 (by decide)
/-! refused -/
theorem ne_isw {a b c : Int32} (h : isw x2 a b = 0) (h1 : a.toInt ≤ c.toInt) (h2 : c.toInt ≤ b.toInt) : ¬ x2 = c := by
  intro z
  subst z
  unfold isw at h
  rw [if_neg (by rw [ti_lt]; omega), if_neg (by rw [ti_lt]; omega)] at h
  exact absurd h (by decide)
theorem t_ofOwner (hF : E.2.1 ≤ 12) (hv : vp_in x1 E.2.1) (c : isw x2 0 3 = 0) {Q : String → zT → Prop} (h : Q xA Z) : vT_X6_ofOwner E x1 x2 Z Q := by
  refine Or.inl ?_
  rw [c_fieldAt hF hv]
  simp only [ne_isw (c := 0) c (by decide) (by decide), ne_isw (c := 1) c (by decide) (by decide), ne_isw (c := 2) c (by decide) (by decide), ne_isw (c := 3) c (by decide) (by decide), false_implies, true_and, not_false_eq_true, and_self, forall_const]
  exact h
theorem t_ofSociety (hS : E.1 ≤ 3) (hv : vp_in x1 E.1) (c : isw x2 0 8 = 0) {Q : String → zT → Prop} (h : Q xA Z) : vT_X6_ofSociety E x1 x2 Z Q := by
  refine Or.inl ?_
  rw [c_societyAt hS hv]
  simp only [ne_isw (c := 0) c (by decide) (by decide), ne_isw (c := 1) c (by decide) (by decide), ne_isw (c := 2) c (by decide) (by decide), ne_isw (c := 3) c (by decide) (by decide), ne_isw (c := 4) c (by decide) (by decide), ne_isw (c := 5) c (by decide) (by decide), ne_isw (c := 6) c (by decide) (by decide), ne_isw (c := 7) c (by decide) (by decide), ne_isw (c := 8) c (by decide) (by decide), false_implies, true_and, not_false_eq_true, and_self, forall_const]
  exact h
theorem t_water (c : isw x2 0 6 = 0) {Q : String → zT → Prop} (h : Q xA Z) : vT_X6_water E x2 Z Q := by
  simp only [vT_X6_water, vT_X6_water_b0, ne_isw (c := 0) c (by decide) (by decide), ne_isw (c := 1) c (by decide) (by decide), ne_isw (c := 2) c (by decide) (by decide), ne_isw (c := 3) c (by decide) (by decide), ne_isw (c := 4) c (by decide) (by decide), ne_isw (c := 5) c (by decide) (by decide), ne_isw (c := 6) c (by decide) (by decide), false_implies, true_and, not_false_eq_true, and_self, forall_const]
  exact h
theorem t_many (c : isw x2 0 11 = 0) {Q : String → zT → Prop} (h : Q xA Z) : vT_X6_many E x2 Z Q := by
  simp only [vT_X6_many, vT_X6_many_b0, ne_isw (c := 0) c (by decide) (by decide), ne_isw (c := 1) c (by decide) (by decide), ne_isw (c := 2) c (by decide) (by decide), ne_isw (c := 3) c (by decide) (by decide), ne_isw (c := 4) c (by decide) (by decide), ne_isw (c := 5) c (by decide) (by decide), ne_isw (c := 6) c (by decide) (by decide), ne_isw (c := 7) c (by decide) (by decide), ne_isw (c := 8) c (by decide) (by decide), ne_isw (c := 9) c (by decide) (by decide), ne_isw (c := 10) c (by decide) (by decide), ne_isw (c := 11) c (by decide) (by decide), false_implies, true_and, not_false_eq_true, and_self, forall_const]
  exact h
end
