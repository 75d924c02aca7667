section
variable {F : fT} {Z : yT} {k i : Nat} {x y : Int32}
def sendR (F : fT) (k : Nat) (x : Int32) (M : yT) : yT := match belR F M k with
  | none => s_up2 M 72 0 (M 72 0 + x)
  | some j => s_up2 M 22 j (M 22 j + x)
def sepR (M : yT) (k : Nat) : Int32 := s_min (wa2 (M 67 0) (M 22 k) M k) (1 + M 2 k)
def pR1 (k : Nat) (M : yT) : yT := s_up2 (s_up2 M 1 k (wa2 (M 67 0) (M 22 k) M k - sepR M k)) 70 0 (M 70 0 + (sepR M k - sepR M k / 2))
def pR2 (k : Nat) (B : yT) : yT := (fun d : Int32 => s_up2 (s_up2 B 1 k (B 1 k - d)) 71 0 (B 71 0 + d)) (s_min (B 1 k) (if isw (B 4 k) 2 4 = 0 then 1 else 2))
def dry3 (k : Nat) (M : yT) : yT := (fun N : yT => if N 3 k ≤ 0 then N else if N 3 k - N 3 k / 3 * 3 = 0 then s_up2 N 2 k (s_min 3 (N 2 k + 1)) else N) (s_up2 M 3 k (if M 1 k = 0 then M 3 k + 1 else 0))
def stR2 (k : Nat) (B : yT) : yT := (fun G : yT => s_up2 G 8 k (lvR G k)) (if isw (B 4 k) 2 4 = 0 then dry3 k (pR2 k B) else growR k (dry3 k (pR2 k B)))
def standR (F : fT) (k : Nat) (M : yT) : yT := stR2 k (sendR F k (spl (M 67 0) (M 22 k) M k + sepR M k / 2) (pR1 k M))
theorem r_st229 {Q : yT → Prop} {g : Int32} : v_X7_stand_b229 F k g Z Q = Q ((fun G : yT => s_up2 G 8 k (lvR G k)) (if g = 0 then Z else growR k Z)) := by
  simp only [v_X7_stand_b229, v_X7_stand_b239, r_live, r_grow]
  by_cases h : g = 0 <;> simp [h]
theorem r_st202 {Q : yT → Prop} {g a : Int32} : v_X7_stand_b202 F k g a 3 k Z Q = v_X7_stand_b229 F k g ((fun N : yT => if N 3 k ≤ 0 then N else if N 3 k - N 3 k / 3 * 3 = 0 then s_up2 N 2 k (s_min 3 (N 2 k + 1)) else N) (s_up2 Z 3 k a)) Q := by
  simp only [v_X7_stand_b202, forall_eq, vp_3_22, true_and, cl_3]
  generalize s_up2 Z 3 k a = N
  by_cases h1 : N 3 k ≤ 0 <;> by_cases h2 : N 3 k - N 3 k / 3 * 3 = 0 <;> simp [h1, h2]
theorem r_st160 {Q : yT → Prop} {g a b : Int32} : v_X7_stand_b160 F k g a b Z Q = v_X7_stand_b229 F k g (dry3 k ((fun N : yT => s_up2 N 71 0 (N 71 0 + s_min b a)) (s_up2 Z 1 k (Z 1 k - s_min b a)))) Q := by
  simp only [v_X7_stand_b160, forall_eq, r_st202, dry3]
  generalize s_up2 (s_up2 Z 1 k (Z 1 k - s_min b a)) 71 0 _ = M
  by_cases h : M 1 k = 0
  · simp only [h, not_true_eq_false, false_implies, true_and, forall_const, if_true]
  · simp only [h, not_false_eq_true, false_implies, and_true, forall_const, if_false]
theorem r_st137 {Q : yT → Prop} : v_X7_stand_b137 F k Z Q = Q (stR2 k Z) := by
  simp only [v_X7_stand_b137, forall_eq, e_isR, r_st160, r_st229, stR2, pR2, up_rd, Nat.reduceEqDiff, false_and, if_false, reduceIte]
  by_cases h : isw (Z 4 k) 2 4 = 0
  · simp only [h, not_true_eq_false, false_implies, and_true, forall_const, if_true]
  · simp only [h, not_false_eq_true, false_implies, true_and, forall_const, if_false]
theorem bel_lt {M : yT} {a : Nat} (hk : k < F.2.1) (h : belR F M k = some a) : a < F.2.1 := by
  have := blR_lt _ _ h
  omega
theorem onI_ne {a : Nat} (h : a < 2147483648) : ¬ nI a = -1 := by
  rw [ti_eq, ti_nI h]
  have : (-1 : Int32).toInt = -1 := by decide
  omega
theorem s_standR (hF : F.2.1 ≤ 12) (hk : k < F.2.1) {M : yT} {Q : yT → Prop} (h : Q (standR F k M)) : v_X7_stand F (nI k) M Q := by
  unfold v_X7_stand v_X7_stand_b0
  have h1 : k < 2147483648 := by omega
  have h12 : k < 12 := by omega
  simp only [forall_eq, nI_vp h1, nI_cl h1, hk, h12, true_and, up_rd, up_same, up_sort, Nat.reduceEqDiff, Nat.reduceLT, false_and, and_self, if_false, if_true, reduceIte]
  unfold standR sendR at h
  unfold pR1 sepR wa2 spl wa1 at h
  refine s_bl hF hk ?_
  cases e : belR F _ k with
  | none =>
    rw [e] at h
    refine ⟨fun c => absurd rfl c, fun _ => ?_⟩
    rw [r_st137]
    exact h
  | some j =>
    rw [e] at h
    have hj := bel_lt hk e
    have h3 : j < 2147483648 := by omega
    have h4 : j < 12 := by omega
    refine ⟨fun _ => ?_, fun c => absurd c (onI_ne h3)⟩
    simp only [onI, nI_vp h3, nI_cl h3, h4, true_and, r_st137]
    exact h
/-! flying -/
def mvR (k : Nat) (g : Int32) (o : Option Nat) (M : yT) : yT := match o with
  | none => M
  | some j => (fun N : yT => s_up2 N 23 j (N 23 j + g)) (s_up2 M 23 k (M 23 k - g))
theorem l_dnR (hF : F.2.1 ≤ 12) (hk : k < F.2.1) {g : Int32} {kk26 : Int32 → yT → Prop} {kk67 : Int32 → Int32 → Int32 → yT → Prop} {Q : yT → Prop} : ∀ (a n : Nat), a ≤ F.2.1 → a + 1 ≤ n → kk67 (nI k) g 1 (mvR k g (dnF Z a) Z) → v_X7_fly_b77 F kk26 kk67 Q n (nI k) g (-1) (nI a - 1) Z := by
  have h1 : k < 2147483648 := by omega
  have hk12 : k < 12 := by omega
  have e2 : (-1 : Int32) + 2 = 1 := by decide
  intro a
  induction a with
  | zero =>
    intro n h hn hq
    obtain ⟨n, rfl⟩ : ∃ m, n = m + 1 := ⟨n - 1, by omega⟩
    unfold v_X7_fly_b77
    have h0 : nI 0 - 1 < 0 := by decide
    simp only [h0, forall_const, not_true_eq_false, false_implies, and_true, v_X7_fly_b118, v_X7_fly_b157, forall_eq, e2]
    exact hq
  | succ a ih =>
    intro n h hn hq
    obtain ⟨n, rfl⟩ : ∃ m, n = m + 1 := ⟨n - 1, by omega⟩
    unfold v_X7_fly_b77
    have h2 : a < 2147483648 := by omega
    have h3 : a < F.2.1 := by omega
    have h4 : F.2.1 < 2147483648 := by omega
    have h5 : ¬ F.2.1 ≤ a := by omega
    have h6 : a < 12 := by omega
    have e1 : nI a + -1 = nI a - 1 := by rw [Int32.sub_eq_add_neg]
    rw [nI_pred]
    simp only [dnF] at hq
    simp only [nI_neg h2, false_implies, true_and, not_false_eq_true, forall_const, forall_eq, nI_lei h4 h2, h5, nI_vp h2, nI_cl h2, h3, e_isR, v_X7_fly_b118, v_X7_fly_b157, e2, nI_lti h2 h4, nI_vp h1, nI_cl h1, hk12, h6, not_true_eq_false, and_true, e1]
    unfold stkI at hq
    refine ⟨fun c => ?_, fun c => ?_⟩
    · rw [if_neg c] at hq; exact hq
    · rw [if_pos c] at hq; exact ih n (by omega) (by omega) hq
theorem l_upR (hF : F.2.1 ≤ 12) (hk : k < F.2.1) {g : Int32} {kk26 : Int32 → yT → Prop} {kk67 : Int32 → Int32 → Int32 → yT → Prop} {Q : yT → Prop} : ∀ (d a n : Nat), a + d = F.2.1 → d + 1 ≤ n → kk67 (nI k) g 3 (mvR k g (upF Z a d) Z) → v_X7_fly_b77 F kk26 kk67 Q n (nI k) g 1 (nI a) Z := by
  have h1 : k < 2147483648 := by omega
  have hk12 : k < 12 := by omega
  have e2 : (1 : Int32) + 2 = 3 := by decide
  intro d
  induction d with
  | zero =>
    intro a n h hn hq
    obtain ⟨n, rfl⟩ : ∃ m, n = m + 1 := ⟨n - 1, by omega⟩
    unfold v_X7_fly_b77
    have hj : a = F.2.1 := h
    subst hj
    have h4 : F.2.1 < 2147483648 := by omega
    simp only [nI_neg h4, false_implies, true_and, not_false_eq_true, forall_const, forall_eq, nI_lei h4 h4, Nat.le_refl, not_true_eq_false, and_true, v_X7_fly_b118, v_X7_fly_b157, e2, nI_lti h4 h4, Nat.lt_irrefl]
    exact hq
  | succ d ih =>
    intro a n h hn hq
    obtain ⟨n, rfl⟩ : ∃ m, n = m + 1 := ⟨n - 1, by omega⟩
    unfold v_X7_fly_b77
    have h2 : a < 2147483648 := by omega
    have h3 : a < F.2.1 := by omega
    have h4 : F.2.1 < 2147483648 := by omega
    have h5 : ¬ F.2.1 ≤ a := by omega
    have h6 : a < 12 := by omega
    simp only [upF] at hq
    simp only [nI_neg h2, false_implies, true_and, not_false_eq_true, forall_const, forall_eq, nI_lei h4 h2, h5, nI_vp h2, nI_cl h2, h3, e_isR, v_X7_fly_b118, v_X7_fly_b157, e2, nI_lti h2 h4, nI_vp h1, nI_cl h1, hk12, h6, not_true_eq_false, and_true, ← nI_succ]
    unfold stkI at hq
    refine ⟨fun c => ?_, fun c => ?_⟩
    · rw [if_neg c] at hq; exact hq
    · rw [if_pos c] at hq; exact ih (a + 1) n (by omega) (by omega) hq
def flS (F : fT) (k : Nat) (M : yT) : yT := (fun g : Int32 => (fun N : yT => mvR k g (upF N (k + 1) (F.2.1 - (k + 1))) N) (mvR k g (dnF M k) M)) (if M 8 k ≤ 20 then 0 else M 8 k / 5)
theorem l_f64 (hF : F.2.1 ≤ 12) (hk : k < F.2.1) {g : Int32} {kk26 : Int32 → yT → Prop} {Q : yT → Prop} (h : kk26 (nI (k + 1)) ((fun N : yT => mvR k g (upF N (k + 1) (F.2.1 - (k + 1))) N) (mvR k g (dnF Z k) Z))) : v_X7_fly_b64 F (nI k) g Z kk26 Q := by
  unfold v_X7_fly_b64
  refine ⟨3, ?_⟩
  have e1 : nI k + -1 = nI k - 1 := by rw [Int32.sub_eq_add_neg]
  unfold v_X7_fly_b67
  simp only [show ¬ (2 : Int32) ≤ -1 by decide, false_implies, true_and, not_false_eq_true, forall_const, forall_eq, e1]
  refine ⟨k + 1, l_dnR hF hk k _ (by omega) (by omega) ?_⟩
  unfold v_X7_fly_b67
  simp only [show ¬ (2 : Int32) ≤ 1 by decide, false_implies, true_and, not_false_eq_true, forall_const, forall_eq, ← nI_succ]
  refine ⟨F.2.1 - (k + 1) + 1, l_upR hF hk (F.2.1 - (k + 1)) (k + 1) _ (by omega) (by omega) ?_⟩
  unfold v_X7_fly_b67
  simp only [show (2 : Int32) ≤ 3 by decide, forall_const, forall_eq, ← nI_succ, not_true_eq_false, false_implies, and_true]
  exact h
def set2 (k : Nat) (M : yT) : yT := s_up2 M 8 k (s_min 99 (M 8 k + M 23 k))
theorem l_set2 (hF : F.2.1 ≤ 12) {Q : yT → Prop} : ∀ (d j : Nat) (M : yT), j + d = F.2.1 → v_X7_fly_b171 F Q (d + 1) (nI j) M = Q (itd set2 j d M) := by
  intro d
  induction d with
  | zero =>
    intro j M h
    have hj : j = F.2.1 := h
    subst hj
    unfold v_X7_fly_b171
    simp [itd, nI_lei]
  | succ d ih =>
    intro j M h
    unfold v_X7_fly_b171
    have h1 : j < 2147483648 := by omega
    have h2 : F.2.1 < 2147483648 := by omega
    have h3 : ¬ F.2.1 ≤ j := by omega
    have h4 : j < F.2.1 := by omega
    have h5 : j < 12 := by omega
    simp only [forall_eq, nI_lei h2 h1, h3, h4, h5, false_implies, true_and, nI_vp h1, nI_cl h1, not_false_eq_true, forall_const, ← nI_succ, ih (j + 1) _ (by omega)]
    rfl
theorem l_fl26 (hF : F.2.1 ≤ 12) {Q : yT → Prop} : ∀ (d j : Nat) (M : yT), j + d = F.2.1 → Q (itd set2 0 F.2.1 (itd (flS F) j d M)) → v_X7_fly_b26 F Q (d + 1) (nI j) M := by
  intro d
  induction d with
  | zero =>
    intro j M h hq
    have hj : j = F.2.1 := h
    subst hj
    unfold v_X7_fly_b26
    simp only [forall_eq, nI_lei (show F.2.1 < 2147483648 by omega) (show F.2.1 < 2147483648 by omega), Nat.le_refl, forall_const, not_true_eq_false, false_implies, and_true]
    refine ⟨F.2.1 + 1, ?_⟩
    rw [nI_z, l_set2 hF _ 0 _ (by omega)]
    exact hq
  | succ d ih =>
    intro j M h hq
    unfold v_X7_fly_b26
    have h1 : j < 2147483648 := by omega
    have h2 : F.2.1 < 2147483648 := by omega
    have h3 : ¬ F.2.1 ≤ j := by omega
    have h4 : j < F.2.1 := by omega
    rw [itd_s] at hq
    have hq := ih (j + 1) _ (by omega) hq
    unfold flS at hq
    simp only [forall_eq, nI_lei h2 h1, h3, h4, false_implies, true_and, nI_vp h1, nI_cl h1, not_false_eq_true, forall_const]
    refine ⟨fun c => l_f64 hF h4 ?_, fun c => l_f64 hF h4 ?_⟩
    · rw [if_pos c] at hq; exact hq
    · rw [if_neg c] at hq; exact hq
def z23 (k : Nat) (M : yT) : yT := s_up2 M 23 k 0
def flyR (F : fT) (M : yT) : yT := itd set2 0 F.2.1 (itd (flS F) 0 F.2.1 (itd z23 0 F.2.1 M))
theorem l_fl2 (hF : F.2.1 ≤ 12) {Q : yT → Prop} : ∀ (d j : Nat) (M : yT), j + d = F.2.1 → Q (itd set2 0 F.2.1 (itd (flS F) 0 F.2.1 (itd z23 j d M))) → v_X7_fly_b2 F Q (d + 1) (nI j) M := by
  intro d
  induction d with
  | zero =>
    intro j M h hq
    have hj : j = F.2.1 := h
    subst hj
    unfold v_X7_fly_b2
    simp only [forall_eq, nI_lei (show F.2.1 < 2147483648 by omega) (show F.2.1 < 2147483648 by omega), Nat.le_refl, forall_const, not_true_eq_false, false_implies, and_true]
    refine ⟨F.2.1 + 1, ?_⟩
    rw [nI_z]
    exact l_fl26 hF _ 0 _ (by omega) hq
  | succ d ih =>
    intro j M h hq
    unfold v_X7_fly_b2
    have h1 : j < 2147483648 := by omega
    have h2 : F.2.1 < 2147483648 := by omega
    have h3 : ¬ F.2.1 ≤ j := by omega
    have h4 : j < 12 := by omega
    rw [itd_s] at hq
    simp only [forall_eq, nI_lei h2 h1, h3, h4, false_implies, true_and, nI_vp h1, nI_cl h1, not_false_eq_true, forall_const, ← nI_succ]
    exact ih (j + 1) _ (by omega) hq
theorem s_flyR (hF : F.2.1 ≤ 12) {M : yT} {Q : yT → Prop} (h : Q (flyR F M)) : v_X7_fly F M Q := by
  unfold v_X7_fly v_X7_fly_b0
  refine ⟨F.2.1 + 1, ?_⟩
  rw [nI_z]
  exact l_fl2 hF _ 0 M (by omega) h
/-! passing -/
def z22 (k : Nat) (M : yT) : yT := s_up2 M 22 k 0
def z11 (k : Nat) (M : yT) : yT := s_up2 M 11 k 0
theorem l_p240 (hF : F.2.1 ≤ 12) {Q : yT → Prop} : ∀ (d j : Nat) (M : yT), j + d = F.2.1 → Q (flyR F (itd (standR F) j d M)) → v_X7_pass_b240 F Q (d + 1) (nI j) M := by
  intro d
  induction d with
  | zero =>
    intro j M h hq
    have hj : j = F.2.1 := h
    subst hj
    unfold v_X7_pass_b240
    simp only [forall_eq, nI_lei (show F.2.1 < 2147483648 by omega) (show F.2.1 < 2147483648 by omega), Nat.le_refl, forall_const, not_true_eq_false, false_implies, and_true]
    exact s_flyR hF hq
  | succ d ih =>
    intro j M h hq
    unfold v_X7_pass_b240
    have h1 : j < 2147483648 := by omega
    have h2 : F.2.1 < 2147483648 := by omega
    have h3 : ¬ F.2.1 ≤ j := by omega
    rw [itd_s] at hq
    simp only [forall_eq, nI_lei h2 h1, h3, false_implies, true_and, not_false_eq_true, forall_const, ← nI_succ]
    exact s_standR hF (by omega) (ih (j + 1) _ (by omega) hq)
theorem l_p216 (hF : F.2.1 ≤ 12) {Q : yT → Prop} : ∀ (d j : Nat) (M : yT), j + d = F.2.1 → Q (flyR F (itd (standR F) 0 F.2.1 (itd z22 j d M))) → v_X7_pass_b216 F Q (d + 1) (nI j) M := by
  intro d
  induction d with
  | zero =>
    intro j M h hq
    have hj : j = F.2.1 := h
    subst hj
    unfold v_X7_pass_b216
    simp only [forall_eq, nI_lei (show F.2.1 < 2147483648 by omega) (show F.2.1 < 2147483648 by omega), Nat.le_refl, forall_const, not_true_eq_false, false_implies, and_true]
    refine ⟨F.2.1 + 1, ?_⟩
    rw [nI_z]
    exact l_p240 hF _ 0 _ (by omega) hq
  | succ d ih =>
    intro j M h hq
    unfold v_X7_pass_b216
    have h1 : j < 2147483648 := by omega
    have h2 : F.2.1 < 2147483648 := by omega
    have h3 : ¬ F.2.1 ≤ j := by omega
    have h4 : j < 12 := by omega
    rw [itd_s] at hq
    simp only [forall_eq, nI_lei h2 h1, h3, h4, false_implies, true_and, nI_vp h1, nI_cl h1, not_false_eq_true, forall_const, ← nI_succ]
    exact ih (j + 1) _ (by omega) hq
def divOK (F : fT) (i : Nat) (M : yT) : Prop := ∀ N : yT, N = s_up2 (s_up2 M 70 0 (M 70 0 + sunkF M i)) 37 i 0 → ¬ nxR N i F.2.1 (-1) (-1) = -1 → ¬ itd (parR N i) 0 F.2.1 0 = 0 ∧ vp_in (nxR N i F.2.1 (-1) (-1)) F.2.1
theorem l_p194 (hF : F.2.1 ≤ 12) (hS : F.1 ≤ 3) {I : Nat → yT → Prop} (hI : ∀ i M, i < F.1 → I i M → divOK F i M ∧ I (i + 1) (divR F i M)) {Q : yT → Prop} : ∀ (d j : Nat) (M : yT), j + d = F.1 → I j M → Q (flyR F (itd (standR F) 0 F.2.1 (itd z22 0 F.2.1 (itd (divR F) j d M)))) → v_X7_pass_b194 F Q (d + 1) (nI j) M := by
  intro d
  induction d with
  | zero =>
    intro j M h hi hq
    have hj : j = F.1 := h
    subst hj
    unfold v_X7_pass_b194
    simp only [forall_eq, nI_lei (show F.1 < 2147483648 by omega) (show F.1 < 2147483648 by omega), Nat.le_refl, forall_const, not_true_eq_false, false_implies, and_true]
    refine ⟨F.2.1 + 1, ?_⟩
    rw [nI_z]
    exact l_p216 hF _ 0 _ (by omega) hq
  | succ d ih =>
    intro j M h hi hq
    unfold v_X7_pass_b194
    have h1 : j < 2147483648 := by omega
    have h2 : F.1 < 2147483648 := by omega
    have h3 : ¬ F.1 ≤ j := by omega
    rw [itd_s] at hq
    simp only [forall_eq, nI_lei h2 h1, h3, false_implies, true_and, not_false_eq_true, forall_const, ← nI_succ]
    have h4 := hI j M (by omega) hi
    exact s_div hF hS (by omega) h4.1 (ih (j + 1) _ (by omega) h4.2 hq)
theorem l_p167 (hF : F.2.1 ≤ 12) (hS : F.1 ≤ 3) {I : Nat → yT → Prop} (hI : ∀ i M, i < F.1 → I i M → divOK F i M ∧ I (i + 1) (divR F i M)) {Q : yT → Prop} : ∀ (d j : Nat) (M : yT), j + d = F.2.1 → I 0 (itd z11 j d M) → Q (flyR F (itd (standR F) 0 F.2.1 (itd z22 0 F.2.1 (itd (divR F) 0 F.1 (itd z11 j d M))))) → v_X7_pass_b167 F Q (d + 1) (nI F.2.1) (nI j) M := by
  intro d
  induction d with
  | zero =>
    intro j M h hi hq
    have hj : j = F.2.1 := h
    subst hj
    unfold v_X7_pass_b167
    simp only [forall_eq, nI_lei (show F.2.1 < 2147483648 by omega) (show F.2.1 < 2147483648 by omega), Nat.le_refl, forall_const, not_true_eq_false, false_implies, and_true]
    refine ⟨F.1 + 1, ?_⟩
    rw [nI_z]
    exact l_p194 hF hS hI _ 0 _ (by omega) hi hq
  | succ d ih =>
    intro j M h hi hq
    unfold v_X7_pass_b167
    have h1 : j < 2147483648 := by omega
    have h2 : F.2.1 < 2147483648 := by omega
    have h3 : ¬ F.2.1 ≤ j := by omega
    have h4 : j < F.2.1 := by omega
    rw [itd_s] at hq hi
    simp only [forall_eq, nI_lei h2 h1, h3, h4, false_implies, true_and, nI_vp h1, nI_cl h1, not_false_eq_true, forall_const, ← nI_succ]
    exact ih (j + 1) _ (by omega) hi hq
theorem l_p109 (hF : F.2.1 ≤ 12) (hS : F.1 ≤ 3) (hp : F.1 = 0 ∨ ¬ y = 0) {Q : yT → Prop} : ∀ (d j : Nat) (M : yT), j + d = F.1 → (∃ n9 : Nat, v_X7_pass_b167 F Q n9 (nI F.2.1) (0 : Int32) (itd (weirS x y) j d M)) → v_X7_pass_b109 F Q (d + 1) y x (nI F.1) (nI j) M := by
  intro d
  induction d with
  | zero =>
    intro j M h hq
    have hj : j = F.1 := h
    subst hj
    unfold v_X7_pass_b109
    simp only [forall_eq, nI_lei (show F.1 < 2147483648 by omega) (show F.1 < 2147483648 by omega), Nat.le_refl, forall_const, not_true_eq_false, false_implies, and_true]
    exact hq
  | succ d ih =>
    intro j M h hq
    unfold v_X7_pass_b109
    have h1 : j < 2147483648 := by omega
    have h2 : F.1 < 2147483648 := by omega
    have h3 : ¬ F.1 ≤ j := by omega
    have h4 : j < F.1 := by omega
    have hp1 : ¬ y = 0 := hp.elim (fun z => absurd z (by omega)) id
    rw [itd_s] at hq
    simp only [forall_eq, nI_lei h2 h1, h3, h4, hp1, false_implies, true_and, nI_vp h1, nI_cl h1, not_false_eq_true, forall_const, ← nI_succ, up_rd, Nat.reduceEqDiff, false_and, and_self, if_false, if_true, reduceIte]
    exact ih (j + 1) _ (by omega) hq
def hd2 (F : fT) (M : yT) : yT := s_up2 (s_up2 M 69 0 (M 69 0 + (M 65 0 + M 67 0 * nI F.2.1))) 68 0 (M 65 0 + M 68 0)
theorem l_p23 (hF : F.2.1 ≤ 12) (hS : F.1 ≤ 3) {M : yT} {Q : yT → Prop} : ∀ (d j : Nat) (s : Int32), j + d = F.1 → (∃ n9 : Nat, v_X7_pass_b109 F Q n9 (itd (notF M) j d s) (M 65 0 + M 68 0) (nI F.1) (0 : Int32) (hd2 F M)) → v_X7_pass_b23 F Q (d + 1) s (nI F.1) (nI j) M := by
  intro d
  induction d with
  | zero =>
    intro j s h hq
    have hj : j = F.1 := h
    subst hj
    unfold v_X7_pass_b23
    simp only [forall_eq, nI_lei (show F.1 < 2147483648 by omega) (show F.1 < 2147483648 by omega), Nat.le_refl, forall_const, not_true_eq_false, false_implies, and_true]
    exact hq
  | succ d ih =>
    intro j s h hq
    unfold v_X7_pass_b23
    have h1 : j < 2147483648 := by omega
    have h2 : F.1 < 2147483648 := by omega
    have h3 : ¬ F.1 ≤ j := by omega
    have h4 : j < F.1 := by omega
    rw [itd_s] at hq
    simp only [forall_eq, nI_lei h2 h1, h3, h4, false_implies, true_and, nI_vp h1, nI_cl h1, not_false_eq_true, forall_const, ← nI_succ]
    exact ih (j + 1) _ (by omega) hq
def headR (F : fT) (M : yT) : yT := (fun N : yT => itd z11 0 F.2.1 (itd (weirS (N 65 0 + N 68 0) (itd (notF N) 0 F.1 0)) 0 F.1 (hd2 F N))) (s_up2 M 64 0 (M 64 0 + 1))
def passR (F : fT) (M : yT) : yT := flyR F (itd (standR F) 0 F.2.1 (itd z22 0 F.2.1 (itd (divR F) 0 F.1 (headR F M))))
theorem s_passR (hF : F.2.1 ≤ 12) (hS : F.1 ≤ 3) {I : Nat → yT → Prop} (hI : ∀ i M, i < F.1 → I i M → divOK F i M ∧ I (i + 1) (divR F i M)) {M : yT} (hp : F.1 = 0 ∨ ¬ itd (notF (s_up2 M 64 0 (M 64 0 + 1))) 0 F.1 0 = 0) (h0 : I 0 (headR F M)) {Q : yT → Prop} (h : Q (passR F M)) : v_X7_pass F M Q := by
  unfold v_X7_pass v_X7_pass_b0
  simp only [forall_eq]
  unfold passR at h
  unfold headR at h h0
  generalize s_up2 M 64 0 (M 64 0 + 1) = N at h h0 hp ⊢
  refine ⟨F.1 + 1, ?_⟩
  have e := l_p23 (M := N) (Q := Q) hF hS F.1 0 0 (by omega) ⟨F.1 + 1, by
    have e1 := l_p109 (x := N 65 0 + N 68 0) (Q := Q) hF hS hp F.1 0 (hd2 F N) (by omega) ⟨F.2.1 + 1, by
      have e2 := l_p167 (Q := Q) hF hS hI F.2.1 0 (itd (weirS (N 65 0 + N 68 0) (itd (notF N) 0 F.1 0)) 0 F.1 (hd2 F N)) (by omega) h0 h
      rw [← nI_z] at e2
      exact e2⟩
    rw [← nI_z] at e1
    exact e1⟩
  rw [← nI_z] at e
  exact e
end
