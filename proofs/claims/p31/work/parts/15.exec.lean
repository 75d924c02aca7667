/-! ===== running the numbers ===== -/
def zs (Z : zT) (w : Nat) (M : yT) : zT := fun w' => if w' = w then M else Z w'
theorem zs_self (Z : zT) (w : Nat) : zs Z w (Z w) = Z := by
  funext w'
  unfold zs
  by_cases h : w' = w
  · rw [if_pos h, h]
  · rw [if_neg h]
theorem zs_rd (Z : zT) (w : Nat) (M : yT) : zs Z w M w = M := if_pos rfl
theorem up_rd (M : yT) (c k : Nat) (v : Int32) (c' k' : Nat) : s_up2 M c k v c' k' = if c' = c ∧ k' = k then v else M c' k' := rfl
theorem zs_up (Z : zT) (w : Nat) (M : yT) (c k : Nat) (v : Int32) : u3 (zs Z w M) w c k v = zs Z w (s_up2 M c k v) := by
  funext w' c' k'
  unfold u3 zs
  by_cases h : w' = w
  · subst h
    simp only [if_true, true_and, up_rd]
  · simp only [h, if_false, false_and, and_false]
theorem up_same (M : yT) (c k : Nat) (a b : Int32) : s_up2 (s_up2 M c k a) c k b = s_up2 M c k b := by
  funext c' k'
  simp only [up_rd]
  by_cases h : c' = c ∧ k' = k
  · simp only [h, and_self, if_true]
  · simp only [h, if_false]
theorem up_sort (M : yT) {c c' : Nat} (k k' : Nat) (a b : Int32) (h : c < c') : s_up2 (s_up2 M c' k' a) c k b = s_up2 (s_up2 M c k b) c' k' a := by
  funext d j
  simp only [up_rd]
  by_cases h1 : d = c
  · have h2 : ¬ d = c' := by omega
    simp only [h2, false_and, if_false]
  · simp only [h1, false_and, if_false]
theorem br_ite {α : Type} {c : Prop} [Decidable c] {P : α → Prop} {a b : α} (h : P (if c then a else b)) : (c → P a) ∧ (¬ c → P b) := by
  by_cases hc : c
  · rw [if_pos hc] at h; exact ⟨fun _ => h, fun z => absurd hc z⟩
  · rw [if_neg hc] at h; exact ⟨fun z => absurd z hc, fun _ => h⟩
theorem br_eq {α : Type} {c : Prop} [Decidable c] {P : α → Prop} {a b : α} : ((c → P a) ∧ (¬ c → P b)) = P (if c then a else b) := by
  by_cases hc : c
  · rw [if_pos hc]; exact propext ⟨fun h => h.1 hc, fun h => ⟨fun _ => h, fun z => absurd hc z⟩⟩
  · rw [if_neg hc]; exact propext ⟨fun h => h.2 hc, fun h => ⟨fun z => absurd z hc, fun _ => h⟩⟩
theorem u3_self (Z : zT) (w c k : Nat) : u3 Z w c k (Z w c k) = Z := by
  funext w' c' k'
  unfold u3
  by_cases h : c' = c ∧ w' = w ∧ k' = k
  · obtain ⟨h1, h2, h3⟩ := h
    subst h1 h2 h3
    exact if_pos ⟨rfl, rfl, rfl⟩
  · exact if_neg h
theorem up_self (M : yT) (c k : Nat) : s_up2 M c k (M c k) = M := by
  funext c' k'
  rw [up_rd]
  by_cases h : c' = c ∧ k' = k
  · obtain ⟨h1, h2⟩ := h
    subst h1 h2
    exact if_pos ⟨rfl, rfl⟩
  · exact if_neg h
theorem u3_ite (Z : zT) (w c k : Nat) (v : Int32) (p : Prop) [Decidable p] : (if p then u3 Z w c k v else Z) = u3 Z w c k (if p then v else Z w c k) := by
  by_cases h : p
  · rw [if_pos h, if_pos h]
  · rw [if_neg h, if_neg h, u3_self]
theorem up_ite (M : yT) (c k : Nat) (v : Int32) (p : Prop) [Decidable p] : (if p then s_up2 M c k v else M) = s_up2 M c k (if p then v else M c k) := by
  by_cases h : p
  · rw [if_pos h, if_pos h]
  · rw [if_neg h, if_neg h, up_self]
theorem u3_rd (Z : zT) (w c k : Nat) (v : Int32) (w' c' k' : Nat) : u3 Z w c k v w' c' k' = if c' = c ∧ w' = w ∧ k' = k then v else Z w' c' k' := rfl
/-- within: as 0 or 1 -/
def isw (x a b : Int32) : Int32 := if x < a then 0 else if b < x then 0 else 1
def fmod (x y : Int32) : Int32 := if 0 ≤ x ^^^ y then x - x / y * y else if x - x / y * y = 0 then x - x / y * y else x - x / y * y + y
def irow (t : Nat) (x : Int32) : Int32 := if x < 0 then 0 else if nI (s_tN t) ≤ x then 0 else s_tV t (Int32.toNatClampNeg x)
theorem e_isw {E : eT} {x a b : Int32} {Z : zT} {Q : Int32 → zT → Prop} : v_X6_isWithin E x a b Z Q = Q (isw x a b) Z := by
  simp only [v_X6_isWithin, v_X6_isWithin_b0, v_X6_isWithin_b14, v_X6_isWithin_b15, isw]
  by_cases h1 : x < a <;> by_cases h2 : b < x <;> simp [h1, h2]
theorem e_stk {E : eT} {x : Int32} {Z : zT} {Q : Int32 → zT → Prop} : v_X6_isOnTheStalk E x Z Q = Q (isw x 2 4) Z := by
  simp only [v_X6_isOnTheStalk, v_X6_isOnTheStalk_b0, v_X6_isOnTheStalk_b14, v_X6_isOnTheStalk_b15, isw]
  by_cases h1 : x < 2 <;> by_cases h2 : 4 < x <;> simp [h1, h2]
theorem e_oneIf {E : eT} {x : Int32} {Z : zT} {Q : Int32 → zT → Prop} : v_X6_oneIf E x Z Q = Q (if x = 0 then 0 else 1) Z := by
  simp only [v_X6_oneIf, v_X6_oneIf_b0, v_X6_oneIf_b9]
  exact br_eq (P := fun a => Q a Z)
theorem e_mix {E : eT} {d : Int64} {x : Int32} {Z : zT} {Q : Int64 → zT → Prop} : v_X6_mix E d x Z Q = Q (d * 31 + Int32.toInt64 x) Z := by
  simp only [v_X6_mix, v_X6_mix_b0, forall_eq]
theorem e_fmod {E : eT} {x y : Int32} {Z : zT} {Q : Int32 → zT → Prop} (hy : ¬ y = 0) : v_J9_floorMod_7cf53 E x y Z Q = Q (fmod x y) Z := by
  simp only [v_J9_floorMod_7cf53, v_J9_floorMod_7cf53_b0, v_J9_floorMod_7cf53_b18, forall_eq, hy, not_false_eq_true, true_and, fmod]
  by_cases h1 : 0 ≤ x ^^^ y <;> by_cases h2 : x - x / y * y = 0 <;> simp [h1, h2]
theorem s_tN_lt : ∀ t : Nat, t < 6 → s_tN t < 2147483648 := by decide
theorem e_inRow {E : eT} {t : Nat} {x : Int32} {Z : zT} {Q : Int32 → zT → Prop} (ht : t < 6) : v_X6_inRow E t x Z Q = Q (irow t x) Z := by
  simp only [v_X6_inRow, v_X6_inRow_b0, v_X6_inRow_b16, v_X6_inRow_b17, forall_eq, ht, true_and, irow]
  by_cases h1 : x < 0
  · simp [h1]
  · by_cases h2 : nI (s_tN t) ≤ x
    · simp [h1, h2]
    · have h3 : vp_in x (s_tN t) := by
        intro z
        rcases z with z | z
        · exact h1 z
        · apply h2
          rw [ti_le, ti_nI (s_tN_lt t ht)]
          have h4 : ¬ x.toInt < 0 := fun z => h1 (ti_lt.mpr z)
          have h5 := ti_clamp x
          omega
      simp [h1, h2, h3]
section
variable {E : eT} {Z : zT} {w k i : Nat} {x y : Int32}
def tkI (M : yT) (k : Nat) : Int32 := if M 12 k = 0 then 0 else if M 17 k < 0 then 0 else 1
theorem e_thirst {Q : Int32 → zT → Prop} : v_X0_thirst E w k Z Q = Q (if isw (Z w 4 k) 2 4 = 0 then 1 else 2) Z := by
  simp only [v_X0_thirst, v_X0_thirst_b0, v_X0_thirst_b15, forall_eq, e_stk]
  exact br_eq (P := fun a => Q a Z)
theorem e_takes {Q : Int32 → zT → Prop} : v_X1_takesWater E w k Z Q = Q (tkI (Z w) k) Z := by
  simp only [v_X1_takesWater, v_X1_takesWater_b0, v_X1_takesWater_b21, v_X1_takesWater_b22, forall_eq, tkI]
  by_cases h1 : Z w 12 k = 0 <;> by_cases h2 : Z w 17 k < 0 <;> simp [h1, h2]
theorem e_part {Q : Int32 → zT → Prop} : v_X1_part E w k Z Q = Q (Z w 13 k + Z w 15 k) Z := by
  simp only [v_X1_part, v_X1_part_b0, forall_eq]
theorem e_excl {Q : Int32 → zT → Prop} : v_X4_isExcluded E w k Z Q = Q (if 0 ≤ Z w 17 k then 0 else 1) Z := by
  simp only [v_X4_isExcluded, v_X4_isExcluded_b0, v_X4_isExcluded_b12, forall_eq]
  by_cases h1 : 0 ≤ Z w 17 k <;> simp [h1]
theorem e_gone {Q : Int32 → zT → Prop} : v_X3_sumOfGone E w Z Q = Q (Z w 70 0 + Z w 71 0 + Z w 72 0) Z := by
  simp only [v_X3_sumOfGone, v_X3_sumOfGone_b0, forall_eq]
def ryC (M : yT) (k : Nat) : Int32 := if M 4 k = 5 then irow 3 (M 5 k) * M 7 k / 100 * (50 + M 9 k) / 100 else 0
theorem e_ripeYield {Q : Int32 → zT → Prop} : v_X0_ripeYield E w k Z Q = Q (ryC (Z w) k) Z := by
  simp only [v_X0_ripeYield, v_X0_ripeYield_b0, forall_eq, e_inRow (show 3 < 6 by decide), ryC]
  by_cases h1 : Z w 4 k = 5 <;> simp [h1]
theorem e_openOn {Q : Int32 → zT → Prop} : v_X5_isOpenOn E w i x Z Q = Q (if Z w 35 i ≤ fmod (x - Z w 34 i) 210 then 0 else 1) Z := by
  simp only [v_X5_isOpenOn, v_X5_isOpenOn_b0, v_X5_isOpenOn_b24, forall_eq, e_fmod (show ¬ (210 : Int32) = 0 by decide)]
  by_cases h1 : Z w 35 i ≤ fmod (x - Z w 34 i) 210 <;> simp [h1]
theorem e_templeDay {Q : Int32 → zT → Prop} : v_X2_templeDay E w Z Q = Q (fmod (Z w 64 0) 210) Z := by
  simp only [v_X2_templeDay, v_X2_templeDay_b0, forall_eq, e_fmod (show ¬ (210 : Int32) = 0 by decide)]
theorem e_isDark {Q : Int32 → zT → Prop} : v_X2_isDark E w Z Q = Q (if Z w 64 0 - Z w 64 0 / 30 * 30 = 0 then 1 else 0) Z := by
  simp only [v_X2_isDark, v_X2_isDark_b0, v_X2_isDark_b15, forall_eq]
  by_cases h1 : Z w 64 0 - Z w 64 0 / 30 * 30 = 0 <;> simp [h1]
def rateC (E : eT) (M : yT) (i : Nat) : Int32 := if nI (ce_mem E i).length = 0 then 0 else M 40 i / nI (ce_mem E i).length
theorem e_cpf {Q : Int32 → zT → Prop} : v_X5_cropPerField E w i Z Q = Q (rateC E (Z w) i) Z := by
  simp only [v_X5_cropPerField, v_X5_cropPerField_b0, v_X5_cropPerField_b22, forall_eq, rateC]
  by_cases h1 : nI (ce_mem E i).length = 0 <;> simp [h1]
theorem e_begin {Q : zT → Prop} : v_X0_begin E w k x Z Q = Q (u3 (u3 (u3 (u3 (u3 (u3 (u3 Z w 4 k 2) w 5 k x) w 6 k 0) w 7 k 100) w 10 k 0) w 20 k 0) w 21 k 120) := by
  simp only [v_X0_begin, v_X0_begin_b0, forall_eq]
theorem e_end {Q : zT → Prop} : v_X0_end E w k Z Q = Q (u3 (u3 (u3 (u3 Z w 4 k 0) w 5 k (-1)) w 6 k 0) w 7 k 0) := by
  simp only [v_X0_end, v_X0_end_b0, forall_eq]
def hurtC (M : yT) (k : Nat) (w p : Int32) : Int32 := if 2 ≤ w then (if w ≤ 20 then p / 20 else p / 20 + irow 5 (M 4 k)) else p / 20 + irow 4 (M 4 k)
theorem e_suffer {Q : zT → Prop} : v_X0_suffer E w k x y Z Q = Q (u3 Z w 7 k (s_max 0 (Z w 7 k - hurtC (Z w) k x y))) := by
  simp only [v_X0_suffer, v_X0_suffer_b0, v_X0_suffer_b45, forall_eq, e_inRow (show 5 < 6 by decide), e_inRow (show 4 < 6 by decide), hurtC]
  by_cases h1 : 2 ≤ x <;> by_cases h2 : x ≤ 20 <;> simp [h1, h2]
def ripC (M : yT) (k : Nat) : Int32 := if M 6 k < irow 2 (M 5 k) then (if M 6 k < irow 1 (M 5 k) then (if M 6 k < irow 0 (M 5 k) then M 4 k else 3) else 4) else 5
theorem e_ripen {Q : zT → Prop} : v_X0_ripen E w k Z Q = Q (u3 Z w 4 k (ripC (Z w) k)) := by
  simp only [v_X0_ripen, v_X0_ripen_b0, v_X0_ripen_b72, forall_eq, e_inRow (show 2 < 6 by decide), e_inRow (show 1 < 6 by decide), e_inRow (show 0 < 6 by decide), ripC]
  by_cases h1 : Z w 6 k < irow 2 (Z w 5 k) <;> by_cases h2 : Z w 6 k < irow 1 (Z w 5 k) <;> by_cases h3 : Z w 6 k < irow 0 (Z w 5 k) <;> simp [h1, h2, h3, u3_self]
theorem e_settle {Q : zT → Prop} : v_X1_settlePests E w k Z Q = Q (u3 (u3 Z w 8 k (s_min 99 (Z w 8 k + Z w 23 k))) w 23 k 0) := by
  simp only [v_X1_settlePests, v_X1_settlePests_b0, forall_eq]
def dryC (M : yT) (k : Nat) : Int32 := if M 1 k ≤ 0 then M 3 k + 1 else 0
def crkC (M : yT) (k : Nat) : Int32 := if M 1 k ≤ 0 ∧ M 3 k + 1 - (M 3 k + 1) / 3 * 3 = 0 then s_min 3 (M 2 k + 1) else M 2 k
theorem e_dry {Q : zT → Prop} : v_X1_dryOut E w k Z Q = Q (u3 (u3 Z w 3 k (dryC (Z w) k)) w 2 k (crkC (Z w) k)) := by
  simp only [v_X1_dryOut, v_X1_dryOut_b0, v_X1_dryOut_b46, forall_eq, dryC, crkC, u3_rd]
  have h3 : u3 (u3 Z w 3 k (Z w 3 k + 1)) w 2 k (Z w 2 k) = u3 Z w 3 k (Z w 3 k + 1) := u3_self (u3 Z w 3 k (Z w 3 k + 1)) w 2 k
  have h4 : u3 (u3 Z w 3 k 0) w 2 k (Z w 2 k) = u3 Z w 3 k 0 := u3_self (u3 Z w 3 k 0) w 2 k
  by_cases h1 : Z w 1 k ≤ 0 <;> by_cases h2 : Z w 3 k + 1 - (Z w 3 k + 1) / 3 * 3 = 0 <;> simp [h1, h2, h3, h4]
def pstC (M : yT) (k : Nat) : Int32 := if isw (M 4 k) 2 4 = 0 then (if M 4 k = 5 then M 8 k else M 8 k / 2) else M 8 k + (1 + M 8 k / 4)
def pesC (M : yT) (k : Nat) : Int32 := s_max 0 (s_min 99 (if M 16 k = 0 then pstC M k else pstC M k - 4))
theorem u3_same (Z : zT) (w c k : Nat) (a b : Int32) : u3 (u3 Z w c k a) w c k b = u3 Z w c k b := by
  funext w' c' k'
  unfold u3
  by_cases h : c' = c ∧ w' = w ∧ k' = k
  · simp only [h, and_self, if_true]
  · simp only [h, if_false]
theorem e_breed {Q : zT → Prop} : v_X1_breedPests E w k Z Q = Q (u3 Z w 8 k (pesC (Z w) k)) := by
  simp only [v_X1_breedPests, v_X1_breedPests_b0, v_X1_breedPests_b54, v_X1_breedPests_b71, forall_eq, e_stk, pesC, pstC, u3_rd]
  generalize isw (Z w 4 k) 2 4 = s
  by_cases h1 : s = 0 <;> by_cases h2 : Z w 4 k = 5 <;> by_cases h3 : Z w 16 k = 0 <;> simp [h1, h2, h3, u3_same]
theorem e_learn {Q : zT → Prop} : v_X0_learn E w k x Z Q = Q (u3 (u3 Z w 20 k (s_max (Z w 20 k) ((100 * x + 109) / 110))) w 21 k (s_min (Z w 21 k) ((100 * (x + 1) - 1) / 90))) := by
  simp only [v_X0_learn, v_X0_learn_b0, forall_eq, u3_rd]
  simp
end
