/-! ===== p31: the class's calls, by columns ===== -/
section
variable {E : eT} {n : Nat} {M M1 N M' N' : yT} {Z : zT} {x1 x2 x3 : Int32} {k j i : Nat}
theorem vp_k {m : Nat} (hk : k < m) (hm : m ≤ 12) : vp_in (nI k) m := by rw [nI_vp (by omega)]; exact hk
theorem k_field (h12 : E.2.1 ≤ 12) (hk : k < E.2.1) {Q : Nat → zT → Prop} : v_X6_fieldAt E (nI k) Z Q = Q k Z := by
  rw [c_fieldAt h12 (vp_k hk h12), nI_cl (by omega)]
theorem k_soc (h3 : E.1 ≤ 3) (hi : i < E.1) {Q : Nat → zT → Prop} : v_X6_societyAt E (nI i) Z Q = Q i Z := by
  rw [c_societyAt h3 (vp_k hi (by omega)), nI_cl (by omega)]
/-- the numbers of the class, with some ghost beside them -/
def LG (E : eT) (n : Nat) (M M1 : yT) : Prop := ∃ N' : yT, LJ E n M M1 N'
theorem c_gate (h : LI E n Z N) (hk : k < E.2.1) (hb : x2 = 0 ∨ x2 = 1) : (∀ Q : Int32 → zT → Prop, Q (Z 0 12 k) (zs Z 0 (s_up2 (Z 0) 12 k x2)) → v_X6_gate E (nI k) x2 Z Q) ∧ LG E n (s_up2 (Z 0) 12 k x2) (Z 1) := by
  have h12 : E.2.1 ≤ 12 := (LJ_EW h).2.1
  have hi : iF n (Z 0) k := h.2.2.1 k hk
  refine ⟨fun Q hq => ?_, s_up2 N 12 k x2, LJ_f (by omega) h rfl ?_⟩
  · simp only [v_X6_gate, v_X6_gate_b0, k_field h12 hk, forall_eq, u3_zs]
    exact ⟨hb, hi.2.2.1.1, hq⟩
  · unfold iF at hi ⊢
    simp only [up_rd, Nat.reduceEqDiff, false_and, and_self, if_true, if_false, reduceIte]
    exact ⟨hi.1, hi.2.1, ⟨hb, hi.2.2.1.2⟩, hi.2.2.2⟩
theorem c_stones (h : LI E n Z N) (hk : k < E.2.1) (hs : ¬ isw x2 0 5 = 0) : (∀ Q : Int32 → zT → Prop, Q (Z 0 15 k) (zs Z 0 (s_up2 (Z 0) 15 k x2)) → v_X6_stones E (nI k) x2 Z Q) ∧ LG E n (s_up2 (Z 0) 15 k x2) (Z 1) := by
  have h12 : E.2.1 ≤ 12 := (LJ_EW h).2.1
  have hi : iF n (Z 0) k := h.2.2.1 k hk
  have hb := isw_b hs
  have l0 : (0 : Int32).toInt = 0 := rfl
  have l5 : (5 : Int32).toInt = 5 := rfl
  refine ⟨fun Q hq => ?_, s_up2 N 15 k x2, LJ_f (by omega) h rfl ?_⟩
  · simp only [v_X6_stones, v_X6_stones_b0, k_field h12 hk, e_isw, hs, forall_eq, u3_zs, not_false_eq_true, false_implies, and_true, forall_const]
    exact hq
  · unfold iF at hi ⊢
    simp only [up_rd, Nat.reduceEqDiff, false_and, and_self, if_true, if_false, reduceIte]
    exact ⟨hi.1, hi.2.1, ⟨hi.2.2.1.1, hi.2.2.1.2.1, hi.2.2.1.2.2.1, by omega, by omega, hi.2.2.1.2.2.2.2.2⟩, hi.2.2.2⟩
theorem c_rotate (h : LI E n Z N) (hi : i < E.1) (hb : x2 = 0 ∨ x2 = 1) : (∀ Q : Int32 → zT → Prop, Q (Z 0 38 i) (zs Z 0 (s_up2 (Z 0) 38 i x2)) → v_X6_rotate E (nI i) x2 Z Q) ∧ LG E n (s_up2 (Z 0) 38 i x2) (Z 1) := by
  have h3 : E.1 ≤ 3 := (LJ_EW h).1
  have hS : iS (Z 0) i := h.2.2.2.1 i hi
  refine ⟨fun Q hq => ?_, s_up2 N 38 i x2, LJ_s (by omega) h rfl ?_⟩
  · simp only [v_X6_rotate, v_X6_rotate_b0, k_soc h3 hi, forall_eq, u3_zs]
    exact ⟨hb, hS.2.2.2.2, hq⟩
  · unfold iS at hS ⊢
    simp only [up_rd, Nat.reduceEqDiff, false_and, and_self, if_true, if_false, reduceIte]
    exact ⟨hS.1, hS.2.1, hS.2.2.1, hS.2.2.2.1, hb⟩
theorem c_ducks (h : LI E n Z N) (hk : k < E.2.1) (hb : x2 = 0 ∨ x2 = 1) : (∀ Q : Int32 → zT → Prop, Q (Z 0 8 k) (zs Z 0 (s_up2 (Z 0) 16 k x2)) → v_X6_ducks E (nI k) x2 Z Q) ∧ LG E n (s_up2 (Z 0) 16 k x2) (Z 1) := by
  have h12 : E.2.1 ≤ 12 := (LJ_EW h).2.1
  have hi : iF n (Z 0) k := h.2.2.1 k hk
  refine ⟨fun Q hq => ?_, s_up2 N 16 k x2, LJ_f (by omega) h rfl ?_⟩
  · simp only [v_X6_ducks, v_X6_ducks_b0, k_field h12 hk, forall_eq, u3_zs, zs_rd, up_rd, Nat.reduceEqDiff, false_and, if_false]
    exact ⟨hb, hq⟩
  · unfold iF at hi ⊢
    simp only [up_rd, Nat.reduceEqDiff, false_and, and_self, if_true, if_false, reduceIte]
    exact ⟨hi.1, hi.2.1, ⟨hi.2.2.1.1, hi.2.2.1.2.1, hi.2.2.1.2.2.1, hi.2.2.1.2.2.2.1, hi.2.2.1.2.2.2.2.1, hb⟩, hi.2.2.2⟩
/-- who worked, for whom -/
def helM (a k : Nat) (M : yT) : yT := (fun X : yT => s_up2 X 10 k (M 10 k + 1)) ((fun X : yT => s_up2 X 18 k (X 18 k - 1)) (s_up2 M 18 a (M 18 a + 1)))
theorem c_help (h : LI E n Z N) (hj : j < E.2.1) (hk : k < E.2.1) : (∀ Q : Int32 → zT → Prop, Q (Z 0 10 k + 1) (zs Z 0 (helM j k (Z 0))) → v_X6_help E (nI j) (nI k) Z Q) ∧ LG E n (helM j k (Z 0)) (Z 1) := by
  have h12 : E.2.1 ≤ 12 := (LJ_EW h).2.1
  refine ⟨fun Q hq => ?_, _, LJ_p (by unfold plainC; omega) (LJ_p (by unfold plainC; omega) (LJ_p (by unfold plainC; omega) h rfl) rfl) rfl⟩
  unfold helM at hq
  simp only [v_X6_help, v_X6_help_b0, k_field h12 hj, k_field h12 hk, forall_eq, u3_zs, zs_zs, zs_rd, up_rd, Nat.reduceEqDiff, false_and, and_self, if_true, if_false, reduceIte] at hq ⊢
  exact hq
def selM (k : Nat) (x : Int32) (M : yT) : yT := s_up2 (s_up2 M 19 k (M 19 k - x)) 17 k (M 17 k + x)
theorem c_sell (h : LI E n Z N) (hk : k < E.2.1) (c1 : (1 : Int32) ≤ x2) (c2 : x2 ≤ Z 0 19 k) : (∀ Q : Int32 → zT → Prop, Q (Z 0 17 k + x2) (zs Z 0 (selM k x2 (Z 0))) → v_X6_sell E (nI k) x2 Z Q) ∧ LG E n (selM k x2 (Z 0)) (Z 1) := by
  have h12 : E.2.1 ≤ 12 := (LJ_EW h).2.1
  refine ⟨fun Q hq => ?_, _, LJ_p (by unfold plainC; omega) (LJ_p (by unfold plainC; omega) h rfl) rfl⟩
  unfold selM at hq
  simp only [v_X6_sell, v_X6_sell_b0, k_field h12 hk, forall_eq, u3_zs, zs_zs, zs_rd, up_rd, Nat.reduceEqDiff, false_and, and_self, if_true, if_false, reduceIte, c1, c2, forall_const, not_true_eq_false, false_implies, and_true]
  exact hq
def pudM (k : Nat) (M : yT) : yT := s_up2 (s_up2 M 4 k 1) 2 k 0
theorem pudM_rd {c : Nat} (h : ¬ ((c = 4 ∨ c = 2) ∧ j = k)) : pudM k M c j = M c j := by
  unfold pudM
  rw [up_rd, up_rd, if_neg (by omega), if_neg (by omega)]
theorem c_puddle (h : LI E n Z N) (hk : k < E.2.1) (c1 : Z 0 4 k = 0) (c2 : (10 : Int32) ≤ Z 0 1 k) : (∀ Q : Int32 → zT → Prop, Q (Z 0 1 k) (zs Z 0 (pudM k (Z 0))) → v_X6_puddle E (nI k) Z Q) ∧ LG E n (pudM k (Z 0)) (Z 1) := by
  have h12 : E.2.1 ≤ 12 := (LJ_EW h).2.1
  have l1 : (1 : Int32).toInt = 1 := rfl
  have l0 : (0 : Int32).toInt = 0 := rfl
  have hi : iF n (Z 0) k := h.2.2.1 k hk
  have hlo := h.2.2.2.2.2.2.2.2.1 k hk
  refine ⟨fun Q hq => ?_, pudM k N, LJ_k (W := fun c => c = 4 ∨ c = 2) h hk (fun c z => by omega) (fun c j z => pudM_rd z) (fun c j z _ => pudM_rd z) (fun c z _ => ?_) (fun z => ?_) ?_ (fun _ => ?_)⟩
  · unfold pudM at hq
    simp only [v_X6_puddle, v_X6_puddle_b0, k_field h12 hk, forall_eq, u3_zs, zs_zs, zs_rd, up_rd, Nat.reduceEqDiff, false_and, if_false, c1, c2, forall_const, not_true_eq_false, false_implies, true_and, and_true]
    exact hq
  · unfold pudM
    simp only [up_rd, and_true]
    rcases z with z | z <;> subst z <;> rfl
  · unfold pudM at z
    simp only [up_rd, Nat.reduceEqDiff, false_and, and_self, if_true, if_false, reduceIte, l1] at z; omega
  · unfold pudM
    unfold iF at hi ⊢
    simp only [up_rd, Nat.reduceEqDiff, false_and, and_self, if_true, if_false, reduceIte]
    exact ⟨⟨hi.1.1, by decide, by decide, hi.1.2.2.2⟩, ⟨by decide, by decide, hi.2.1.2.2⟩, hi.2.2.1, fun z => absurd z (by decide)⟩
  · unfold pudM
    simp only [up_rd, Nat.reduceEqDiff, false_and, if_false]
    exact hlo (by rw [c1]; decide)
theorem c_plant (h : LI E n Z N) (hk : k < E.2.1) (c1 : ¬ isw x2 0 2 = 0) (c2 : Z 0 4 k = 1) (c3 : ¬ Z 0 64 0 - Z 0 64 0 / 30 * 30 = 0) (c4 : (3 : Int32) ≤ Z 0 10 k) : (∀ Q : Int32 → zT → Prop, Q (Z 0 64 0) (zs Z 0 (begS k x2 (Z 0))) → v_X6_plant E (nI k) x2 Z Q) ∧ LG E n (begS k x2 (Z 0)) (Z 1) := by
  have h12 : E.2.1 ≤ 12 := (LJ_EW h).2.1
  have n1 : ¬ (1 : Int32) = 0 := by decide
  have l2 : (2 : Int32).toInt = 2 := rfl
  have l0 : (0 : Int32).toInt = 0 := rfl
  have hi : iF n (Z 0) k := h.2.2.1 k hk
  have hx := isw_b c1
  obtain ⟨⟨b4, b5, b6, b7⟩, b10, b20, b21⟩ := begS_k (k := k) (x := x2) (M := Z 0)
  obtain ⟨⟨d4, d5, d6, d7⟩, d10, d20, d21⟩ := begS_k (k := k) (x := x2) (M := N)
  refine ⟨fun Q hq => ?_, begS k x2 N, LJ_k (W := fun c => c = 4 ∨ c = 5 ∨ c = 6 ∨ c = 7 ∨ c = 10 ∨ c = 20 ∨ c = 21) h hk (fun c z => by omega) (fun c j z => begS_rd z) (fun c j z _ => begS_rd z) (fun c z _ => ?_) (fun z => ?_) (iF_beg hi (by omega)) (fun z => ?_)⟩
  · simp only [v_X6_plant, v_X6_plant_b0, k_field h12 hk, v_X6_checkKind, v_X6_checkKind_b0, e_isw, c1, c2, c3, c4, e_isDark, e_begin, forall_eq, u3_zs, zs_zs, zs_rd, up_rd, Nat.reduceEqDiff, false_and, if_false, n1, forall_const, not_true_eq_false, not_false_eq_true, false_implies, true_and, and_true]
    exact hq
  · rcases z with z | z | z | z | z | z | z <;> subst z
    · rw [b4, d4]
    · rw [b5, d5]
    · rw [b6, d6]
    · rw [b7, d7]
    · rw [b10, d10]
    · rw [b20, d20]
    · rw [b21, d21]
  · rw [b5, d5, b6, d6, b7, d7]
    exact ⟨rfl, rfl, rfl⟩
  · rw [b4, l2] at z; omega
/-- a harvest; the straw is burnt where b isn't 0 -/
def harM (E : eT) (k : Nat) (b : Int32) (M : yT) : yT := (fun X : yT => if b = 0 then s_up2 X 9 k (s_min 50 (M 9 k + 10)) else s_up2 X 8 k (M 8 k / 2)) (s_up2 (s_up2 (s_up2 (s_up2 (s_up2 (s_up2 (s_up2 (s_up2 M 74 0 (M 74 0 + ryC M k)) 40 (E.2.2 k) (M 40 (E.2.2 k) + ryC M k)) 36 (E.2.2 k) (M 36 (E.2.2 k) + ryC M k / 10)) 19 k (M 19 k + (ryC M k - ryC M k / 10))) 4 k 0) 5 k (-1)) 6 k 0) 7 k 0)
theorem harM_rd {c : Nat} (h : ¬ (c = 74 ∨ c = 40 ∨ c = 36) ∧ ¬ ((c = 19 ∨ c = 4 ∨ c = 5 ∨ c = 6 ∨ c = 7 ∨ c = 8 ∨ c = 9) ∧ j = k)) : harM E k x1 M c j = M c j := by
  unfold harM
  dsimp only
  split <;> simp only [up_rd] <;> rw [if_neg (by omega), if_neg (by omega), if_neg (by omega), if_neg (by omega), if_neg (by omega), if_neg (by omega), if_neg (by omega), if_neg (by omega), if_neg (by omega)]
/-- what is booked, before the field is cleared -/
def harB (E : eT) (k : Nat) (M : yT) : yT := s_up2 (s_up2 (s_up2 (s_up2 M 74 0 (M 74 0 + ryC M k)) 40 (E.2.2 k) (M 40 (E.2.2 k) + ryC M k)) 36 (E.2.2 k) (M 36 (E.2.2 k) + ryC M k / 10)) 19 k (M 19 k + (ryC M k - ryC M k / 10))
theorem harB_rd {c : Nat} (h : c ≠ 74 ∧ c ≠ 40 ∧ c ≠ 36 ∧ c ≠ 19) : harB E k M c j = M c j := by
  unfold harB
  rw [up_rd, up_rd, up_rd, up_rd, if_neg (by omega), if_neg (by omega), if_neg (by omega), if_neg (by omega)]
theorem harB_LJ (h : LI E n Z N) : ∃ N1 : yT, (∀ c j, c = 8 ∨ c = 9 → N1 c j = N c j) ∧ LJ E n (harB E k (Z 0)) (Z 1) N1 := by
  have pl : ∀ c, c = 19 ∨ c = 36 ∨ c = 40 ∨ c = 74 → plainC c := fun c z => by unfold plainC; omega
  refine ⟨s_up2 (s_up2 (s_up2 (s_up2 N 74 0 (Z 0 74 0 + ryC (Z 0) k)) 40 (E.2.2 k) (Z 0 40 (E.2.2 k) + ryC (Z 0) k)) 36 (E.2.2 k) (Z 0 36 (E.2.2 k) + ryC (Z 0) k / 10)) 19 k (Z 0 19 k + (ryC (Z 0) k - ryC (Z 0) k / 10)), fun c j z => ?_, ?_⟩
  · rw [up_rd, up_rd, up_rd, up_rd, if_neg (by omega), if_neg (by omega), if_neg (by omega), if_neg (by omega)]
  · unfold harB
    exact LJ_p (pl 19 (by omega)) (LJ_p (pl 36 (by omega)) (LJ_p (pl 40 (by omega)) (LJ_p (pl 74 (by omega)) h rfl) rfl) rfl) rfl
theorem harM_0 : harM E k 0 M = s_up2 (s_up2 (s_up2 (s_up2 (s_up2 (harB E k M) 4 k 0) 5 k (-1)) 6 k 0) 7 k 0) 9 k (s_min 50 (M 9 k + 10)) := by
  unfold harM harB
  dsimp only
  rw [if_pos rfl]
theorem harM_1 : harM E k 1 M = s_up2 (s_up2 (s_up2 (s_up2 (s_up2 (harB E k M) 4 k 0) 5 k (-1)) 6 k 0) 7 k 0) 8 k (M 8 k / 2) := by
  unfold harM harB
  dsimp only
  rw [if_neg (by decide)]
theorem har_c0 (h12 : E.2.1 ≤ 12) (hk : k < E.2.1) (c1 : Z 0 4 k = 5) {Q : Int32 → zT → Prop} (hq : Q (ryC (Z 0) k) (zs Z 0 (harM E k 0 (Z 0)))) : v_X6_harvest E (nI k) 0 Z Q := by
  rw [harM_0] at hq
  unfold harB at hq
  simp only [v_X6_harvest, v_X6_harvest_b0, v_X6_ripeFieldAt, v_X6_ripeFieldAt_b0, k_field h12 hk, e_ripeYield, v_X1_clear, v_X1_clear_b0, v_X1_clear_b46, e_end, forall_eq, u3_zs, zs_zs, zs_rd, up_rd, Nat.reduceEqDiff, false_and, and_self, if_true, if_false, reduceIte, c1, forall_const, not_true_eq_false, false_implies, and_true]
  rw [perm4]
  exact hq
theorem har_c1 (h12 : E.2.1 ≤ 12) (hk : k < E.2.1) (c1 : Z 0 4 k = 5) {Q : Int32 → zT → Prop} (hq : Q (ryC (Z 0) k) (zs Z 0 (harM E k 1 (Z 0)))) : v_X6_harvest E (nI k) 1 Z Q := by
  have n1 : ¬ (1 : Int32) = 0 := by decide
  rw [harM_1] at hq
  unfold harB at hq
  simp only [v_X6_harvest, v_X6_harvest_b0, v_X6_ripeFieldAt, v_X6_ripeFieldAt_b0, k_field h12 hk, e_ripeYield, v_X1_clear, v_X1_clear_b0, v_X1_clear_b46, e_end, forall_eq, u3_zs, zs_zs, zs_rd, up_rd, Nat.reduceEqDiff, false_and, and_self, if_true, if_false, reduceIte, c1, n1, forall_const, not_true_eq_false, not_false_eq_true, false_implies, true_and, and_true]
  rw [perm4]
  exact hq
theorem har_L0 (h : LI E n Z N) (hk : k < E.2.1) : LG E n (harM E k 0 (Z 0)) (Z 1) := by
  obtain ⟨N1, hN1, hB⟩ := harB_LJ (k := k) h
  have hi : iF n (harB E k (Z 0)) k := hB.2.2.1 k hk
  have e9 : harB E k (Z 0) 9 k = Z 0 9 k := harB_rd (by decide)
  have l0 : (0 : Int32).toInt = 0 := rfl
  have l50 : (50 : Int32).toInt = 50 := rfl
  have l10 : (10 : Int32).toInt = 10 := rfl
  rw [harM_0]
  generalize harB E k (Z 0) = X at hB hi e9
  rw [← e9]
  refine ⟨s_up2 (s_up2 N1 4 k 0) 9 k (s_min 50 (X 9 k + 10)), LJ_k (W := fun c => c = 4 ∨ c = 5 ∨ c = 6 ∨ c = 7 ∨ c = 9) hB hk (fun c z => by omega) (fun c j z => ?_) (fun c j z _ => ?_) (fun c z hc => ?_) (fun z => ?_) ?_ (fun _ => ?_)⟩
  · rw [up_rd, up_rd, up_rd, up_rd, up_rd, if_neg (by omega), if_neg (by omega), if_neg (by omega), if_neg (by omega), if_neg (by omega)]
  · rw [up_rd, up_rd, if_neg (by omega), if_neg (by omega)]
  · simp only [up_rd, and_true]
    unfold Ch at hc
    rcases z with z | z | z | z | z <;> subst z
    · rfl
    · omega
    · omega
    · omega
    · rfl
  · simp only [up_rd, Nat.reduceEqDiff, false_and, and_self, if_true, if_false, reduceIte, l0] at z; omega
  · have hn := hi.2.1
    have s1 : (X 9 k + 10).toInt = (X 9 k).toInt + 10 := by rw [ti_add (by omega) (by omega), l10]
    have s2 : 0 ≤ (s_min 50 (X 9 k + 10)).toInt ∧ (s_min 50 (X 9 k + 10)).toInt ≤ 50 := by rw [ti_min, l50, s1]; split <;> omega
    unfold iF at hi ⊢
    simp only [up_rd, Nat.reduceEqDiff, false_and, and_self, if_true, if_false, reduceIte]
    exact ⟨hi.1, ⟨by decide, by decide, hi.2.1.2.2.1, hi.2.1.2.2.2.1, s2.1, s2.2⟩, hi.2.2.1, fun z => absurd z (by decide)⟩
  · simp only [up_rd, Nat.reduceEqDiff, false_and, and_self, if_true, if_false, reduceIte]
theorem har_L1 (h : LI E n Z N) (hk : k < E.2.1) : LG E n (harM E k 1 (Z 0)) (Z 1) := by
  obtain ⟨N1, hN1, hB⟩ := harB_LJ (k := k) h
  have hi : iF n (harB E k (Z 0)) k := hB.2.2.1 k hk
  have e8 : harB E k (Z 0) 8 k = Z 0 8 k := harB_rd (by decide)
  have l0 : (0 : Int32).toInt = 0 := rfl
  have l2 : (2 : Int32).toInt = 2 := rfl
  rw [harM_1]
  generalize harB E k (Z 0) = X at hB hi e8
  rw [← e8]
  refine ⟨s_up2 (s_up2 N1 4 k 0) 8 k (X 8 k / 2), LJ_k (W := fun c => c = 4 ∨ c = 5 ∨ c = 6 ∨ c = 7 ∨ c = 8) hB hk (fun c z => by omega) (fun c j z => ?_) (fun c j z _ => ?_) (fun c z hc => ?_) (fun z => ?_) ?_ (fun _ => ?_)⟩
  · rw [up_rd, up_rd, up_rd, up_rd, up_rd, if_neg (by omega), if_neg (by omega), if_neg (by omega), if_neg (by omega), if_neg (by omega)]
  · rw [up_rd, up_rd, if_neg (by omega), if_neg (by omega)]
  · simp only [up_rd, and_true]
    unfold Ch at hc
    rcases z with z | z | z | z | z <;> subst z
    · rfl
    · omega
    · omega
    · omega
    · rfl
  · simp only [up_rd, Nat.reduceEqDiff, false_and, and_self, if_true, if_false, reduceIte, l0] at z; omega
  · have hn := hi.2.1
    have s1 : (X 8 k / 2).toInt = (X 8 k).toInt / 2 := by rw [ti_div hn.2.2.1 (by rw [l2]; decide), l2]
    unfold iF at hi ⊢
    simp only [up_rd, Nat.reduceEqDiff, false_and, and_self, if_true, if_false, reduceIte]
    exact ⟨hi.1, ⟨by decide, by decide, by omega, by omega, hi.2.1.2.2.2.2.1, hi.2.1.2.2.2.2.2⟩, hi.2.2.1, fun z => absurd z (by decide)⟩
  · simp only [up_rd, Nat.reduceEqDiff, false_and, and_self, if_true, if_false, reduceIte]
theorem c_harvest (h : LI E n Z N) (hk : k < E.2.1) (hb : x2 = 0 ∨ x2 = 1) (c1 : Z 0 4 k = 5) : (∀ Q : Int32 → zT → Prop, Q (ryC (Z 0) k) (zs Z 0 (harM E k x2 (Z 0))) → v_X6_harvest E (nI k) x2 Z Q) ∧ LG E n (harM E k x2 (Z 0)) (Z 1) := by
  have h12 : E.2.1 ≤ 12 := (LJ_EW h).2.1
  rcases hb with b | b
  · subst b
    exact ⟨fun Q hq => har_c0 h12 hk c1 hq, har_L0 h hk⟩
  · subst b
    exact ⟨fun Q hq => har_c1 h12 hk c1 hq, har_L1 h hk⟩
end
