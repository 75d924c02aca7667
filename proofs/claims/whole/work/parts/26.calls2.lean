section
variable {E : eT} {F : fT} {n : Nat} {M M1 N M' N' : yT} {Z : zT} {x1 x2 x3 : Int32} {k i : Nat}
theorem isw_b {a b : Int32} (h : ¬ isw x1 a b = 0) : a.toInt ≤ x1.toInt ∧ x1.toInt ≤ b.toInt := by
  unfold isw at h
  by_cases c1 : x1 < a
  · rw [if_pos c1] at h; exact absurd rfl h
  · rw [if_neg c1] at h
    by_cases c2 : b < x1
    · rw [if_pos c2] at h; exact absurd rfl h
    · rw [ti_lt] at c1; rw [ti_lt] at c2; omega
theorem isw_01 {a b : Int32} : isw x1 a b = 0 ∨ isw x1 a b = 1 := by
  unfold isw
  split
  · exact Or.inl rfl
  · split
    · exact Or.inl rfl
    · exact Or.inr rfl
theorem m_rotate (h : LI E n Z N) (hF : F.1 = E.1) (hb : x2 = 0 ∨ x2 = 1) : RES E n Z N (v_X6_rotate E x1 x2 Z) (vT_X6_rotate E x1 x2 Z) (v_X8_rotate F x1 x2 N) [xI] := by
  have h12 : E.1 ≤ 3 := (LJ_EW h).1
  by_cases hv : vp_in x1 E.1
  · have hi := h.2.2.2.1 _ (vp_lt hv)
    have hg := hi.2.2.2.2
    refine Or.inl ⟨Z 0 38 (Int32.toNatClampNeg x1), zs Z 0 (s_up2 (Z 0) 38 (Int32.toNatClampNeg x1) x2), s_up2 (s_up2 N 80 0 0) 38 (Int32.toNatClampNeg x1) x2, fun Q hq => ?_, fun Q hq => ?_, rfl, LI_zs (LJ_s (by omega) (LJ_80 h) rfl ?_)⟩
    · simp only [v_X6_rotate, v_X6_rotate_b0, c_societyAt h12 hv, forall_eq, u3_zs]
      exact ⟨hb, hg, hq⟩
    · rw [LI_ch h (by unfold Ch; decide)] at hq hg
      simp only [v_X8_rotate, v_X8_rotate_b0, r_isS (hF ▸ h12) (hF ▸ hv), v_X8_rotate_b14, v_X8_rotate_b47, v_X8_rotate_b68, forall_eq, up_rd, show ¬ (1 : Int32) = 0 by decide, Nat.reduceEqDiff, false_and, and_self, if_true, if_false, false_implies, true_and, not_false_eq_true, forall_const, show (0 : Int32) ≤ 0 by decide, not_true_eq_false, and_true, hF, hv, show vp_in (6 : Int32) 10 by unfold vp_in; decide, show 32 + Int32.toNatClampNeg (6 : Int32) = 38 by decide]
      rcases hb with b | b <;> rcases hg with g | g <;> rw [b] at hq ⊢ <;> rw [g] at hq ⊢ <;> simp [hq]
    · unfold iS at hi ⊢
      simp only [up_rd, Nat.reduceEqDiff, false_and, and_self, if_true, if_false, reduceIte]
      exact ⟨hi.1, hi.2.1, hi.2.2.1, hi.2.2.2.1, hb⟩
  · refine Or.inr ⟨0, xI, 0, s_up2 N 80 0 1, rfl, fun Q hq => ?_, fun Q hq => ?_, rfl, LJ_80 h⟩
    · exact Or.inr (by rw [t_societyAt h12 hv]; exact hq)
    · simp only [v_X8_rotate, v_X8_rotate_b0, r_isS0 (hF ▸ h12) (hF ▸ hv), v_X8_rotate_b14, forall_eq, up_rd, and_self, if_true, not_true_eq_false, false_implies, and_true, forall_const, show ¬ (1 : Int32) ≤ 0 by decide, true_and, not_false_eq_true]
      exact hq
theorem m_ducks (h : LI E n Z N) (hF : F.2.1 = E.2.1) (hb : x2 = 0 ∨ x2 = 1) : RES E n Z N (v_X6_ducks E x1 x2 Z) (vT_X6_ducks E x1 x2 Z) (v_X8_ducks F x1 x2 N) [xI] := by
  have h12 : E.2.1 ≤ 12 := (LJ_EW h).2.1
  by_cases hv : vp_in x1 E.2.1
  · have hi := LI_iF h hv
    refine Or.inl ⟨Z 0 8 (Int32.toNatClampNeg x1), zs Z 0 (s_up2 (Z 0) 16 (Int32.toNatClampNeg x1) x2), s_up2 (s_up2 N 80 0 0) 16 (Int32.toNatClampNeg x1) x2, fun Q hq => ?_, fun Q hq => ?_, rfl, LI_zs (LJ_f (by omega) (LJ_80 h) rfl ?_)⟩
    · simp only [v_X6_ducks, v_X6_ducks_b0, c_fieldAt h12 hv, forall_eq, u3_zs, zs_rd, up_rd, Nat.reduceEqDiff, false_and, if_false]
      exact ⟨hb, hq⟩
    · rw [LI_ch h (by unfold Ch; decide)] at hq
      simp only [v_X8_ducks, v_X8_ducks_b0, r_isF (hF ▸ h12) (hF ▸ hv), v_X8_ducks_b39, forall_eq, up_rd, show ¬ (1 : Int32) = 0 by decide, Nat.reduceEqDiff, false_and, and_self, if_true, if_false, false_implies, true_and, not_false_eq_true, forall_const, not_true_eq_false, and_true, hF, hv, show vp_in (16 : Int32) 22 by unfold vp_in; decide, show Int32.toNatClampNeg (16 : Int32) = 16 by decide]
      rcases hb with b | b <;> rw [b] at hq ⊢ <;> simp [hq]
    · unfold iF at hi ⊢
      simp only [up_rd, Nat.reduceEqDiff, false_and, and_self, if_true, if_false, reduceIte]
      exact ⟨hi.1, hi.2.1, ⟨hi.2.2.1.1, hi.2.2.1.2.1, hi.2.2.1.2.2.1, hi.2.2.1.2.2.2.1, hi.2.2.1.2.2.2.2.1, hb⟩, hi.2.2.2⟩
  · refine Or.inr ⟨0, xI, 0, s_up2 (s_up2 N 80 0 0) 80 0 1, rfl, fun Q hq => ?_, fun Q hq => ?_, rfl, LJ_80 (LJ_80 h)⟩
    · exact Or.inr (by rw [t_fieldAt h12 hv]; exact hq)
    · simp only [v_X8_ducks, v_X8_ducks_b0, forall_eq, r_isF0 (hF ▸ h12) (hF ▸ hv), r_refuse, not_true_eq_false, false_implies, true_and, forall_const]
      exact hq
theorem m_help (h : LI E n Z N) (hF : F.2.1 = E.2.1) : RES E n Z N (v_X6_help E x1 x2 Z) (vT_X6_help E x1 x2 Z) (v_X8_help F x1 x2 N) [xI] := by
  have h12 : E.2.1 ≤ 12 := (LJ_EW h).2.1
  have e18 : ∀ a, Z 0 18 a = N 18 a := fun a => LI_ch h (by unfold Ch; decide)
  have e10 : ∀ a, Z 0 10 a = N 10 a := fun a => LI_ch h (by unfold Ch; decide)
  by_cases hv : vp_in x1 E.2.1
  · by_cases hv2 : vp_in x2 E.2.1
    · refine Or.inl ⟨Z 0 10 (Int32.toNatClampNeg x2) + 1, zs Z 0 ((fun X : yT => s_up2 X 10 (Int32.toNatClampNeg x2) (Z 0 10 (Int32.toNatClampNeg x2) + 1)) ((fun X : yT => s_up2 X 18 (Int32.toNatClampNeg x2) (X 18 (Int32.toNatClampNeg x2) - 1)) (s_up2 (Z 0) 18 (Int32.toNatClampNeg x1) (Z 0 18 (Int32.toNatClampNeg x1) + 1)))),
        ((fun X : yT => s_up2 X 10 (Int32.toNatClampNeg x2) (Z 0 10 (Int32.toNatClampNeg x2) + 1)) ((fun X : yT => s_up2 X 18 (Int32.toNatClampNeg x2) (X 18 (Int32.toNatClampNeg x2) - 1)) (s_up2 (s_up2 N 80 0 0) 18 (Int32.toNatClampNeg x1) (Z 0 18 (Int32.toNatClampNeg x1) + 1)))), fun Q hq => ?_, fun Q hq => ?_, rfl, LI_zs ?_⟩
      · simp only [v_X6_help, v_X6_help_b0, c_fieldAt h12 hv, c_fieldAt h12 hv2, forall_eq, u3_zs, zs_zs, zs_rd, up_rd, Nat.reduceEqDiff, false_and, and_self, if_true, if_false, reduceIte] at hq ⊢
        exact hq
      · simp only [v_X8_help, v_X8_help_b0, r_isF (hF ▸ h12) (hF ▸ hv), r_isF (hF ▸ h12) (hF ▸ hv2), forall_eq, up_rd, show ¬ (1 : Int32) = 0 by decide, Nat.reduceEqDiff, false_and, and_self, if_true, if_false, reduceIte, false_implies, true_and, not_false_eq_true, forall_const, not_true_eq_false, and_true, hF, hv, hv2, e18, e10] at hq ⊢
        exact hq
      · refine LJ_p (by unfold plainC; omega) (LJ_p (by unfold plainC; omega) (LJ_p (by unfold plainC; omega) (LJ_80 h) rfl) ?_) rfl
        simp only [up_rd, Nat.reduceEqDiff, false_and, if_false, e18]
    · refine Or.inr ⟨0, xI, 0, s_up2 (s_up2 N 80 0 0) 80 0 1, rfl, fun Q hq => Or.inl ?_, fun Q hq => ?_, rfl, LJ_80 (LJ_80 h)⟩
      · rw [c_fieldAt h12 hv]
        exact Or.inr (by rw [t_fieldAt h12 hv2]; exact hq)
      · simp only [v_X8_help, v_X8_help_b0, v_X8_help_b21, forall_eq, r_isF (hF ▸ h12) (hF ▸ hv), r_isF0 (hF ▸ h12) (hF ▸ hv2), r_refuse, show ¬ (1 : Int32) = 0 by decide, not_false_eq_true, not_true_eq_false, false_implies, true_and, forall_const]
        exact hq
  · refine Or.inr ⟨0, xI, 0, s_up2 (s_up2 N 80 0 0) 80 0 1, rfl, fun Q hq => ?_, fun Q hq => ?_, rfl, LJ_80 (LJ_80 h)⟩
    · exact Or.inr (by rw [t_fieldAt h12 hv]; exact hq)
    · simp only [v_X8_help, v_X8_help_b0, v_X8_help_b21, forall_eq, r_isF0 (hF ▸ h12) (hF ▸ hv), r_refuse, not_true_eq_false, false_implies, and_true, forall_const]
      exact hq
theorem m_sell (h : LI E n Z N) (hF : F.2.1 = E.2.1) : RES E n Z N (v_X6_sell E x1 x2 Z) (vT_X6_sell E x1 x2 Z) (v_X8_sell F x1 x2 N) [xI, xA, xS] := by
  have h12 : E.2.1 ≤ 12 := (LJ_EW h).2.1
  have e17 : ∀ a, Z 0 17 a = N 17 a := fun a => LI_ch h (by unfold Ch; decide)
  have e19 : ∀ a, Z 0 19 a = N 19 a := fun a => LI_ch h (by unfold Ch; decide)
  by_cases hv : vp_in x1 E.2.1
  · by_cases c1 : (1 : Int32) ≤ x2
    · by_cases c2 : x2 ≤ Z 0 19 (Int32.toNatClampNeg x1)
      · refine Or.inl ⟨Z 0 17 (Int32.toNatClampNeg x1) + x2, zs Z 0 (s_up2 (s_up2 (Z 0) 19 (Int32.toNatClampNeg x1) (Z 0 19 (Int32.toNatClampNeg x1) - x2)) 17 (Int32.toNatClampNeg x1) (Z 0 17 (Int32.toNatClampNeg x1) + x2)),
          s_up2 (s_up2 (s_up2 N 80 0 0) 19 (Int32.toNatClampNeg x1) (Z 0 19 (Int32.toNatClampNeg x1) - x2)) 17 (Int32.toNatClampNeg x1) (Z 0 17 (Int32.toNatClampNeg x1) + x2), fun Q hq => ?_, fun Q hq => ?_, rfl, LI_zs (LJ_p (by unfold plainC; omega) (LJ_p (by unfold plainC; omega) (LJ_80 h) rfl) rfl)⟩
        · simp only [v_X6_sell, v_X6_sell_b0, c_fieldAt h12 hv, forall_eq, u3_zs, zs_zs, zs_rd, up_rd, Nat.reduceEqDiff, false_and, and_self, if_true, if_false, reduceIte, c1, c2, forall_const, not_true_eq_false, false_implies, and_true]
          exact hq
        · rw [e19] at c2
          simp only [v_X8_sell, v_X8_sell_b0, r_isF (hF ▸ h12) (hF ▸ hv), forall_eq, up_rd, show ¬ (1 : Int32) = 0 by decide, Nat.reduceEqDiff, false_and, and_self, if_true, if_false, reduceIte, false_implies, true_and, not_false_eq_true, forall_const, not_true_eq_false, and_true, hF, hv, c1, c2, e17, e19] at hq ⊢
          exact hq
      · refine Or.inr ⟨2, xS, 0, s_up2 (s_up2 N 80 0 0) 80 0 3, rfl, fun Q hq => Or.inl ?_, fun Q hq => ?_, rfl, LJ_80 (LJ_80 h)⟩
        · simp only [c_fieldAt h12 hv, forall_eq, c1, c2, forall_const, not_true_eq_false, not_false_eq_true, false_implies, and_true, true_and]
          exact hq
        · rw [e19] at c2
          simp only [v_X8_sell, v_X8_sell_b0, r_isF (hF ▸ h12) (hF ▸ hv), forall_eq, up_rd, show ¬ (1 : Int32) = 0 by decide, Nat.reduceEqDiff, false_and, and_self, if_true, if_false, reduceIte, false_implies, true_and, not_false_eq_true, forall_const, not_true_eq_false, and_true, hF, hv, c1, c2, r_refuse]
          exact hq
    · refine Or.inr ⟨1, xA, 0, s_up2 (s_up2 N 80 0 0) 80 0 2, rfl, fun Q hq => Or.inl ?_, fun Q hq => ?_, rfl, LJ_80 (LJ_80 h)⟩
      · simp only [c_fieldAt h12 hv, forall_eq, c1, forall_const, not_true_eq_false, not_false_eq_true, false_implies, and_true, true_and]
        exact hq
      · simp only [v_X8_sell, v_X8_sell_b0, r_isF (hF ▸ h12) (hF ▸ hv), forall_eq, show ¬ (1 : Int32) = 0 by decide, false_implies, true_and, not_false_eq_true, forall_const, not_true_eq_false, and_true, c1, r_refuse]
        exact hq
  · refine Or.inr ⟨0, xI, 0, s_up2 (s_up2 N 80 0 0) 80 0 1, rfl, fun Q hq => ?_, fun Q hq => ?_, rfl, LJ_80 (LJ_80 h)⟩
    · exact Or.inr (by rw [t_fieldAt h12 hv]; exact hq)
    · simp only [v_X8_sell, v_X8_sell_b0, forall_eq, r_isF0 (hF ▸ h12) (hF ▸ hv), r_refuse, not_true_eq_false, false_implies, true_and, forall_const]
      exact hq
/-! the stage changed -/
/-- cells of one field written: what the stage and its columns then are -/
theorem LJ_k {W : Nat → Prop} (h : LJ E n M M1 N) (hk : k < E.2.1) (hW : ∀ c, W c → c ≠ 0 ∧ c ≠ 11 ∧ c ≠ 13 ∧ c ≠ 14 ∧ c ≠ 22 ∧ c ≠ 23 ∧ c ≠ 32 ∧ c ≠ 33 ∧ c ≠ 37 ∧ c ≠ 64 ∧ c ≠ 66 ∧ c ≠ 68 ∧ c ≠ 73 ∧ c ≠ 34 ∧ c ≠ 38)
    (hM : ∀ c j, ¬ (W c ∧ j = k) → M' c j = M c j) (hN : ∀ c j, ¬ (W c ∧ j = k) → c ≠ 80 → N' c j = N c j) (e : ∀ c, W c → Ch c → M' c k = N' c k)
    (h5 : 2 ≤ (M' 4 k).toInt → M' 5 k = N' 5 k ∧ M' 6 k = N' 6 k ∧ M' 7 k = N' 7 k) (hF : iF n M' k) (lo : lowK M' k) : LJ E n M' M1 N' := by
  refine LJ_w (W := W) h (fun c z => by have := hW c z; omega) (fun c z j => hM c j (fun y => z y.1)) (fun c z h8 j => hN c j (fun y => z y.1) h8) (fun c z hc j => ?_) (fun j hj hs => ?_) (fun j hj => ?_) (fun i hi => ?_) (fun j hj => ?_)
  · by_cases y : j = k
    · rw [y]; exact e c z hc
    · rw [hM c j (fun x => y x.2), hN c j (fun x => y x.2) hc.2.2.2.2.2.2.2]; exact h.1 c hc j
  · by_cases y : j = k
    · subst y; exact h5 hs
    · rw [hM 4 j (fun x => y x.2)] at hs
      rw [hM 5 j (fun x => y x.2), hM 6 j (fun x => y x.2), hM 7 j (fun x => y x.2), hN 5 j (fun x => y x.2) (by decide), hN 6 j (fun x => y x.2) (by decide), hN 7 j (fun x => y x.2) (by decide)]
      exact h.2.1 j hj hs
  · by_cases y : j = k
    · subst y; exact hF
    · have := h.2.2.1 j hj
      unfold iF at this ⊢
      rw [hM 1 j (fun x => y x.2), hM 2 j (fun x => y x.2), hM 3 j (fun x => y x.2), hM 4 j (fun x => y x.2), hM 8 j (fun x => y x.2), hM 9 j (fun x => y x.2), hM 12 j (fun x => y x.2), hM 13 j (fun x => y x.2), hM 15 j (fun x => y x.2), hM 16 j (fun x => y x.2), hM 5 j (fun x => y x.2), hM 6 j (fun x => y x.2), hM 7 j (fun x => y x.2)]
      exact this
  · have w34 : ¬ W 34 := fun z => (hW 34 z).2.2.2.2.2.2.2.2.2.2.2.2.2.1 rfl
    have w38 : ¬ W 38 := fun z => (hW 38 z).2.2.2.2.2.2.2.2.2.2.2.2.2.2 rfl
    have w32 : ¬ W 32 := fun z => (hW 32 z).2.2.2.2.2.2.1 rfl
    have := h.2.2.2.1 i hi
    unfold iS at this ⊢
    rw [hM 32 i (fun x => w32 x.1), hM 34 i (fun x => w34 x.1), hM 38 i (fun x => w38 x.1)]
    exact this
  · by_cases y : j = k
    · subst y; exact lo
    · have := h.2.2.2.2.2.2.2.2.1 j hj
      unfold lowK at this ⊢
      rw [hM 4 j (fun x => y x.2), hM 5 j (fun x => y x.2), hM 6 j (fun x => y x.2), hM 7 j (fun x => y x.2)]
      exact this
theorem m_puddle (h : LI E n Z N) (hF : F.2.1 = E.2.1) : RES E n Z N (v_X6_puddle E x1 Z) (vT_X6_puddle E x1 Z) (v_X8_puddle F x1 N) [xI, xS] := by
  have h12 : E.2.1 ≤ 12 := (LJ_EW h).2.1
  have e4 : ∀ a, Z 0 4 a = N 4 a := fun a => LI_ch h (by unfold Ch; decide)
  have e1 : ∀ a, Z 0 1 a = N 1 a := fun a => LI_ch h (by unfold Ch; decide)
  have l1 : (1 : Int32).toInt = 1 := rfl
  have l0 : (0 : Int32).toInt = 0 := rfl
  by_cases hv : vp_in x1 E.2.1
  · have hk := vp_lt hv
    by_cases c1 : Z 0 4 (Int32.toNatClampNeg x1) = 0
    · by_cases c2 : (10 : Int32) ≤ Z 0 1 (Int32.toNatClampNeg x1)
      · have hi := LI_iF h hv
        have hlo := h.2.2.2.2.2.2.2.2.1 _ hk
        refine Or.inl ⟨Z 0 1 (Int32.toNatClampNeg x1), zs Z 0 (s_up2 (s_up2 (Z 0) 4 (Int32.toNatClampNeg x1) 1) 2 (Int32.toNatClampNeg x1) 0), s_up2 (s_up2 (s_up2 N 80 0 0) 4 (Int32.toNatClampNeg x1) 1) 2 (Int32.toNatClampNeg x1) 0, fun Q hq => ?_, fun Q hq => ?_, rfl, LI_zs (LJ_k (W := fun c => c = 4 ∨ c = 2) (LJ_80 (v := 0) h) hk (fun c z => by omega) (fun c j z => ?_) (fun c j z _ => ?_) (fun c z _ => ?_) (fun z => ?_) ?_ (fun _ => ?_))⟩
        · simp only [v_X6_puddle, v_X6_puddle_b0, c_fieldAt h12 hv, forall_eq, u3_zs, zs_zs, zs_rd, up_rd, Nat.reduceEqDiff, false_and, if_false, c1, c2, forall_const, not_true_eq_false, false_implies, true_and, and_true]
          exact hq
        · rw [e4] at c1
          rw [e1] at c2 hq
          simp only [v_X8_puddle, v_X8_puddle_b0, r_isF (hF ▸ h12) (hF ▸ hv), forall_eq, up_rd, show ¬ (1 : Int32) = 0 by decide, Nat.reduceEqDiff, false_and, and_self, if_true, if_false, reduceIte, false_implies, true_and, not_false_eq_true, forall_const, not_true_eq_false, and_true, hF, hv, c1, c2]
          exact hq
        · simp only [up_rd]
          rw [if_neg (by omega), if_neg (by omega)]
        · simp only [up_rd]
          rw [if_neg (by omega), if_neg (by omega)]
        · simp only [up_rd, and_true]
          rcases z with z | z <;> subst z <;> rfl
        · simp only [up_rd, Nat.reduceEqDiff, false_and, and_self, if_true, if_false, reduceIte, l1] at z; omega
        · unfold iF at hi ⊢
          simp only [up_rd, Nat.reduceEqDiff, false_and, and_self, if_true, if_false, reduceIte]
          exact ⟨⟨hi.1.1, by decide, by decide, hi.1.2.2.2⟩, ⟨by decide, by decide, hi.2.1.2.2⟩, hi.2.2.1, fun z => absurd z (by decide)⟩
        · simp only [up_rd, Nat.reduceEqDiff, false_and, if_false]
          exact hlo (by rw [c1]; decide)
      · refine Or.inr ⟨1, xS, 0, s_up2 (s_up2 N 80 0 0) 80 0 2, rfl, fun Q hq => Or.inl ?_, fun Q hq => ?_, rfl, LJ_80 (LJ_80 h)⟩
        · simp only [c_fieldAt h12 hv, vT_X6_puddle_b25, forall_eq, c1, c2, forall_const, not_true_eq_false, not_false_eq_true, false_implies, and_true, true_and]
          exact hq
        · rw [e4] at c1
          rw [e1] at c2
          simp only [v_X8_puddle, v_X8_puddle_b0, v_X8_puddle_b43, r_isF (hF ▸ h12) (hF ▸ hv), forall_eq, up_rd, show ¬ (1 : Int32) = 0 by decide, Nat.reduceEqDiff, false_and, and_self, if_true, if_false, reduceIte, false_implies, true_and, not_false_eq_true, forall_const, not_true_eq_false, and_true, hF, hv, c1, c2, r_refuse]
          exact hq
    · refine Or.inr ⟨1, xS, 0, s_up2 (s_up2 N 80 0 0) 80 0 2, rfl, fun Q hq => Or.inl ?_, fun Q hq => ?_, rfl, LJ_80 (LJ_80 h)⟩
      · simp only [c_fieldAt h12 hv, vT_X6_puddle_b25, forall_eq, c1, forall_const, not_true_eq_false, not_false_eq_true, false_implies, and_true, true_and]
        exact hq
      · rw [e4] at c1
        simp only [v_X8_puddle, v_X8_puddle_b0, v_X8_puddle_b43, r_isF (hF ▸ h12) (hF ▸ hv), forall_eq, up_rd, show ¬ (1 : Int32) = 0 by decide, Nat.reduceEqDiff, false_and, and_self, if_true, if_false, reduceIte, false_implies, true_and, not_false_eq_true, forall_const, not_true_eq_false, and_true, hF, hv, c1, r_refuse]
        exact hq
  · refine Or.inr ⟨0, xI, 0, s_up2 (s_up2 N 80 0 0) 80 0 1, rfl, fun Q hq => ?_, fun Q hq => ?_, rfl, LJ_80 (LJ_80 h)⟩
    · exact Or.inr (by rw [t_fieldAt h12 hv]; exact hq)
    · simp only [v_X8_puddle, v_X8_puddle_b0, forall_eq, r_isF0 (hF ▸ h12) (hF ▸ hv), r_refuse, not_true_eq_false, false_implies, true_and, forall_const]
      exact hq
def begS (k : Nat) (x : Int32) (M : yT) : yT := s_up2 (s_up2 (s_up2 (s_up2 (s_up2 (s_up2 (s_up2 M 4 k 2) 5 k x) 6 k 0) 7 k 100) 10 k 0) 20 k 0) 21 k 120
theorem begS_rd {x : Int32} {c j : Nat} (h : ¬ ((c = 4 ∨ c = 5 ∨ c = 6 ∨ c = 7 ∨ c = 10 ∨ c = 20 ∨ c = 21) ∧ j = k)) : begS k x M c j = M c j := by
  unfold begS
  simp only [up_rd]
  rw [if_neg (by omega), if_neg (by omega), if_neg (by omega), if_neg (by omega), if_neg (by omega), if_neg (by omega), if_neg (by omega)]
theorem begS_k {x : Int32} : (begS k x M 4 k = 2 ∧ begS k x M 5 k = x ∧ begS k x M 6 k = 0 ∧ begS k x M 7 k = 100) ∧ begS k x M 10 k = 0 ∧ begS k x M 20 k = 0 ∧ begS k x M 21 k = 120 := by
  unfold begS
  simp only [up_rd, Nat.reduceEqDiff, false_and, and_self, if_true, if_false, reduceIte]
theorem iF_beg {D : Int} {x : Int32} (hi : iF D M k) (hx : 0 ≤ x.toInt ∧ x.toInt ≤ 2) : iF D (begS k x M) k := by
  obtain ⟨⟨b4, b5, b6, b7⟩, -⟩ := begS_k (k := k) (x := x) (M := M)
  unfold iF at hi ⊢
  rw [b4, b5, b6, b7, begS_rd (c := 1) (by omega), begS_rd (c := 2) (by omega), begS_rd (c := 3) (by omega), begS_rd (c := 8) (by omega), begS_rd (c := 9) (by omega), begS_rd (c := 12) (by omega), begS_rd (c := 13) (by omega), begS_rd (c := 15) (by omega), begS_rd (c := 16) (by omega)]
  have l2 : (2 : Int32).toInt = 2 := rfl
  have l0 : (0 : Int32).toInt = 0 := rfl
  exact ⟨hi.1, ⟨by decide, by decide, hi.2.1.2.2⟩, hi.2.2.1, fun _ => ⟨⟨hx.1, hx.2, by decide, by decide, by decide, by decide⟩, fun z => by omega, fun _ => by decide⟩⟩
theorem m_plant (h : LI E n Z N) (hF : F.2.1 = E.2.1) : RES E n Z N (v_X6_plant E x1 x2 Z) (vT_X6_plant E x1 x2 Z) (v_X8_plant F x1 x2 N) [xI, xA, xS] := by
  have h12 : E.2.1 ≤ 12 := (LJ_EW h).2.1
  have e4 : ∀ a, Z 0 4 a = N 4 a := fun a => LI_ch h (by unfold Ch; decide)
  have e10 : ∀ a, Z 0 10 a = N 10 a := fun a => LI_ch h (by unfold Ch; decide)
  have e64 : ∀ a, Z 0 64 a = N 64 a := fun a => LI_ch h (by unfold Ch; decide)
  have l1 : (1 : Int32).toInt = 1 := rfl
  have l0 : (0 : Int32).toInt = 0 := rfl
  have l2 : (2 : Int32).toInt = 2 := rfl
  have n1 : ¬ (1 : Int32) = 0 := by decide
  by_cases hv : vp_in x1 E.2.1
  · have hk := vp_lt hv
    by_cases c1 : isw x2 0 2 = 0
    · refine Or.inr ⟨1, xA, 0, s_up2 (s_up2 N 80 0 0) 80 0 2, rfl, fun Q hq => Or.inl ?_, fun Q hq => ?_, rfl, LJ_80 (LJ_80 h)⟩
      · rw [c_fieldAt h12 hv]
        refine Or.inr ?_
        simp only [vT_X6_checkKind, vT_X6_checkKind_b0, e_isw, c1, not_true_eq_false, false_implies, true_and, forall_const]
        exact hq
      · simp only [v_X8_plant, v_X8_plant_b0, r_isF (hF ▸ h12) (hF ▸ hv), v_X8_isKind, v_X8_isKind_b0, e_isR, forall_eq, n1, false_implies, true_and, not_false_eq_true, forall_const, not_true_eq_false, and_true, c1, r_refuse, true_or]
        exact hq
    · have c1' : isw x2 0 2 = 1 := isw_01.resolve_left c1
      have hRef : ∀ Q : Int32 → yT → Prop, v_X8_plant F x1 x2 N Q = ((¬ N 4 (Int32.toNatClampNeg x1) = 1 → Q 0 (s_up2 (s_up2 N 80 0 0) 80 0 3)) ∧ (N 4 (Int32.toNatClampNeg x1) = 1 → ((N 64 0 - N 64 0 / 30 * 30 = 0 → Q 0 (s_up2 (s_up2 N 80 0 0) 80 0 3)) ∧ (¬ N 64 0 - N 64 0 / 30 * 30 = 0 → (((3 : Int32) ≤ N 10 (Int32.toNatClampNeg x1) → Q (N 64 0) (begS (Int32.toNatClampNeg x1) x2 (s_up2 N 80 0 0))) ∧ (¬ (3 : Int32) ≤ N 10 (Int32.toNatClampNeg x1) → Q 0 (s_up2 (s_up2 N 80 0 0) 80 0 3))))))) := by
        intro Q
        simp only [v_X8_plant, v_X8_plant_b0, v_X8_plant_b72, r_isF (hF ▸ h12) (hF ▸ hv), v_X8_isKind, v_X8_isKind_b0, e_isR, forall_eq, n1, false_implies, true_and, not_false_eq_true, forall_const, not_true_eq_false, and_true, c1', or_true, hF, hv, up_rd, Nat.reduceEqDiff, false_and, if_false, r_refuse, v_X7_plant, v_X7_plant_b0, begS]
      by_cases c2 : Z 0 4 (Int32.toNatClampNeg x1) = 1
      · by_cases c3 : Z 0 64 0 - Z 0 64 0 / 30 * 30 = 0
        · refine Or.inr ⟨2, xS, 0, s_up2 (s_up2 N 80 0 0) 80 0 3, rfl, fun Q hq => Or.inl ?_, fun Q hq => ?_, rfl, LJ_80 (LJ_80 h)⟩
          · rw [c_fieldAt h12 hv]
            refine Or.inl ?_
            simp only [v_X6_checkKind, v_X6_checkKind_b0, e_isw, c1, vT_X6_plant_b42, forall_eq, c2, c3, e_isDark, n1, forall_const, not_true_eq_false, not_false_eq_true, false_implies, and_true, true_and, if_true]
            exact hq
          · rw [e4] at c2; rw [e64] at c3
            rw [hRef]
            exact ⟨fun z => absurd c2 z, fun _ => ⟨fun _ => hq, fun z => absurd c3 z⟩⟩
        · by_cases c4 : (3 : Int32) ≤ Z 0 10 (Int32.toNatClampNeg x1)
          · have hi := LI_iF h hv
            have hx := isw_b c1
            refine Or.inl ⟨Z 0 64 0, zs Z 0 (begS (Int32.toNatClampNeg x1) x2 (Z 0)), begS (Int32.toNatClampNeg x1) x2 (s_up2 N 80 0 0), fun Q hq => ?_, fun Q hq => ?_, rfl, LI_zs (LJ_k (W := fun c => c = 4 ∨ c = 5 ∨ c = 6 ∨ c = 7 ∨ c = 10 ∨ c = 20 ∨ c = 21) (LJ_80 (v := 0) h) hk (fun c z => by omega) (fun c j z => begS_rd z) (fun c j z _ => begS_rd z) (fun c z _ => ?_) (fun z => ?_) (iF_beg hi (by omega)) (fun z => ?_))⟩
            · simp only [v_X6_plant, v_X6_plant_b0, c_fieldAt h12 hv, v_X6_checkKind, v_X6_checkKind_b0, e_isw, c1, c2, c3, c4, e_isDark, e_begin, forall_eq, u3_zs, zs_zs, zs_rd, up_rd, Nat.reduceEqDiff, false_and, if_false, n1, forall_const, not_true_eq_false, not_false_eq_true, false_implies, true_and, and_true]
              exact hq
            · rw [e4] at c2; rw [e64] at c3 hq; rw [e10] at c4
              rw [hRef]
              exact ⟨fun z => absurd c2 z, fun _ => ⟨fun z => absurd z c3, fun _ => ⟨fun _ => hq, fun z => absurd c4 z⟩⟩⟩
            · obtain ⟨⟨b4, b5, b6, b7⟩, b10, b20, b21⟩ := begS_k (k := Int32.toNatClampNeg x1) (x := x2) (M := Z 0)
              obtain ⟨⟨d4, d5, d6, d7⟩, d10, d20, d21⟩ := begS_k (k := Int32.toNatClampNeg x1) (x := x2) (M := s_up2 N 80 0 0)
              rcases z with z | z | z | z | z | z | z <;> subst z
              · rw [b4, d4]
              · rw [b5, d5]
              · rw [b6, d6]
              · rw [b7, d7]
              · rw [b10, d10]
              · rw [b20, d20]
              · rw [b21, d21]
            · obtain ⟨⟨b4, b5, b6, b7⟩, b10, b20, b21⟩ := begS_k (k := Int32.toNatClampNeg x1) (x := x2) (M := Z 0)
              obtain ⟨⟨d4, d5, d6, d7⟩, d10, d20, d21⟩ := begS_k (k := Int32.toNatClampNeg x1) (x := x2) (M := s_up2 N 80 0 0)
              rw [b5, d5, b6, d6, b7, d7]
              exact ⟨rfl, rfl, rfl⟩
            · obtain ⟨⟨b4, b5, b6, b7⟩, b10, b20, b21⟩ := begS_k (k := Int32.toNatClampNeg x1) (x := x2) (M := Z 0)
              rw [b4, l2] at z; omega
          · refine Or.inr ⟨2, xS, 0, s_up2 (s_up2 N 80 0 0) 80 0 3, rfl, fun Q hq => Or.inl ?_, fun Q hq => ?_, rfl, LJ_80 (LJ_80 h)⟩
            · rw [c_fieldAt h12 hv]
              refine Or.inl ?_
              simp only [v_X6_checkKind, v_X6_checkKind_b0, e_isw, c1, vT_X6_plant_b42, forall_eq, c2, c3, c4, e_isDark, n1, forall_const, not_true_eq_false, not_false_eq_true, false_implies, and_true, true_and, if_false]
              exact hq
            · rw [e4] at c2; rw [e64] at c3; rw [e10] at c4
              rw [hRef]
              exact ⟨fun z => absurd c2 z, fun _ => ⟨fun z => absurd z c3, fun _ => ⟨fun z => absurd z c4, fun _ => hq⟩⟩⟩
      · refine Or.inr ⟨2, xS, 0, s_up2 (s_up2 N 80 0 0) 80 0 3, rfl, fun Q hq => Or.inl ?_, fun Q hq => ?_, rfl, LJ_80 (LJ_80 h)⟩
        · rw [c_fieldAt h12 hv]
          refine Or.inl ?_
          simp only [v_X6_checkKind, v_X6_checkKind_b0, e_isw, c1, vT_X6_plant_b42, forall_eq, c2, forall_const, not_true_eq_false, not_false_eq_true, false_implies, and_true, true_and]
          exact hq
        · rw [e4] at c2
          rw [hRef]
          exact ⟨fun _ => hq, fun z => absurd z c2⟩
  · refine Or.inr ⟨0, xI, 0, s_up2 (s_up2 N 80 0 0) 80 0 1, rfl, fun Q hq => ?_, fun Q hq => ?_, rfl, LJ_80 (LJ_80 h)⟩
    · exact Or.inr (by rw [t_fieldAt h12 hv]; exact hq)
    · simp only [v_X8_plant, v_X8_plant_b0, forall_eq, r_isF0 (hF ▸ h12) (hF ▸ hv), r_refuse, not_true_eq_false, false_implies, true_and, forall_const]
      exact hq
end
