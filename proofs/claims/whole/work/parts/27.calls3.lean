section
variable {E : eT} {F : fT} {n : Nat} {M M1 N M' N' : yT} {Z : zT} {x1 x2 x3 : Int32} {k i : Nat} {V : yT} {C : Nat → Prop} {T : Int} {D : Nat → Int}
def yR (M : yT) (k : Nat) : Int32 := if M 4 k = 5 then (40 + 20 * M 5 k) * M 7 k / 100 * (50 + M 9 k) / 100 else 0
theorem r_yield {Q : Int32 → yT → Prop} : v_X7_yield F k N Q = Q (yR N k) N := by
  simp only [v_X7_yield, v_X7_yield_b0, forall_eq, yR]
  by_cases c : N 4 k = 5 <;> simp [c]
theorem yl_eq (hC : CD C) (h : dRel C E V T D M N) (hk : k < E.2.1) : ryC M k = yR N k ∧ 0 ≤ (ryC M k).toInt ∧ (ryC M k).toInt ≤ 80 := by
  unfold ryC yR
  rw [← d_4 hC h]
  by_cases c : M 4 k = 5
  · obtain ⟨g1, g2, g3, g4⟩ := h.2.2.1 k hk
    have l5 : (5 : Int32).toInt = 5 := rfl
    have l0 : (0 : Int32).toInt = 0 := rfl
    have l1 : (1 : Int32).toInt = 1 := rfl
    have l2 : (2 : Int32).toInt = 2 := rfl
    have l100 : (100 : Int32).toInt = 100 := rfl
    have l50 : (50 : Int32).toInt = 50 := rfl
    have hs : 2 ≤ (M 4 k).toInt := by rw [c]; decide
    obtain ⟨⟨k1, k2, k3, k4, k5, k6⟩, -⟩ := g4 hs
    obtain ⟨e5, e6, e7⟩ := h.2.1 k hk hs
    rw [if_pos c, if_pos c, ← e5, ← e7, ← d_9 hC h]
    have hki : M 5 k = 0 ∨ M 5 k = 1 ∨ M 5 k = 2 := by simp only [ti_eq, l0, l1, l2]; omega
    have ha : irow 3 (M 5 k) = 40 + 20 * M 5 k ∧ 40 ≤ (irow 3 (M 5 k)).toInt ∧ (irow 3 (M 5 k)).toInt ≤ 80 := by rcases hki with e | e | e <;> rw [e] <;> decide
    rw [← ha.1]
    refine ⟨rfl, ?_⟩
    generalize irow 3 (M 5 k) = a at ha
    have q1 : 0 ≤ a.toInt * (M 7 k).toInt := Int.mul_nonneg (by omega) (by omega)
    have q2 : a.toInt * (M 7 k).toInt ≤ 80 * 100 := Int.mul_le_mul ha.2.2 k6 k5 (by decide)
    have s1 : (a * M 7 k).toInt = a.toInt * (M 7 k).toInt := ti_mul (by omega) (by omega)
    have s2 : (a * M 7 k / 100).toInt = a.toInt * (M 7 k).toInt / 100 := by rw [ti_div (by rw [s1]; exact q1) (by rw [l100]; decide), s1, l100]
    generalize a * M 7 k / 100 = b at s2
    have hb : 0 ≤ b.toInt ∧ b.toInt ≤ 80 := by omega
    have s3 : (50 + M 9 k).toInt = 50 + (M 9 k).toInt := by rw [ti_add (by omega) (by omega), l50]
    generalize 50 + M 9 k = d at s3
    have hd : 0 ≤ d.toInt ∧ d.toInt ≤ 100 := by omega
    have q3 : 0 ≤ b.toInt * d.toInt := Int.mul_nonneg hb.1 hd.1
    have q4 : b.toInt * d.toInt ≤ 80 * 100 := Int.mul_le_mul hb.2 hd.2 hd.1 (by decide)
    have s4 : (b * d).toInt = b.toInt * d.toInt := ti_mul (by omega) (by omega)
    have s5 : (b * d / 100).toInt = b.toInt * d.toInt / 100 := by rw [ti_div (by rw [s4]; exact q3) (by rw [l100]; decide), s4, l100]
    omega
  · rw [if_neg c, if_neg c]; exact ⟨rfl, by decide, by decide⟩
theorem LI_yl (h : LI E n Z N) (hk : k < E.2.1) : ryC (Z 0) k = yR N k ∧ 0 ≤ (ryC (Z 0) k).toInt ∧ (ryC (Z 0) k).toInt ≤ 80 := yl_eq CD_Ch (LJ_dRel h) hk
theorem LI_of (h : LI E n Z N) (hk : k < E.2.1) : N 0 k = nI (E.2.2 k) := (LJ_EW h).2.2.2 k hk
theorem perm4 {X : yT} {a b c d : Int32} : s_up2 (s_up2 (s_up2 (s_up2 X 36 i a) 40 i b) 19 k c) 74 0 d = s_up2 (s_up2 (s_up2 (s_up2 X 74 0 d) 40 i b) 36 i a) 19 k c := by
  funext e j
  simp only [up_rd]
  by_cases h1 : e = 74
  · subst h1; simp only [Nat.reduceEqDiff, false_and, if_false]
  · by_cases h2 : e = 19
    · subst h2; simp only [Nat.reduceEqDiff, false_and, if_false]
    · by_cases h3 : e = 36
      · subst h3; simp only [Nat.reduceEqDiff, false_and, if_false]
      · simp only [h1, h2, h3, false_and, if_false]
theorem perm3 {X : yT} {a b c : Int32} : s_up2 (s_up2 (s_up2 X 20 k a) 21 k b) 73 0 c = s_up2 (s_up2 (s_up2 X 73 0 c) 20 k a) 21 k b := by
  funext e j
  simp only [up_rd]
  by_cases h1 : e = 73
  · subst h1; simp only [Nat.reduceEqDiff, false_and, if_false]
  · simp only [h1, false_and, if_false]
theorem m_harvest (h : LI E n Z N) (hF : F.2.1 = E.2.1) (hF1 : F.1 = E.1) (hb : x2 = 0 ∨ x2 = 1) : RES E n Z N (v_X6_harvest E x1 x2 Z) (vT_X6_harvest E x1 x2 Z) (v_X8_harvest F x1 x2 N) [xI, xS] := by
  have h12 : E.2.1 ≤ 12 := (LJ_EW h).2.1
  have h3 : E.1 ≤ 3 := (LJ_EW h).1
  have e4 : ∀ a, Z 0 4 a = N 4 a := fun a => LI_ch h (by unfold Ch; decide)
  have e8 : ∀ a, Z 0 8 a = N 8 a := fun a => LI_ch h (by unfold Ch; decide)
  have e9 : ∀ a, Z 0 9 a = N 9 a := fun a => LI_ch h (by unfold Ch; decide)
  have e19 : ∀ a, Z 0 19 a = N 19 a := fun a => LI_ch h (by unfold Ch; decide)
  have e36 : ∀ a, Z 0 36 a = N 36 a := fun a => LI_ch h (by unfold Ch; decide)
  have e40 : ∀ a, Z 0 40 a = N 40 a := fun a => LI_ch h (by unfold Ch; decide)
  have e74 : ∀ a, Z 0 74 a = N 74 a := fun a => LI_ch h (by unfold Ch; decide)
  have n1 : ¬ (1 : Int32) = 0 := by decide
  have l0 : (0 : Int32).toInt = 0 := rfl
  by_cases hv : vp_in x1 E.2.1
  · have hk := vp_lt hv
    by_cases c1 : Z 0 4 (Int32.toNatClampNeg x1) = 5
    · have hi := LI_iF h hv
      have hof := LI_of h hk
      have hofl := (LJ_EW h).2.2.1 _ hk
      have hof1 : E.2.2 (Int32.toNatClampNeg x1) < 2147483648 := by omega
      have hy := LI_yl h hk
      have cN : N 4 (Int32.toNatClampNeg x1) = 5 := (e4 _).symm.trans c1
      generalize hkk : Int32.toNatClampNeg x1 = kk at *
      generalize hvv : yR N kk = vv at *
      have hy1 : ryC (Z 0) kk = vv := hy.1
      rcases hb with b | b
      · refine Or.inl ⟨vv, zs Z 0 (s_up2 (s_up2 (s_up2 (s_up2 (s_up2 (s_up2 (s_up2 (s_up2 (s_up2 (Z 0) 74 0 (N 74 0 + vv)) 40 (E.2.2 kk) (N 40 (E.2.2 kk) + vv)) 36 (E.2.2 kk) (N 36 (E.2.2 kk) + vv / 10)) 19 kk (N 19 kk + (vv - vv / 10))) 4 kk 0) 5 kk (-1)) 6 kk 0) 7 kk 0) 9 kk (s_min 50 (N 9 kk + 10))),
          s_up2 (s_up2 (s_up2 (s_up2 (s_up2 (s_up2 (s_up2 N 80 0 0) 74 0 (N 74 0 + vv)) 40 (E.2.2 kk) (N 40 (E.2.2 kk) + vv)) 36 (E.2.2 kk) (N 36 (E.2.2 kk) + vv / 10)) 19 kk (N 19 kk + (vv - vv / 10))) 4 kk 0) 9 kk (s_min 50 (N 9 kk + 10)), fun Q hq => ?_, fun Q hq => ?_, rfl, LI_zs ?_⟩
        · simp only [v_X6_harvest, v_X6_harvest_b0, v_X6_ripeFieldAt, v_X6_ripeFieldAt_b0, c_fieldAt h12 hv, e_ripeYield, v_X1_clear, v_X1_clear_b0, v_X1_clear_b46, e_end, forall_eq, u3_zs, zs_zs, zs_rd, up_rd, Nat.reduceEqDiff, false_and, and_self, if_true, if_false, reduceIte, c1, b, forall_const, not_true_eq_false, false_implies, and_true, hkk, hy1, e9, e19, e36, e40, e74]
          rw [perm4]
          exact hq
        · simp only [v_X8_harvest, v_X8_harvest_b0, v_X8_harvest_b157, r_isF (hF ▸ h12) (hF ▸ hv), r_yield, forall_eq, hkk, cN, hof, nI_vp hof1, nI_cl hof1, hF, hF1, hv, hofl, b, n1, up_rd, Nat.reduceEqDiff, false_and, and_self, if_true, if_false, reduceIte, not_true_eq_false, not_false_eq_true, false_implies, true_and, and_true, forall_const, show yR (s_up2 N 80 0 0) kk = vv from hvv]
          exact hq
        · have pl : ∀ c, c = 19 ∨ c = 36 ∨ c = 40 ∨ c = 74 → plainC c := fun c z => by unfold plainC; omega
          have hB := LJ_p (k := kk) (v := N 19 kk + (vv - vv / 10)) (pl 19 (by omega)) (LJ_p (k := E.2.2 kk) (v := N 36 (E.2.2 kk) + vv / 10) (pl 36 (by omega)) (LJ_p (k := E.2.2 kk) (v := N 40 (E.2.2 kk) + vv) (pl 40 (by omega)) (LJ_p (k := 0) (v := N 74 0 + vv) (pl 74 (by omega)) (LJ_80 (v := 0) h) rfl) rfl) rfl) rfl
          refine LJ_k (W := fun c => c = 4 ∨ c = 5 ∨ c = 6 ∨ c = 7 ∨ c = 9) hB hk (fun c z => by omega) (fun c j z => ?_) (fun c j z _ => ?_) (fun c z hc => ?_) (fun z => ?_) ?_ (fun _ => ?_)
          · rw [up_rd, up_rd, up_rd, up_rd, up_rd, if_neg (by omega), if_neg (by omega), if_neg (by omega), if_neg (by omega), if_neg (by omega)]
          · rw [up_rd, up_rd, if_neg (by omega), if_neg (by omega)]
          · simp only [up_rd, and_true]
            unfold Ch at hc
            rcases z with z | z | z | z | z <;> subst z
            · rfl
            · omega
            · omega
            · omega
            · rfl
          · simp only [up_rd, Nat.reduceEqDiff, false_and, and_self, if_true, if_false, reduceIte, l0] at z; omega
          · have l50 : (50 : Int32).toInt = 50 := rfl
            have l10 : (10 : Int32).toInt = 10 := rfl
            have hn := hi.2.1
            rw [e9] at hn
            have s1 : (N 9 kk + 10).toInt = (N 9 kk).toInt + 10 := by rw [ti_add (by omega) (by omega), l10]
            have s2 : 0 ≤ (s_min 50 (N 9 kk + 10)).toInt ∧ (s_min 50 (N 9 kk + 10)).toInt ≤ 50 := by rw [ti_min, l50, s1]; split <;> omega
            unfold iF at hi ⊢
            simp only [up_rd, Nat.reduceEqDiff, false_and, and_self, if_true, if_false, reduceIte]
            exact ⟨hi.1, ⟨by decide, by decide, hi.2.1.2.2.1, hi.2.1.2.2.2.1, s2.1, s2.2⟩, hi.2.2.1, fun z => absurd z (by decide)⟩
          · simp only [up_rd, Nat.reduceEqDiff, false_and, and_self, if_true, if_false, reduceIte]
      · refine Or.inl ⟨vv, zs Z 0 (s_up2 (s_up2 (s_up2 (s_up2 (s_up2 (s_up2 (s_up2 (s_up2 (s_up2 (Z 0) 74 0 (N 74 0 + vv)) 40 (E.2.2 kk) (N 40 (E.2.2 kk) + vv)) 36 (E.2.2 kk) (N 36 (E.2.2 kk) + vv / 10)) 19 kk (N 19 kk + (vv - vv / 10))) 4 kk 0) 5 kk (-1)) 6 kk 0) 7 kk 0) 8 kk (N 8 kk / 2)),
          s_up2 (s_up2 (s_up2 (s_up2 (s_up2 (s_up2 (s_up2 N 80 0 0) 74 0 (N 74 0 + vv)) 40 (E.2.2 kk) (N 40 (E.2.2 kk) + vv)) 36 (E.2.2 kk) (N 36 (E.2.2 kk) + vv / 10)) 19 kk (N 19 kk + (vv - vv / 10))) 4 kk 0) 8 kk (N 8 kk / 2), fun Q hq => ?_, fun Q hq => ?_, rfl, LI_zs ?_⟩
        · simp only [v_X6_harvest, v_X6_harvest_b0, v_X6_ripeFieldAt, v_X6_ripeFieldAt_b0, c_fieldAt h12 hv, e_ripeYield, v_X1_clear, v_X1_clear_b0, v_X1_clear_b46, e_end, forall_eq, u3_zs, zs_zs, zs_rd, up_rd, Nat.reduceEqDiff, false_and, and_self, if_true, if_false, reduceIte, c1, b, n1, forall_const, not_true_eq_false, not_false_eq_true, false_implies, true_and, and_true, hkk, hy1, e8, e19, e36, e40, e74]
          rw [perm4]
          exact hq
        · simp only [v_X8_harvest, v_X8_harvest_b0, v_X8_harvest_b157, r_isF (hF ▸ h12) (hF ▸ hv), r_yield, forall_eq, hkk, cN, hof, nI_vp hof1, nI_cl hof1, hF, hF1, hv, hofl, b, n1, up_rd, Nat.reduceEqDiff, false_and, and_self, if_true, if_false, reduceIte, not_true_eq_false, not_false_eq_true, false_implies, true_and, and_true, forall_const, show yR (s_up2 N 80 0 0) kk = vv from hvv]
          exact hq
        · have pl : ∀ c, c = 19 ∨ c = 36 ∨ c = 40 ∨ c = 74 → plainC c := fun c z => by unfold plainC; omega
          have hB := LJ_p (k := kk) (v := N 19 kk + (vv - vv / 10)) (pl 19 (by omega)) (LJ_p (k := E.2.2 kk) (v := N 36 (E.2.2 kk) + vv / 10) (pl 36 (by omega)) (LJ_p (k := E.2.2 kk) (v := N 40 (E.2.2 kk) + vv) (pl 40 (by omega)) (LJ_p (k := 0) (v := N 74 0 + vv) (pl 74 (by omega)) (LJ_80 (v := 0) h) rfl) rfl) rfl) rfl
          refine LJ_k (W := fun c => c = 4 ∨ c = 5 ∨ c = 6 ∨ c = 7 ∨ c = 8) hB hk (fun c z => by omega) (fun c j z => ?_) (fun c j z _ => ?_) (fun c z hc => ?_) (fun z => ?_) ?_ (fun _ => ?_)
          · rw [up_rd, up_rd, up_rd, up_rd, up_rd, if_neg (by omega), if_neg (by omega), if_neg (by omega), if_neg (by omega), if_neg (by omega)]
          · rw [up_rd, up_rd, if_neg (by omega), if_neg (by omega)]
          · simp only [up_rd, and_true]
            unfold Ch at hc
            rcases z with z | z | z | z | z <;> subst z
            · rfl
            · omega
            · omega
            · omega
            · rfl
          · simp only [up_rd, Nat.reduceEqDiff, false_and, and_self, if_true, if_false, reduceIte, l0] at z; omega
          · have l2 : (2 : Int32).toInt = 2 := rfl
            have hn := hi.2.1
            rw [e8] at hn
            have s1 : (N 8 kk / 2).toInt = (N 8 kk).toInt / 2 := by rw [ti_div hn.2.2.1 (by rw [l2]; decide), l2]
            unfold iF at hi ⊢
            simp only [up_rd, Nat.reduceEqDiff, false_and, and_self, if_true, if_false, reduceIte]
            exact ⟨hi.1, ⟨by decide, by decide, by omega, by omega, hi.2.1.2.2.2.2.1, hi.2.1.2.2.2.2.2⟩, hi.2.2.1, fun z => absurd z (by decide)⟩
          · simp only [up_rd, Nat.reduceEqDiff, false_and, and_self, if_true, if_false, reduceIte]
    · refine Or.inr ⟨1, xS, 0, s_up2 (s_up2 N 80 0 0) 80 0 2, rfl, fun Q hq => Or.inr (Or.inl ?_), fun Q hq => ?_, rfl, LJ_80 (LJ_80 h)⟩
      · simp only [c_fieldAt h12 hv, forall_eq, c1, false_implies, true_and, not_false_eq_true, forall_const]
        exact hq
      · rw [e4] at c1
        simp only [v_X8_harvest, v_X8_harvest_b0, r_isF (hF ▸ h12) (hF ▸ hv), forall_eq, hF, hv, c1, n1, up_rd, Nat.reduceEqDiff, false_and, if_false, not_true_eq_false, not_false_eq_true, false_implies, true_and, and_true, forall_const, r_refuse]
        exact hq
  · refine Or.inr ⟨0, xI, 0, s_up2 (s_up2 N 80 0 0) 80 0 1, rfl, fun Q hq => ?_, fun Q hq => ?_, rfl, LJ_80 (LJ_80 h)⟩
    · exact Or.inr (Or.inr (by rw [t_fieldAt h12 hv]; exact hq))
    · simp only [v_X8_harvest, v_X8_harvest_b0, forall_eq, r_isF0 (hF ▸ h12) (hF ▸ hv), r_refuse, not_true_eq_false, false_implies, true_and, forall_const]
      exact hq
theorem LJ_73 (hn : n ≤ 1000) (h : LJ E n M M1 N) : LJ E (n + 1) (s_up2 M 73 0 (M 73 0 + 1)) M1 (s_up2 N 73 0 (N 73 0 + 1)) := by
  have e : M 73 0 = N 73 0 := h.1 73 (by unfold Ch; decide) 0
  obtain ⟨h1, h2, h3, h4, h5, h6, h7, h8, h9, h10, h11, h12, h13⟩ := LJ_mono h (Nat.le_succ n)
  have l1 : (1 : Int32).toInt = 1 := rfl
  have h14 := h.2.2.2.2.2.2.2.2.2.2.2.2
  have s1 : (M 73 0 + 1).toInt = (M 73 0).toInt + 1 := by rw [ti_add (by omega) (by omega), l1]
  refine ⟨EQ_up h1 (fun _ => by rw [e]), fun a ha hs => ?_, fun a ha => iF_c (by decide) (h3 a ha), fun a ha => iS_c (by decide) (h4 a ha), ?_, ?_, fun a ha => ?_, fun a ha => ?_, fun a ha => ?_, ⟨fun a ha => ?_, fun a ha => ?_⟩, WB_c h11 (fun k _ => ?_) (fun i _ => ?_) ?_ (fun i _ => ?_), ?_, ?_⟩
  · simp only [up_rd, Nat.reduceEqDiff, false_and, if_false] at hs ⊢; exact h2 a ha hs
  · simp only [up_rd, Nat.reduceEqDiff, false_and, if_false]; exact h5
  · exact ⟨h6.1, h6.2.1, h6.2.2.1, fun k hk => by simp only [up_rd, Nat.reduceEqDiff, false_and, if_false]; exact h6.2.2.2 k hk⟩
  · simp only [up_rd, Nat.reduceEqDiff, false_and, if_false]; exact h7 a ha
  · simp only [up_rd, Nat.reduceEqDiff, false_and, if_false]; exact h8 a ha
  · unfold lowK; simp only [up_rd, Nat.reduceEqDiff, false_and, if_false]; exact h9 a ha
  · simp only [up_rd, Nat.reduceEqDiff, false_and, if_false]; exact h10.1 a ha
  · simp only [up_rd, Nat.reduceEqDiff, false_and, if_false]; exact h10.2 a ha
  · simp only [up_rd, Nat.reduceEqDiff, false_and, if_false]
  · simp only [up_rd, Nat.reduceEqDiff, false_and, if_false]
  · simp only [up_rd, Nat.reduceEqDiff, false_and, if_false]
  · simp only [up_rd, Nat.reduceEqDiff, false_and, if_false]
  · simp only [up_rd, Nat.reduceEqDiff, false_and, if_false]; exact h12
  · simp only [up_rd, and_self, if_true]; omega
theorem m_cut (h : LI E n Z N) (hn : n ≤ 1000) (hF : F.2.1 = E.2.1) : RES E (n + 1) Z N (v_X6_cut E x1 Z) (vT_X6_cut E x1 Z) (v_X8_cut F x1 N) [xI, xS] := by
  have h12 : E.2.1 ≤ 12 := (LJ_EW h).2.1
  have e4 : ∀ a, Z 0 4 a = N 4 a := fun a => LI_ch h (by unfold Ch; decide)
  have e20 : ∀ a, Z 0 20 a = N 20 a := fun a => LI_ch h (by unfold Ch; decide)
  have e21 : ∀ a, Z 0 21 a = N 21 a := fun a => LI_ch h (by unfold Ch; decide)
  have e64 : ∀ a, Z 0 64 a = N 64 a := fun a => LI_ch h (by unfold Ch; decide)
  have e73 : ∀ a, Z 0 73 a = N 73 a := fun a => LI_ch h (by unfold Ch; decide)
  have n1 : ¬ (1 : Int32) = 0 := by decide
  have h' := LJ_mono h (Nat.le_succ n)
  by_cases hv : vp_in x1 E.2.1
  · have hk := vp_lt hv
    by_cases c1 : Z 0 4 (Int32.toNatClampNeg x1) = 5
    · have hy := LI_yl h hk
      have cN : N 4 (Int32.toNatClampNeg x1) = 5 := (e4 _).symm.trans c1
      have hnI := vp_nI hv
      have hx := vp_iff.mp hv
      have h64 := h.2.2.2.2.1
      have h73 := h.2.2.2.2.2.2.2.2.2.2.2.2
      rw [e64] at h64
      rw [e73] at h73
      have l7 : (7 : Int32).toInt = 7 := rfl
      have l13 : (13 : Int32).toInt = 13 := rfl
      have l5 : (5 : Int32).toInt = 5 := rfl
      have l21 : (21 : Int32).toInt = 21 := rfl
      have s1 : (7 * N 64 0).toInt = 7 * (N 64 0).toInt := by rw [ti_mul (by rw [l7]; omega) (by rw [l7]; omega), l7]
      have s2 : (13 * x1).toInt = 13 * x1.toInt := by rw [ti_mul (by rw [l13]; omega) (by rw [l13]; omega), l13]
      have s3 : (5 * N 73 0).toInt = 5 * (N 73 0).toInt := by rw [ti_mul (by rw [l5]; omega) (by rw [l5]; omega), l5]
      have s4 : (7 * N 64 0 + 13 * x1).toInt = 7 * (N 64 0).toInt + 13 * x1.toInt := by rw [ti_add (by omega) (by omega), s1, s2]
      have s5 : 0 ≤ (7 * N 64 0 + 13 * x1 + 5 * N 73 0).toInt := by rw [ti_add (by omega) (by omega), s4, s3]; omega
      have hf := fm_pos s5 (y := 21) (by rw [l21]; decide)
      generalize hw : 7 * N 64 0 + 13 * x1 + 5 * N 73 0 = ww at hf
      generalize hkk : Int32.toNatClampNeg x1 = kk at *
      generalize hvv : yR N kk = vv at *
      have hy1 : ryC (Z 0) kk = vv := hy.1
      refine Or.inl ⟨vv * (90 + (ww - ww / 21 * 21)) / 100, zs Z 0 (s_up2 (s_up2 (s_up2 (Z 0) 73 0 (N 73 0 + 1)) 20 kk (s_max (N 20 kk) ((100 * (vv * (90 + (ww - ww / 21 * 21)) / 100) + 109) / 110))) 21 kk (s_min (N 21 kk) ((100 * (vv * (90 + (ww - ww / 21 * 21)) / 100 + 1) - 1) / 90))),
        s_up2 (s_up2 (s_up2 (s_up2 N 80 0 0) 73 0 (N 73 0 + 1)) 20 kk (s_max (N 20 kk) ((100 * (vv * (90 + (ww - ww / 21 * 21)) / 100) + 109) / 110))) 21 kk (s_min (N 21 kk) ((100 * (vv * (90 + (ww - ww / 21 * 21)) / 100 + 1) - 1) / 90)), fun Q hq => ?_, fun Q hq => ?_, rfl, LI_zs ?_⟩
      · simp only [v_X6_cut, v_X6_cut_b0, v_X6_ripeFieldAt, v_X6_ripeFieldAt_b0, c_fieldAt h12 hv, e_ripeYield, e_learn, e_fmod (show ¬ (21 : Int32) = 0 by decide), forall_eq, u3_zs, zs_zs, zs_rd, up_rd, Nat.reduceEqDiff, false_and, and_self, if_true, if_false, reduceIte, c1, forall_const, not_true_eq_false, false_implies, and_true, hkk, hy1, e20, e21, e64, e73, ← hnI, hw, hf]
        rw [perm3]
        exact hq
      · simp only [v_X8_cut, v_X8_cut_b0, r_isF (hF ▸ h12) (hF ▸ hv), r_yield, forall_eq, hkk, cN, hF, hv, n1, up_rd, Nat.reduceEqDiff, false_and, and_self, if_true, if_false, reduceIte, not_true_eq_false, not_false_eq_true, false_implies, true_and, and_true, forall_const, show yR (s_up2 N 80 0 0) kk = vv from hvv, hw]
        exact hq
      · have pl : ∀ c, c = 20 ∨ c = 21 → plainC c := fun c z => by unfold plainC; omega
        have := LJ_73 hn (LJ_80 (v := 0) h)
        simp only [up_rd, Nat.reduceEqDiff, false_and, if_false, e73] at this
        exact LJ_p (pl 21 (by omega)) (LJ_p (pl 20 (by omega)) this rfl) rfl
    · refine Or.inr ⟨1, xS, 0, s_up2 (s_up2 N 80 0 0) 80 0 2, rfl, fun Q hq => Or.inr (Or.inl ?_), fun Q hq => ?_, rfl, LJ_80 (LJ_80 h')⟩
      · simp only [c_fieldAt h12 hv, forall_eq, c1, false_implies, true_and, not_false_eq_true, forall_const]
        exact hq
      · rw [e4] at c1
        simp only [v_X8_cut, v_X8_cut_b0, r_isF (hF ▸ h12) (hF ▸ hv), forall_eq, hF, hv, c1, n1, up_rd, Nat.reduceEqDiff, false_and, if_false, not_true_eq_false, not_false_eq_true, false_implies, true_and, and_true, forall_const, r_refuse]
        exact hq
  · refine Or.inr ⟨0, xI, 0, s_up2 (s_up2 N 80 0 0) 80 0 1, rfl, fun Q hq => ?_, fun Q hq => ?_, rfl, LJ_80 (LJ_80 h')⟩
    · exact Or.inr (Or.inr (by rw [t_fieldAt h12 hv]; exact hq))
    · simp only [v_X8_cut, v_X8_cut_b0, forall_eq, r_isF0 (hF ▸ h12) (hF ▸ hv), r_refuse, not_true_eq_false, false_implies, true_and, forall_const]
      exact hq
end
