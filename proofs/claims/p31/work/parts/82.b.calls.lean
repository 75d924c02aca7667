/-! ===== p31: cut, day, inspect, vote, by columns ===== -/
section
variable {E : eT} {n : Nat} {M M1 N M' N' : yT} {Z : zT} {x1 x2 x3 : Int32} {k j i : Nat}
/-- a cut that tells v -/
def cutM (k : Nat) (v : Int32) (M : yT) : yT := s_up2 (s_up2 (s_up2 M 73 0 (M 73 0 + 1)) 20 k (s_max (M 20 k) ((100 * v + 109) / 110))) 21 k (s_min (M 21 k) ((100 * (v + 1) - 1) / 90))
theorem c_cut (h : LI E n Z N) (hn : n ≤ 1000) (hk : k < E.2.1) (c1 : Z 0 4 k = 5) : ∃ u : Int32, (0 ≤ u.toInt ∧ u.toInt ≤ 20) ∧ (∀ Q : Int32 → zT → Prop, Q (ryC (Z 0) k * (90 + u) / 100) (zs Z 0 (cutM k (ryC (Z 0) k * (90 + u) / 100) (Z 0))) → v_X6_cut E (nI k) Z Q) ∧ LG E (n + 1) (cutM k (ryC (Z 0) k * (90 + u) / 100) (Z 0)) (Z 1) := by
  have h12 : E.2.1 ≤ 12 := (LJ_EW h).2.1
  have n1 : ¬ (1 : Int32) = 0 := by decide
  have h64 := h.2.2.2.2.1
  have h73 := h.2.2.2.2.2.2.2.2.2.2.2.2
  have l7 : (7 : Int32).toInt = 7 := rfl
  have l13 : (13 : Int32).toInt = 13 := rfl
  have l5 : (5 : Int32).toInt = 5 := rfl
  have l21 : (21 : Int32).toInt = 21 := rfl
  have lk : (nI k).toInt = k := ti_nI (by omega)
  have s1 : (7 * Z 0 64 0).toInt = 7 * (Z 0 64 0).toInt := by rw [ti_mul (by rw [l7]; omega) (by rw [l7]; omega), l7]
  have s2 : (13 * nI k).toInt = 13 * (k : Int) := by rw [ti_mul (by rw [l13, lk]; omega) (by rw [l13, lk]; omega), l13, lk]
  have s3 : (5 * Z 0 73 0).toInt = 5 * (Z 0 73 0).toInt := by rw [ti_mul (by rw [l5]; omega) (by rw [l5]; omega), l5]
  have s4 : (7 * Z 0 64 0 + 13 * nI k).toInt = 7 * (Z 0 64 0).toInt + 13 * (k : Int) := by rw [ti_add (by omega) (by omega), s1, s2]
  have s5 : 0 ≤ (7 * Z 0 64 0 + 13 * nI k + 5 * Z 0 73 0).toInt := by rw [ti_add (by omega) (by omega), s4, s3]; omega
  have hf := fm_pos s5 (y := 21) (by rw [l21]; decide)
  have hr := ti_rem s5 (b := 21) (by rw [l21]; decide)
  rw [l21] at hr
  generalize hw : 7 * Z 0 64 0 + 13 * nI k + 5 * Z 0 73 0 = ww at hf hr
  generalize hu : ww - ww / 21 * 21 = u at hf hr
  refine ⟨u, by omega, fun Q hq => ?_, ?_⟩
  · unfold cutM at hq
    generalize hvv : ryC (Z 0) k * (90 + u) / 100 = vv at *
    simp only [v_X6_cut, v_X6_cut_b0, v_X6_ripeFieldAt, v_X6_ripeFieldAt_b0, k_field h12 hk, e_ripeYield, e_learn, e_fmod (show ¬ (21 : Int32) = 0 by decide), forall_eq, u3_zs, zs_zs, zs_rd, up_rd, Nat.reduceEqDiff, false_and, and_self, if_true, if_false, reduceIte, c1, forall_const, not_true_eq_false, false_implies, and_true, hw, hf, hvv] at hq ⊢
    rw [perm3]
    exact hq
  · have pl : ∀ c, c = 20 ∨ c = 21 → plainC c := fun c z => by unfold plainC; omega
    exact ⟨_, LJ_p (pl 21 (by omega)) (LJ_p (pl 20 (by omega)) (LJ_73 hn h) rfl) rfl⟩
theorem c_day (h : LI E n Z N) (hn : n ≤ 1000) (c1 : ¬ isw x1 0 200 = 0) (c2 : ¬ isw x2 0 40 = 0) (c3 : ¬ isw x3 0 30 = 0) : (∀ Q : Int32 → zT → Prop, Q (passF E x1 x2 x3 (Z 0) 64 0) (zs Z 0 (passF E x1 x2 x3 (Z 0))) → v_X6_day E x1 x2 x3 Z Q) ∧ LG E (n + 1) (passF E x1 x2 x3 (Z 0)) (Z 1) := by
  have hW := LJ_EW h
  have h' := LJ_mono h (Nat.le_succ n)
  have b1 := isw_b c1
  have b2 := isw_b c2
  have l0 : (0 : Int32).toInt = 0 := rfl
  have l200 : (200 : Int32).toInt = 200 := rfl
  have l40 : (40 : Int32).toInt = 40 := rfl
  have hd : dRel Ch E (s_up2 (s_up2 (s_up2 N 65 0 x1) 66 0 x2) 67 0 x3) n (fun _ => (n : Int)) (s_up2 (s_up2 (s_up2 (Z 0) 65 0 x1) 66 0 x2) 67 0 x3) (s_up2 (s_up2 (s_up2 N 65 0 x1) 66 0 x2) 67 0 x3) := by
    have hE : EQ Ch (s_up2 (s_up2 (s_up2 (Z 0) 65 0 x1) 66 0 x2) 67 0 x3) (s_up2 (s_up2 (s_up2 N 65 0 x1) 66 0 x2) 67 0 x3) := EQ_up (EQ_up (EQ_up h.1 (fun _ => rfl)) (fun _ => rfl)) (fun _ => rfl)
    refine ⟨hE, fun a ha hs => ?_, fun a ha => iF_c (by decide) (iF_c (by decide) (iF_c (by decide) (h.2.2.1 a ha))), fun a ha => iS_c (by decide) (iS_c (by decide) (iS_c (by decide) (h.2.2.2.1 a ha))), ⟨fun c hc a => hE c (by unfold Ch; omega) a, fun _ _ _ => rfl⟩, ?_⟩
    · simp only [up_rd, Nat.reduceEqDiff, false_and, if_false] at hs ⊢
      exact h.2.1 a ha hs
    · simp only [up_rd, Nat.reduceEqDiff, false_and, if_false]; exact h.2.2.2.2.1
  have hW2 : EW E (s_up2 (s_up2 (s_up2 N 65 0 x1) 66 0 x2) 67 0 x3) := ⟨hW.1, hW.2.1, hW.2.2.1, fun k hk => by simp only [up_rd, Nat.reduceEqDiff, false_and, if_false]; exact hW.2.2.2 k hk⟩
  have hr := rel_pass (F := fF E) (fl := x1) (wa := x2) (ra := x3) CD_Ch hW2 rfl rfl (by omega) (by omega) (by simp only [up_rd, Nat.reduceEqDiff, false_and, and_self, if_true, if_false, reduceIte]) (by simp only [up_rd, Nat.reduceEqDiff, false_and, and_self, if_true, if_false, reduceIte]) (by simp only [up_rd, and_self, if_true]) (by omega) hd (fun k hk => by simp only [up_rd, Nat.reduceEqDiff, false_and, if_false]; exact (h.2.2.2.2.2.2.2.1 k hk).1)
  rw [pass_3] at hr
  obtain ⟨-, r2, r3, r4⟩ := hr
  refine ⟨fun Q hq => ?_, passR (fF E) (s_up2 (s_up2 (s_up2 N 65 0 x1) 66 0 x2) 67 0 x3), ?_⟩
  · simp only [v_X6_day, v_X6_day_b0, e_isw, c1, c2, c3, false_implies, true_and, and_true, not_false_eq_true, forall_const, forall_eq]
    have := s_pass (Z := Z) (w := 0) (M := Z 0) (fl := x1) (wa := x2) (ra := x3) hW.1 hW.2.1 (Q := fun Z111 => Q (Z111 0 64 0) Z111) hq
    rw [zs_self] at this
    exact this
  · obtain ⟨q1, q2, q3, q4, q5, q6⟩ := r2
    have fc : ∀ c j, c = 13 ∨ c = 14 ∨ c = 32 ∨ c = 33 ∨ c = 73 → passF E x1 x2 x3 (Z 0) c j = Z 0 c j := fun c j hc => fr_pass (by omega) (by omega)
    have hWB := WB_pass (fl := x1) (wa := x2) (ra := x3) hn hW h.2.2.1 h.2.2.2.1 (by omega) h.2.2.2.2.2.2.2.2.2.2.1
    have hst := h.2.2.2.2.2.2.2.2.2.1
    refine ⟨q1, q2, fun k hk => by have := q3 k hk; rw [show ((n + 1 : Nat) : Int) = (n : Int) + 1 by omega]; exact this, q4, by omega, ⟨hW.1, hW.2.1, hW.2.2.1, fun k hk => ?_⟩, r3, fun k hk => ⟨r4 k hk, (h.2.2.2.2.2.2.2.1 k hk).2⟩, lowK_pass h.2.2.2.2.2.2.2.2.1, ⟨fun k hk => ?_, fun i hi => ?_⟩, hWB, ?_, ?_⟩
    · rw [q5.2 0 (by omega) k]; exact hW2.2.2.2 k hk
    · rw [fc 13 k (by omega), fc 14 k (by omega)]; exact hst.1 k hk
    · rw [fc 32 i (by omega), fc 33 i (by omega)]; exact hst.2 i hi
    · rw [q1 66 (by unfold Ch; decide) 0, q5.2 66 (by omega) 0]
      simp only [up_rd, Nat.reduceEqDiff, false_and, and_self, if_true, if_false, reduceIte]
      omega
    · rw [fc 73 0 (by omega)]; exact h'.2.2.2.2.2.2.2.2.2.2.2.2
/-- what a fine of all of a society's stones leaves -/
def insP (E : eT) (i : Nat) (M : yT) : Int32 × yT := (ce_mem E i).foldl (fun p k => fnS k p) (0, M)
def insM (E : eT) (i : Nat) (M : yT) : yT := s_up2 (insP E i M).2 36 i ((insP E i M).2 36 i + (insP E i M).1)
theorem insP_inv {R : Int32 × yT → Prop} (h0 : R (0, M)) (hs : ∀ (k : Nat) (p : Int32 × yT), k < E.2.1 → R p → R (fnS k p)) : R (insP E i M) := by
  unfold insP
  rw [mem_foldl]
  refine itd_inv (R := fun _ p => R p) E.2.1 0 _ (fun k p _ hk hp => ?_) h0
  split
  · exact hs k p (by omega) hp
  · exact hp
theorem c_inspect (h : LI E n Z N) (hi : i < E.1) : (∀ Q : Int32 → zT → Prop, Q (insP E i (Z 0)).1 (zs Z 0 (insM E i (Z 0))) → v_X6_inspect E (nI i) Z Q) ∧ LG E n (insM E i (Z 0)) (Z 1) := by
  have hW := LJ_EW h
  have key : LG E n (insP E i (Z 0)).2 (Z 1) := insP_inv (R := fun p => LG E n p.2 (Z 1)) ⟨N, h⟩ (fun k p hk hp => by
    obtain ⟨N1, g2⟩ := hp
    unfold fnS
    refine ⟨_, LJ_f (v := 0) (w := 0) (by omega) (LJ_p (by unfold plainC; omega) g2 rfl) rfl ?_⟩
    have hiF := g2.2.2.1 k hk
    unfold iF at hiF ⊢
    simp only [up_rd, Nat.reduceEqDiff, false_and, and_self, if_true, if_false, reduceIte]
    exact ⟨hiF.1, hiF.2.1, ⟨hiF.2.2.1.1, hiF.2.2.1.2.1, hiF.2.2.1.2.2.1, by decide, by decide, hiF.2.2.1.2.2.2.2.2⟩, hiF.2.2.2⟩)
  obtain ⟨N1, key⟩ := key
  refine ⟨fun Q hQ => ?_, _, LJ_p (by unfold plainC; omega) key rfl⟩
  simp only [v_X6_inspect, v_X6_inspect_b0, k_soc hW.1 hi, v_X5_fineStones, v_X5_fineStones_b0]
  refine ⟨(ce_mem E i).length + 1, ?_⟩
  have := l_fine (Z := Z) (w := 0) (i := i) (Q := fun x104 Z103 => Q x104 Z103) hW.2.1 (ce_mem E i).length 0 (0, Z 0) (by omega) (by rw [List.drop_zero]; exact hQ)
  rw [← nI_z, zs_self] at this
  exact this
def votM (E : eT) (i : Nat) (M : yT) : yT := (fun X : yT => s_up2 X 40 i 0) (match mdC E M (nI i) with
  | none => M
  | some a => if 2 * yesC E M i (mdC E M (nI i)) ≤ nI (ce_mem E i).length then M else s_up2 (s_up2 M 34 i (M 34 a)) 35 i (M 35 a))
theorem c_vote (h : LI E n Z N) (hi : i < E.1) : (∀ Q : Int32 → zT → Prop, Q (yesC E (Z 0) i (mdC E (Z 0) (nI i))) (zs Z 0 (votM E i (Z 0))) → v_X6_vote E (nI i) Z Q) ∧ LG E n (votM E i (Z 0)) (Z 1) := by
  have hW := LJ_EW h
  have hS := hW.1
  have e34 : ∀ a, Z 0 34 a = N 34 a := fun a => LI_ch h (by unfold Ch; decide)
  have e35 : ∀ a, Z 0 35 a = N 35 a := fun a => LI_ch h (by unfold Ch; decide)
  have ml := (md_eq (F := fF E) h rfl rfl hi).2
  refine ⟨fun Q hq => ?_, ?_⟩
  · unfold votM at hq
    simp only [v_X6_vote, v_X6_vote_b0, v_X6_vote_b56, k_soc hS hi, c_model hS]
    refine c_yes hW.2.1 ?_
    generalize hr : mdC E (Z 0) (nI i) = r at hq ⊢
    generalize yesC E (Z 0) i r = yy at hq ⊢
    cases r with
    | none =>
      refine ⟨fun _ => ?_, fun a z => by cases z⟩
      simp only [forall_eq, u3_zs]
      exact hq
    | some a =>
      refine ⟨fun z => (by cases z), fun b z => ?_⟩
      cases z
      simp only [forall_eq, u3_zs, zs_zs, zs_rd, up_rd, Nat.reduceEqDiff, false_and, if_false]
      refine ⟨fun c => ?_, fun c => ?_⟩
      · simp only [c, if_true] at hq; exact hq
      · simp only [c, if_false] at hq; exact hq
  · unfold votM
    cases hm : mdC E (Z 0) (nI i) with
    | none => exact ⟨_, LJ_p (by unfold plainC; omega) h rfl⟩
    | some a =>
      have ha := ml a hm
      dsimp only
      split
      · exact ⟨_, LJ_p (by unfold plainC; omega) h rfl⟩
      · refine ⟨_, LJ_p (by unfold plainC; omega) (LJ_p (by unfold plainC; omega) (LJ_s (by omega) h (e34 a) ?_) (e35 a)) rfl⟩
        have g1 := h.2.2.2.1 i hi
        have g2 := h.2.2.2.1 a ha
        unfold iS at g1 g2 ⊢
        simp only [up_rd, Nat.reduceEqDiff, false_and, and_self, if_true, if_false, reduceIte]
        exact ⟨g1.1, g1.2.1, g2.2.2.1, g2.2.2.2.1, g1.2.2.2.2⟩
end
