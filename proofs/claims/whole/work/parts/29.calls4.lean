section
variable {E : eT} {F : fT} {n : Nat} {M M1 N M' N' : yT} {Z : zT} {x1 x2 x3 : Int32} {k i : Nat}
theorem r80_mv {o : Option Nat} {g : Int32} {X : yT} {j : Nat} : mvR k g o X 80 j = X 80 j := by
  unfold mvR
  cases o with
  | none => rfl
  | some a => simp only [up_rd, Nat.reduceEqDiff, false_and, if_false]
theorem r80_gr {X : yT} {j : Nat} : growR k X 80 j = X 80 j := by
  unfold growR
  dsimp only
  split <;> simp only [up_rd, Nat.reduceEqDiff, false_and, if_false]
theorem r80_div {X : yT} {j : Nat} : divR F i X 80 j = X 80 j := by
  unfold divR divB
  have q : s_up2 (s_up2 X 70 0 (X 70 0 + sunkF X i)) 37 i 0 80 j = X 80 j := by simp only [up_rd, Nat.reduceEqDiff, false_and, if_false]
  rw [← q]
  generalize thF X i = th
  generalize s_up2 (s_up2 X 70 0 (X 70 0 + sunkF X i)) 37 i 0 = Y
  split
  · simp only [up_rd, Nat.reduceEqDiff, false_and, if_false]
  · split
    · simp only [up_rd, Nat.reduceEqDiff, false_and, if_false]
    · split
      · simp only [up_rd, Nat.reduceEqDiff, false_and, if_false]
      · rw [fr_itd (fun k X => ?_)]
        · simp only [up_rd, Nat.reduceEqDiff, false_and, if_false]
        · unfold givR
          split
          · rfl
          · simp only [up_rd, Nat.reduceEqDiff, false_and, if_false]
theorem r80_st {X : yT} {j : Nat} : standR F k X 80 j = X 80 j := by
  unfold standR stR2
  have q1 : ∀ (x : Int32) (Y : yT), sendR F k x Y 80 j = Y 80 j := by
    intro x Y
    unfold sendR
    cases belR F Y k with
    | none => exact if_neg (by omega)
    | some a => exact if_neg (by omega)
  have q2 : ∀ Y : yT, dry3 k (pR2 k Y) 80 j = Y 80 j := by
    intro Y
    rw [dry3_rd (by decide)]
    unfold pR2
    simp only [up_rd, Nat.reduceEqDiff, false_and, if_false]
  dsimp only
  rw [up_rd, if_neg (by omega)]
  split
  · rw [q2, q1]; unfold pR1; simp only [up_rd, Nat.reduceEqDiff, false_and, if_false]
  · rw [r80_gr, q2, q1]; unfold pR1; simp only [up_rd, Nat.reduceEqDiff, false_and, if_false]
theorem r80_pass {X : yT} {j : Nat} : passR F X 80 j = X 80 j := by
  unfold passR flyR headR
  dsimp only
  rw [fr_itd (fun k X => ?_), fr_itd (fun k X => ?_), fr_itd (fun k X => ?_), fr_itd (fun k X => r80_st), fr_itd (fun k X => ?_), fr_itd (fun k X => r80_div), fr_itd (fun k X => ?_), fr_itd (fun k X => fr_weir (by decide))]
  · unfold hd2; simp only [up_rd, Nat.reduceEqDiff, false_and, if_false]
  · unfold z11; simp only [up_rd, Nat.reduceEqDiff, false_and, if_false]
  · unfold z22; simp only [up_rd, Nat.reduceEqDiff, false_and, if_false]
  · unfold z23; simp only [up_rd, Nat.reduceEqDiff, false_and, if_false]
  · unfold flS; dsimp only; rw [r80_mv, r80_mv]
  · unfold set2; simp only [up_rd, Nat.reduceEqDiff, false_and, if_false]
theorem m_day (h : LI E n Z N) (hn : n ≤ 1000) (hF : F.2.1 = E.2.1) (hF1 : F.1 = E.1) : RES E (n + 1) Z N (v_X6_day E x1 x2 x3 Z) (vT_X6_day E x1 x2 x3 Z) (v_X8_day F x1 x2 x3 N) [xA] := by
  have hW := LJ_EW h
  have n1 : ¬ (1 : Int32) = 0 := by decide
  have h' := LJ_mono h (Nat.le_succ n)
  have bad : (isw x1 0 200 = 0 ∨ isw x2 0 40 = 0 ∨ isw x3 0 30 = 0) → RES E (n + 1) Z N (v_X6_day E x1 x2 x3 Z) (vT_X6_day E x1 x2 x3 Z) (v_X8_day F x1 x2 x3 N) [xA] := by
    intro hb
    refine Or.inr ⟨0, xA, 0, s_up2 (s_up2 N 80 0 0) 80 0 1, rfl, fun Q hq => ?_, fun Q hq => ?_, rfl, LJ_80 (LJ_80 h')⟩
    · simp only [vT_X6_day, vT_X6_day_b0, vT_X6_day_b31, e_isw]
      by_cases c1 : isw x1 0 200 = 0
      · exact ⟨fun _ => hq, fun z => absurd c1 z⟩
      · by_cases c2 : isw x2 0 40 = 0
        · exact ⟨fun z => absurd z c1, fun _ => ⟨fun _ => hq, fun z => absurd c2 z⟩⟩
        · exact ⟨fun z => absurd z c1, fun _ => ⟨fun z => absurd z c2, fun _ => ⟨fun z => absurd ((hb.resolve_left c1).resolve_left c2) z, fun _ => hq⟩⟩⟩
    · simp only [v_X8_day, v_X8_day_b0, v_X8_day_b36, e_isR, forall_eq, r_refuse]
      by_cases c1 : isw x1 0 200 = 0
      · exact ⟨fun _ => hq, fun z => absurd c1 z⟩
      · by_cases c2 : isw x2 0 40 = 0
        · exact ⟨fun z => absurd z c1, fun _ => ⟨fun _ => hq, fun z => absurd c2 z⟩⟩
        · exact ⟨fun z => absurd z c1, fun _ => ⟨fun z => absurd z c2, fun _ => ⟨fun z => absurd ((hb.resolve_left c1).resolve_left c2) z, fun _ => hq⟩⟩⟩
  by_cases c1 : isw x1 0 200 = 0
  · exact bad (Or.inl c1)
  by_cases c2 : isw x2 0 40 = 0
  · exact bad (Or.inr (Or.inl c2))
  by_cases c3 : isw x3 0 30 = 0
  · exact bad (Or.inr (Or.inr c3))
  clear bad
  have b1 := isw_b c1
  have b2 := isw_b c2
  have l0 : (0 : Int32).toInt = 0 := rfl
  have l200 : (200 : Int32).toInt = 200 := rfl
  have l40 : (40 : Int32).toInt = 40 := rfl
  have hR := LJ_80 (v := 0) h
  have hd : dRel Ch E (s_up2 (s_up2 (s_up2 (s_up2 N 80 0 0) 65 0 x1) 66 0 x2) 67 0 x3) n (fun _ => (n : Int)) (s_up2 (s_up2 (s_up2 (Z 0) 65 0 x1) 66 0 x2) 67 0 x3) (s_up2 (s_up2 (s_up2 (s_up2 N 80 0 0) 65 0 x1) 66 0 x2) 67 0 x3) := by
    have hE : EQ Ch (s_up2 (s_up2 (s_up2 (Z 0) 65 0 x1) 66 0 x2) 67 0 x3) (s_up2 (s_up2 (s_up2 (s_up2 N 80 0 0) 65 0 x1) 66 0 x2) 67 0 x3) := EQ_up (EQ_up (EQ_up hR.1 (fun _ => rfl)) (fun _ => rfl)) (fun _ => rfl)
    refine ⟨hE, fun a ha hs => ?_, fun a ha => iF_c (by decide) (iF_c (by decide) (iF_c (by decide) (h.2.2.1 a ha))), fun a ha => iS_c (by decide) (iS_c (by decide) (iS_c (by decide) (h.2.2.2.1 a ha))), ⟨fun c hc a => hE c (by unfold Ch; omega) a, fun _ _ _ => rfl⟩, ?_⟩
    · simp only [up_rd, Nat.reduceEqDiff, false_and, if_false] at hs ⊢
      exact h.2.1 a ha hs
    · simp only [up_rd, Nat.reduceEqDiff, false_and, if_false]; exact h.2.2.2.2.1
  have hW2 : EW E (s_up2 (s_up2 (s_up2 (s_up2 N 80 0 0) 65 0 x1) 66 0 x2) 67 0 x3) := ⟨hW.1, hW.2.1, hW.2.2.1, fun k hk => by simp only [up_rd, Nat.reduceEqDiff, false_and, if_false]; exact hW.2.2.2 k hk⟩
  have hr := rel_pass (F := F) (fl := x1) (wa := x2) (ra := x3) CD_Ch hW2 hF hF1 (by omega) (by omega) (by simp only [up_rd, Nat.reduceEqDiff, false_and, and_self, if_true, if_false, reduceIte]) (by simp only [up_rd, Nat.reduceEqDiff, false_and, and_self, if_true, if_false, reduceIte]) (by simp only [up_rd, and_self, if_true]) (by omega) hd (fun k hk => by simp only [up_rd, Nat.reduceEqDiff, false_and, if_false]; exact (h.2.2.2.2.2.2.2.1 k hk).1)
  rw [pass_3] at hr
  obtain ⟨r1, r2, r3, r4⟩ := hr
  have e64 : passF E x1 x2 x3 (Z 0) 64 0 = passR F (s_up2 (s_up2 (s_up2 (s_up2 N 80 0 0) 65 0 x1) 66 0 x2) 67 0 x3) 64 0 := r2.1 64 (by unfold Ch; decide) 0
  refine Or.inl ⟨passF E x1 x2 x3 (Z 0) 64 0, zs Z 0 (passF E x1 x2 x3 (Z 0)), passR F (s_up2 (s_up2 (s_up2 (s_up2 N 80 0 0) 65 0 x1) 66 0 x2) 67 0 x3), fun Q hq => ?_, fun Q hq => ?_, ?_, LI_zs ?_⟩
  · simp only [v_X6_day, v_X6_day_b0, e_isw, c1, c2, c3, false_implies, true_and, and_true, not_false_eq_true, forall_const, forall_eq]
    have := s_pass (Z := Z) (w := 0) (M := Z 0) (fl := x1) (wa := x2) (ra := x3) hW.1 hW.2.1 (Q := fun Z111 => Q (Z111 0 64 0) Z111) hq
    rw [zs_self] at this
    exact this
  · rw [e64] at hq
    simp only [v_X8_day, v_X8_day_b0, e_isR, c1, c2, c3, false_implies, true_and, and_true, not_false_eq_true, forall_const, forall_eq]
    exact r1 (fun Z124 => Q (Z124 64 0) Z124) hq
  · rw [r80_pass]; simp only [up_rd, Nat.reduceEqDiff, false_and, and_self, if_true, if_false, reduceIte]
  · obtain ⟨q1, q2, q3, q4, q5, q6⟩ := r2
    have fc : ∀ c j, c = 13 ∨ c = 14 ∨ c = 32 ∨ c = 33 ∨ c = 73 → passF E x1 x2 x3 (Z 0) c j = Z 0 c j := fun c j hc => fr_pass (by omega) (by omega)
    have hWB := WB_pass (fl := x1) (wa := x2) (ra := x3) hn hW h.2.2.1 h.2.2.2.1 (by omega) h.2.2.2.2.2.2.2.2.2.2.1
    have hst := h.2.2.2.2.2.2.2.2.2.1
    refine ⟨q1, q2, fun k hk => by have := q3 k hk; rw [show ((n + 1 : Nat) : Int) = (n : Int) + 1 by omega]; exact this, q4, by omega, ⟨hW.1, hW.2.1, hW.2.2.1, fun k hk => ?_⟩, r3, fun k hk => ⟨r4 k hk, (h.2.2.2.2.2.2.2.1 k hk).2⟩, lowK_pass h.2.2.2.2.2.2.2.2.1, ⟨fun k hk => ?_, fun i hi => ?_⟩, hWB, ?_, ?_⟩
    · rw [q5.2 0 (by omega) k]; exact hW2.2.2.2 k hk
    · rw [fc 13 k (by omega), fc 14 k (by omega)]; exact hst.1 k hk
    · rw [fc 32 i (by omega), fc 33 i (by omega)]; exact hst.2 i hi
    · rw [q1 66 (by unfold Ch; decide) 0, q5.2 66 (by omega) 0]
      simp only [up_rd, Nat.reduceEqDiff, false_and, and_self, if_true, if_false, reduceIte]
      omega
    · rw [fc 73 0 (by omega)]; exact h'.2.2.2.2.2.2.2.2.2.2.2.2
/-! the law of a society -/
def fnS (k : Nat) (p : Int32 × yT) : Int32 × yT := (p.1 + 5 * p.2 15 k, s_up2 (s_up2 p.2 17 k (p.2 17 k - 5 * p.2 15 k)) 15 k 0)
theorem l_fine (hF : E.2.1 ≤ 12) {Q : Int32 → zT → Prop} {w : Nat} : ∀ (d j : Nat) (p : Int32 × yT), j + d = (ce_mem E i).length → (fun q : Int32 × yT => Q q.1 (zs Z w (s_up2 q.2 36 i (q.2 36 i + q.1)))) (((ce_mem E i).drop j).foldl (fun p k => fnS k p) p) → v_X5_fineStones_b4 E w Q (d + 1) i p.1 (nI j) (zs Z w p.2) := by
  have hl := mem_len E i
  intro d
  induction d with
  | zero =>
    intro j p h hq
    have hj : j = (ce_mem E i).length := h
    subst hj
    unfold v_X5_fineStones_b4
    simp only [List.drop_length, List.foldl_nil] at hq
    simp only [forall_eq, nI_lei (show (ce_mem E i).length < 2147483648 by omega) (show (ce_mem E i).length < 2147483648 by omega), Nat.le_refl, forall_const, not_true_eq_false, false_implies, and_true, u3_zs, zs_zs, zs_rd]
    exact hq
  | succ d ih =>
    intro j p h hq
    unfold v_X5_fineStones_b4
    have h1 : j < 2147483648 := by omega
    have h2 : (ce_mem E i).length < 2147483648 := by omega
    have h3 : ¬ (ce_mem E i).length ≤ j := by omega
    have h4 : j < (ce_mem E i).length := by omega
    rw [drop_get h4, List.foldl_cons] at hq
    simp only [forall_eq, nI_lei h2 h1, h3, h4, false_implies, true_and, nI_vp h1, nI_cl h1, not_false_eq_true, forall_const, ← nI_succ, u3_zs, zs_zs, zs_rd]
    exact ih (j + 1) (fnS ((ce_mem E i).getD j 0) p) (by omega) hq
theorem l_insR (hF : F.2.1 ≤ 12) (hi : vp_in x1 F.1) {Q : Int32 → yT → Prop} : ∀ (d j : Nat) (p : Int32 × yT), j + d = F.2.1 → (fun q : Int32 × yT => Q q.1 (s_up2 q.2 36 (Int32.toNatClampNeg x1) (q.2 36 (Int32.toNatClampNeg x1) + q.1))) (itd (fun k p => if p.2 0 k = x1 then fnS k p else p) j d p) → v_X8_inspect_b36 F Q (d + 1) x1 p.1 (nI F.2.1) (nI j) p.2 := by
  intro d
  induction d with
  | zero =>
    intro j p h hq
    have hj : j = F.2.1 := h
    subst hj
    unfold v_X8_inspect_b36
    simp only [forall_eq, nI_lei (show F.2.1 < 2147483648 by omega) (show F.2.1 < 2147483648 by omega), Nat.le_refl, forall_const, not_true_eq_false, false_implies, and_true, hi, true_and]
    exact hq
  | succ d ih =>
    intro j p h hq
    unfold v_X8_inspect_b36
    have h1 : j < 2147483648 := by omega
    have h2 : F.2.1 < 2147483648 := by omega
    have h3 : ¬ F.2.1 ≤ j := by omega
    have h4 : j < F.2.1 := by omega
    rw [itd_s] at hq
    have hq := ih (j + 1) _ (by omega) hq
    simp only [forall_eq, nI_lei h2 h1, h3, h4, false_implies, true_and, nI_vp h1, nI_cl h1, not_false_eq_true, forall_const, ← nI_succ, v_X8_inspect_b91, up_rd, Nat.reduceEqDiff, false_and, if_false]
    refine ⟨fun c => ?_, fun c => ?_⟩
    · rw [if_pos c] at hq; exact hq
    · rw [if_neg c] at hq; exact hq
theorem m_inspect (h : LI E n Z N) (hF : F.2.1 = E.2.1) (hF1 : F.1 = E.1) : RES E n Z N (v_X6_inspect E x1 Z) (vT_X6_inspect E x1 Z) (v_X8_inspect F x1 N) [xI] := by
  have hW := LJ_EW h
  have n1 : ¬ (1 : Int32) = 0 := by decide
  by_cases hv : vp_in x1 E.1
  · have hi := vp_lt hv
    have hx := vp_nI hv
    have hc := vp_iff.mp hv
    have key : (fun (p q : Int32 × yT) => p.1 = q.1 ∧ LJ E n p.2 (Z 1) q.2 ∧ q.2 80 0 = 0) ((ce_mem E (Int32.toNatClampNeg x1)).foldl (fun p k => fnS k p) (0, Z 0)) (itd (fun k p => if p.2 0 k = x1 then fnS k p else p) 0 E.2.1 (0, s_up2 N 80 0 0)) := by
      rw [mem_foldl]
      refine itd_rel (R := fun _ (p q : Int32 × yT) => p.1 = q.1 ∧ LJ E n p.2 (Z 1) q.2 ∧ q.2 80 0 = 0) E.2.1 0 _ _ (fun k p q _ hk hx => ?_) ⟨rfl, LJ_80 h, rfl⟩
      have hk : k < E.2.1 := by omega
      obtain ⟨g1, g2, g3⟩ := hx
      have e0 := (LJ_EW g2).2.2.2 k hk
      have hb := hW.2.2.1 k hk
      have h3 := hW.1
      by_cases c : E.2.2 k = Int32.toNatClampNeg x1
      · have c' : q.2 0 k = x1 := by rw [e0, c, ← hx]
        rw [if_pos c, if_pos c']
        have e15 : p.2 15 k = q.2 15 k := g2.1 15 (by unfold Ch; decide) k
        have e17 : p.2 17 k = q.2 17 k := g2.1 17 (by unfold Ch; decide) k
        unfold fnS
        refine ⟨by rw [g1, e15], LJ_f (by omega) (LJ_p (by unfold plainC; omega) g2 (by rw [e15, e17])) rfl ?_, by simp only [up_rd, Nat.reduceEqDiff, false_and, if_false]; exact g3⟩
        have hiF := g2.2.2.1 k hk
        unfold iF at hiF ⊢
        simp only [up_rd, Nat.reduceEqDiff, false_and, and_self, if_true, if_false, reduceIte]
        exact ⟨hiF.1, hiF.2.1, ⟨hiF.2.2.1.1, hiF.2.2.1.2.1, hiF.2.2.1.2.2.1, by decide, by decide, hiF.2.2.1.2.2.2.2.2⟩, hiF.2.2.2⟩
      · have c' : ¬ q.2 0 k = x1 := by
          rw [e0]
          intro z
          rw [hx] at z
          exact c ((nI_inj3 (by omega) (by omega)).mp z)
        rw [if_neg c, if_neg c']
        exact ⟨g1, g2, g3⟩
    generalize hp : (ce_mem E (Int32.toNatClampNeg x1)).foldl (fun p k => fnS k p) (0, Z 0) = p at key
    generalize hq' : itd (fun k p => if p.2 0 k = x1 then fnS k p else p) 0 E.2.1 ((0, s_up2 N 80 0 0) : Int32 × yT) = q at key
    obtain ⟨g1, g2, g3⟩ := key
    refine Or.inl ⟨p.1, zs Z 0 (s_up2 p.2 36 (Int32.toNatClampNeg x1) (p.2 36 (Int32.toNatClampNeg x1) + p.1)), s_up2 q.2 36 (Int32.toNatClampNeg x1) (q.2 36 (Int32.toNatClampNeg x1) + q.1), fun Q hQ => ?_, fun Q hQ => ?_, by simp only [up_rd, Nat.reduceEqDiff, false_and, if_false]; exact g3, LI_zs (LJ_p (by unfold plainC; omega) g2 (by rw [g1, g2.1 36 (by unfold Ch; decide)]))⟩
    · simp only [v_X6_inspect, v_X6_inspect_b0, c_societyAt hW.1 hv, v_X5_fineStones, v_X5_fineStones_b0]
      refine ⟨(ce_mem E (Int32.toNatClampNeg x1)).length + 1, ?_⟩
      have := l_fine (Z := Z) (w := 0) (i := Int32.toNatClampNeg x1) (Q := fun x104 Z103 => Q x104 Z103) hW.2.1 (ce_mem E (Int32.toNatClampNeg x1)).length 0 (0, Z 0) (by omega) (by rw [List.drop_zero, hp]; exact hQ)
      rw [← nI_z, zs_self] at this
      exact this
    · rw [g1] at hQ
      simp only [v_X8_inspect, v_X8_inspect_b0, forall_eq, r_isS (hF1 ▸ hW.1) (hF1 ▸ hv), n1, not_false_eq_true, forall_const, false_implies, and_true]
      refine ⟨F.2.1 + 1, ?_⟩
      have := l_insR (x1 := x1) (Q := Q) (hF ▸ hW.2.1) (hF1 ▸ hv) F.2.1 0 (0, s_up2 N 80 0 0) (by omega) (by rw [hF, hq']; exact hQ)
      rw [← nI_z] at this
      exact this
  · refine Or.inr ⟨0, xI, 0, s_up2 (s_up2 N 80 0 0) 80 0 1, rfl, fun Q hq => ?_, fun Q hq => ?_, rfl, LJ_80 (LJ_80 h)⟩
    · exact Or.inr (by rw [t_societyAt hW.1 hv]; exact hq)
    · simp only [v_X8_inspect, v_X8_inspect_b0, forall_eq, r_isS0 (hF1 ▸ hW.1) (hF1 ▸ hv), r_refuse, not_true_eq_false, false_implies, true_and, forall_const]
      exact hq
end
