/-! ===== the digest: both sides; the law's helpers of what would be ===== -/
theorem itd_cc {α : Type} {f g : Nat → α → α} {d : Nat} {a : α} (h : ∀ k s, k < d → f k s = g k s) : itd f 0 d a = itd g 0 d a :=
  itd_rel (R := fun _ a b => a = b) d 0 a a (fun k a b _ hk e => by rw [e]; exact h k b (by omega)) rfl
section
variable {S S' S0 S1 : sT} {E : eT} {F : fT} {n D : Nat} {X X' : Nat → Nat → Nat} {N U V : yT} {Z : zT} {d v : Int64} {k i : Nat}
theorem dg_eq1 (h : LI E n Z N) (hn : n ≤ 1000) (d : Int64) : dg3 E (Z 0) d = itd (dRS E N) 0 E.1 (mxI (dR2 E N 0 7 (dR1 E N 0 12 d)) (if cloR E N = 0 then 0 else 1)) := by
  have m1 : dg1 E (Z 0) d = dR1 E N 0 12 d := itd_cc (fun j s hj => by rw [man_eq h (nI_b (m := 11) (by omega) (by decide))])
  have m2 : ∀ d, dg2 E (Z 0) d = dR2 E N 0 7 d := fun d => itd_cc (fun j s hj => by rw [wat_eq h (nI_b (m := 6) (by omega) (by decide))])
  have m3 : cloC E (Z 0) = cloR E N := (clo_eq h).symm
  unfold dg3
  rw [m1, m2, m3]
  refine itd_cc (fun i s hi => ?_)
  unfold dgS dRS dR3
  rw [(sus_eq (F := fF E) h hn rfl hi).1]
  have m4 : itd (fun j d => mxI d (socC E (Z 0) i (nI j))) 0 9 s = itd (fun j d => mxI d (socR (fF E) N i (nI j))) 0 9 s := itd_cc (fun j s hj => by rw [soc_eq h hi (nI_b (m := 8) (by omega) (by decide))])
  rw [m4]
theorem dg_eq2 {Y : yT} (h : LI E n Z N) (hY : ∀ k, k < E.2.1 → ryC Y k = yR (itd (fun _ => passR (fT0 E)) 0 5 (Nw N)) k) (d : Int64) : itd (dgF E (Z 0) Y) 0 E.2.1 d = itd (dRF E N) 0 E.2.1 d := by
  refine itd_cc (fun k s hk => ?_)
  have m1 : itd (fun j d => mxI d (fldC E (Z 0) k (nI j))) 0 14 s = dR4 N k 0 14 s := itd_cc (fun j s hj => by rw [fld_eq h hk (nI_b (m := 13) (by omega) (by decide))])
  have m2 : ∀ s, itd (fun j d => mxI d (ownC (Z 0) k (nI j))) 0 4 s = dR5 N k 0 4 s := fun s => itd_cc (fun j s hj => by
    unfold ownC
    rw [LI_ch h (c := 17) (by unfold Ch; decide), LI_ch h (c := 18) (by unfold Ch; decide), LI_ch h (c := 19) (by unfold Ch; decide)])
  have m3 : thoC (Z 0) k 0 = N 20 k := LI_ch h (by unfold Ch; decide)
  have m4 : thoC (Z 0) k 1 = N 21 k := LI_ch h (by unfold Ch; decide)
  unfold dgF dRF
  rw [m1, m2, m3, m4, hY k hk]
theorem dg_eq (h : LI E n Z N) (hl : LN E Z N) (hn : n ≤ 900) : (dgC E (Z 0) (Z 1)).1 = dRR E N ∧ TS E N (dgC E (Z 0) (Z 1)).2 := by
  obtain ⟨hw, z65, z66, z67⟩ := LI_w h
  have hW := LJ_EW h
  have t0 := TR_0 h (LN_TL h hl)
  have t5 := tr_pF (F := fT0 E) hW rfl rfl hw 5 (by omega) t0
  rw [← z65, ← z66, ← z67] at t5
  have hY : ∀ k, k < E.2.1 → ryC (pF E (Z 0 65 0) (Z 0 66 0) (Z 0 67 0) 5 (cpM E (Z 0) (Z 1))) k = yR (itd (fun _ => passR (fT0 E)) 0 5 (Nw N)) k := fun k hk => (yl_eq CD_Ct t5.1 hk).1
  have L5 : TL E N (pF E (Z 0 65 0) (Z 0 66 0) (Z 0 67 0) 5 (cpM E (Z 0) (Z 1))) := TL_of hl (RG_pF (RG_cp RG_r)) t5
  have e1 := dg_eq1 h (by omega) 58173
  have e2 := dg_eq2 h hY (dg3 E (Z 0) 58173)
  unfold dgC
  dsimp only
  generalize pF E (Z 0 65 0) (Z 0 66 0) (Z 0 67 0) 5 (cpM E (Z 0) (Z 1)) = Y at L5 e2 ⊢
  have tc := TR_0 h L5
  have ri := tr_ri (F := fT0 E) (M := Z 0) hW rfl rfl hw (LI_4 h).1 10 1 n _ _ (by omega) ((LI_4 h).2 Y) tc
  rw [← z65, ← z66, ← z67] at ri
  obtain ⟨ri1, n', Y', ri2⟩ := ri
  have Lr : TL E N (riC E (Z 0 65 0) (Z 0 66 0) (Z 0 67 0) (crC E (Z 0)) 10 1 (cpM E (Z 0) Y)).2 := TL_of L5.2 (RG_ri 10 1 _ (RG_cp RG_r)) ri2
  have pl := tr_plan (F := fT0 E) (D := 12) (x1 := 0) h rfl rfl (by decide) (by omega) Lr
  refine ⟨?_, pl.2.1⟩
  show mxI (mxI (itd (dgF E (Z 0) Y) 0 E.2.1 (dg3 E (Z 0) 58173)) (riC E (Z 0 65 0) (Z 0 66 0) (Z 0 67 0) (crC E (Z 0)) 10 1 (cpM E (Z 0) Y)).1) (plV E (Z 0) 0 12 (riC E (Z 0 65 0) (Z 0 66 0) (Z 0 67 0) (crC E (Z 0)) 10 1 (cpM E (Z 0) Y)).2).1 = dRR E N
  rw [pl.1, ri1, e2, e1]
  rfl
/-- the columns beyond the lengths, as they are wanted -/
theorem LN_mk {H : Nat → Nat → Nat → Nat} {x3 x4 : Nat} (hX : LX x3 x4 H X E S Z N) (h : LI E n Z N) : ∃ Z' : zT, LX x3 x4 H X E S Z' N ∧ LI E n Z' N ∧ LN E Z' N := by
  refine ⟨zs Z 1 (fun c k => if c_len E c ≤ k then N c k else Z 1 c k), ⟨⟨hX.1.1, hX.1.2.1, fun w hw c hc hv k hk => (hX.1.2.2 w hw c hc hv k hk).trans ?_⟩, hX.2⟩, ?_, ?_⟩
  · unfold zs
    by_cases z : w = 1
    · rw [if_pos z, z]
      show Z 1 c k = (if c_len E c ≤ k then N c k else Z 1 c k)
      rw [if_neg (by omega)]
    · rw [if_neg z]
  · obtain ⟨h1, h2, h3, h4, h5, h6, h7, h8, h9, h10, h11⟩ := h
    have e : ∀ c k, k < c_len E c → zs Z 1 (fun c k => if c_len E c ≤ k then N c k else Z 1 c k) 1 c k = Z 1 c k := fun c k hk => by
      rw [zs_rd]
      exact if_neg (by omega)
    show LJ E n (zs Z 1 _ 0) (zs Z 1 _ 1) N
    rw [zs_r0]
    refine ⟨h1, h2, h3, h4, h5, h6, h7, fun k hk => ⟨(h8 k hk).1, ?_⟩, h9, ⟨fun k hk => ?_, fun i hi => ?_⟩, h11⟩
    · rw [e 22 k (by rw [cl_f (by decide)]; exact hk), e 23 k (by rw [cl_f (by decide)]; exact hk)]; exact (h8 k hk).2
    · rw [e 13 k (by rw [cl_f (by decide)]; exact hk), e 14 k (by rw [cl_f (by decide)]; exact hk)]; exact h10.1 k hk
    · rw [e 32 i (by rw [cl_s (by decide) (by decide)]; exact hi), e 33 i (by rw [cl_s (by decide) (by decide)]; exact hi)]; exact h10.2 i hi
  · intro c k hk
    rw [zs_rd]
    exact if_pos hk
theorem LW_norm {x1 x2 x3 x4 : Nat} (h : LW x1 x2 x3 x4 E n S) : ∃ (H : Nat → Nat → Nat → Nat) (X : Nat → Nat → Nat) (Z : zT) (N : yT), x1 = H 0 9 0 ∧ x2 = X 0 0 ∧ LX x3 x4 H X E S Z N ∧ LI E n Z N ∧ LN E Z N := by
  obtain ⟨H, X, Z, N, e1, e2, hX, hI⟩ := h
  obtain ⟨Z', g1, g2, g3⟩ := LN_mk hX hI
  exact ⟨H, X, Z', N, e1, e2, g1, g2, g3⟩
end
section
variable {x1 x2 x3 x4 : Nat} {E : eT} {n : Nat} {S : sT} {a b : Int32}
theorem L_wouldYield {Q : Int32 → sT → Prop} (hn : n < 800) (hW : LW x1 x2 x3 x4 E n S) (hQ : ∀ r S1, AFT x1 x2 x3 x4 E (n + 1) Int32.toInt64 (wA_X8_wouldYield 21 349 x2 a b) r S1 → Q r S1) : wA_L_wouldYield 1 6 x1 a b x3 S Q := by
  have hK := LW_K1 hW
  obtain ⟨H, X, Z, N, e1, e2, hX, hI, hl⟩ := LW_norm hW
  have hL := HLP_mkA (wC := w_X6_wouldYield x1 a b S) (wT := wT_X6_wouldYield x1 a b S) (wR := wA_X8_wouldYield 21 349 x2 a b) Int32.toInt64 e1 e2 hX (by decide) (RESA_mono (m_wouldYield (x1 := a) (x2 := b) e2 (by omega) hI hl) (Nat.le_succ n))
    (fun P Q Q' hs hq hc hp h => by rw [e1]; exact u_X6_wouldYield hs hq hc hp h)
    (fun P Q Q' hs hq hc hp h => by rw [e1]; exact uT_X6_wouldYield hs hq hc hp h)
  unfold wA_L_wouldYield wA_L_wouldYield_b0
  refine ⟨hK, ?_⟩
  rcases hL with ⟨v, h⟩ | ⟨c, ex, hc, h⟩
  · exact Or.inl (h _ (fun S1 h3 hn1 hA => fun j ej => ⟨h3, vp_in01 hn1, fun S2 e4 => by subst ej e4; exact hQ _ _ hA⟩))
  · exact Or.inr ⟨Nat.le_refl _, Nat.le_refl _, h _ (fun S1 hA => ex2 xIA hc (hQ _ _ hA))⟩
theorem L_ripeIn {Q : Int32 → sT → Prop} (hn : n < 800) (hW : LW x1 x2 x3 x4 E n S) (hQ : ∀ r S1, AFT x1 x2 x3 x4 E (n + 1) Int32.toInt64 (wA_X8_ripeIn 21 349 x2 a) r S1 → Q r S1) : wA_L_ripeIn 1 6 x1 a x3 S Q := by
  have hK := LW_K1 hW
  obtain ⟨H, X, Z, N, e1, e2, hX, hI, hl⟩ := LW_norm hW
  have hL := HLP_mkA (wC := w_X6_ripeIn x1 a S) (wT := wT_X6_ripeIn x1 a S) (wR := wA_X8_ripeIn 21 349 x2 a) Int32.toInt64 e1 e2 hX (by decide) (RESA_mono (m_ripeIn (x1 := a) e2 (by omega) hI hl) (Nat.le_succ n))
    (fun P Q Q' hs hq hc hp h => by rw [e1]; exact u_X6_ripeIn hs hq hc hp h)
    (fun P Q Q' hs hq hc hp h => by rw [e1]; exact uT_X6_ripeIn hs hq hc hp h)
  unfold wA_L_ripeIn wA_L_ripeIn_b0
  refine ⟨hK, ?_⟩
  rcases hL with ⟨v, h⟩ | ⟨c, ex, hc, h⟩
  · exact Or.inl (h _ (fun S1 h3 hn1 hA => fun j ej => ⟨h3, vp_in01 hn1, fun S2 e4 => by subst ej e4; exact hQ _ _ hA⟩))
  · exact Or.inr ⟨Nat.le_refl _, Nat.le_refl _, h _ (fun S1 hA => ex1 hc (hQ _ _ hA))⟩
theorem L_plan {Q : Int32 → sT → Prop} (hn : n < 800) (hW : LW x1 x2 x3 x4 E n S) (hQ : ∀ r S1, AFT x1 x2 x3 x4 E (n + 1) Int32.toInt64 (wA_X8_plan 567 9423 x2 a b) r S1 → Q r S1) : wA_L_plan 1 6 x1 a b x3 S Q := by
  have hK := LW_K1 hW
  obtain ⟨H, X, Z, N, e1, e2, hX, hI, hl⟩ := LW_norm hW
  have hL := HLP_mkA (wC := w_X6_plan x1 a b S) (wT := wT_X6_plan x1 a b S) (wR := wA_X8_plan 567 9423 x2 a b) Int32.toInt64 e1 e2 hX (by decide) (RESA_mono (m_plan (x1 := a) (x2 := b) e2 (by omega) hI hl) (Nat.le_succ n))
    (fun P Q Q' hs hq hc hp h => by rw [e1]; exact u_X6_plan hs hq hc hp h)
    (fun P Q Q' hs hq hc hp h => by rw [e1]; exact uT_X6_plan hs hq hc hp h)
  unfold wA_L_plan wA_L_plan_b0
  refine ⟨hK, ?_⟩
  rcases hL with ⟨v, h⟩ | ⟨c, ex, hc, h⟩
  · exact Or.inl (h _ (fun S1 h3 hn1 hA => fun j ej => ⟨h3, vp_in01 hn1, fun S2 e4 => by subst ej e4; exact hQ _ _ hA⟩))
  · exact Or.inr ⟨Nat.le_refl _, Nat.le_refl _, h _ (fun S1 hA => ex1 hc (hQ _ _ hA))⟩
theorem L_isClosed {K : Nat → Nat → sT → Prop} {mc ms kc ks : Nat} (hW : LW x1 x2 x3 x4 E n S) (hmc : kc + 7 ≤ mc) (hms : ks + 49 ≤ ms) (hK : ∀ S', LW x1 x2 x3 x4 E (n + 1) S' → K 7 49 S') : s_K S x1 = 8 ∧ w_X6_isClosed x1 S (fun v S1 => s_K S1 x2 = 10 ∧ ∃ c d : Nat, kc + c ≤ mc ∧ ks + d ≤ ms ∧ wA_X8_isClosed c d x2 S1 (fun u S2 => (v = u → K c d S2) ∧ (¬ v = u → False))) := by
  refine ⟨LW_K1 hW, ?_⟩
  obtain ⟨H, X, Z, N, e1, e2, ⟨hC, hR, hO⟩, hI⟩ := hW
  have hE := LJ_EW hI
  rw [e1]
  refine u_X6_isClosed (P := fun S => RC X (fF E) S N ∧ OK x3 x4 H E S) (Q' := fun x z => x = cloC E (Z 0) ∧ z = Z) st_c (fun x S1 z hc hp e => ?_) hC ⟨hR, hO⟩ (c_closed hE.2.1 hE.1 ⟨rfl, rfl⟩)
  obtain ⟨r1, r2⟩ := e
  subst r1 r2
  have h1 : LX x3 x4 H X E S1 z N := ⟨hc, hp⟩
  rw [e2]
  refine ⟨rK_Mod h1.2.1 trivial, 7, 49, hmc, hms, ra_closed h1.2.1 hE.1 hE.2.1 (fun S2 F2 A2 R2 => ?_)⟩
  rw [clo_eq (LJ_80 (v := 0) hI : LI E n z _)]
  exact ⟨fun _ => hK S2 ⟨H, X, z, _, e1, e2, LX_keepX h1 F2 A2 R2, LJ_mono (LJ_80 hI) (Nat.le_succ n)⟩, fun c => absurd rfl c⟩
theorem L_digest {K : Nat → Nat → sT → Prop} {mc ms kc ks : Nat} (hn : n < 800) (hW : LW x1 x2 x3 x4 E n S) (hmc : kc + (614 + 9 * E.1 + 25 * E.2.1) ≤ mc) (hms : ks + (10014 + 81 * E.1 + 365 * E.2.1) ≤ ms) (hK : ∀ S', LW x1 x2 x3 x4 E (n + 1) S' → K (614 + 9 * E.1 + 25 * E.2.1) (10014 + 81 * E.1 + 365 * E.2.1) S') : s_K S x1 = 8 ∧ w_X6_digest x1 S (fun j S1 => s_K S1 x2 = 10 ∧ ∃ c d : Nat, kc + c ≤ mc ∧ ks + d ≤ ms ∧ wA_X8_digest c d x2 S1 (fun j2 S2 => ∀ x : Int32, x = lg_cmp j j2 → ((x = 0 → K c d S2) ∧ (¬ x = 0 → False)))) := by
  refine ⟨LW_K1 hW, ?_⟩
  obtain ⟨H, X, Z, N, e1, e2, ⟨hC, hR, hO⟩, hI, hl⟩ := LW_norm hW
  have h80 : LI E n Z (s_up2 N 80 0 0) := LJ_80 hI
  have l80 : LN E Z (s_up2 N 80 0 0) := LN_80 hl
  have hE := LJ_EW h80
  have hb := LI_b hI
  have eq := dg_eq h80 l80 (by omega)
  have t0 := TR_0 h80 (LN_TL h80 l80)
  obtain ⟨hw, z65, z66, z67⟩ := LI_w hI
  have hS : SUS E (s_up2 N 80 0 0) := fun i hi => (sus_eq (F := fF E) h80 (by omega) rfl hi).2
  have hd := s_dg (Z := Z) (X := Z 1) (Q := fun x z => x = (dgC E (Z 0) (Z 1)).1 ∧ z = zs Z 1 (dgC E (Z 0) (Z 1)).2) hE.2.1 hE.1 hb.1 hb.2 ⟨rfl, rfl⟩
  rw [zs_self] at hd
  rw [e1]
  refine u_X6_digest (P := fun S => RC X (fF E) S N ∧ OK x3 x4 H E S) (Q' := fun x z => x = (dgC E (Z 0) (Z 1)).1 ∧ z = zs Z 1 (dgC E (Z 0) (Z 1)).2) st_c (fun x S1 z hc hp e => ?_) hC ⟨hR, hO⟩ hd
  obtain ⟨r1, r2⟩ := e
  rw [r2] at hc
  have h1 : LX x3 x4 H X E S1 (zs Z 1 (dgC E (Z 0) (Z 1)).2) N := ⟨hc, hp⟩
  rw [e2]
  refine ⟨rK_Mod h1.2.1 trivial, _, _, hmc, hms, ra_digest (n := n) h1.2.1 hE hw (by omega) t0 hS (fun S2 R2 D2 => ?_)⟩
  intro y ey
  have e0 : y = 0 := by rw [ey, r1, eq.1]; exact (lg_cmp_eq _ _).mpr rfl
  exact ⟨fun _ => hK S2 ⟨H, X, _, _, e1, e2, DG_LX h1 D2 R2, LJ_mono (TS_LI h80 eq.2) (Nat.le_succ n)⟩, fun c => absurd e0 c⟩
end
