/-! ===== p31: the law's loops ===== -/
section
variable {H : Nat → Nat → Nat → Nat} {E : eT} {P : sT → Prop} {S : sT} {Z : zT} {M M' N : yT} {k i j a b n n' s s' t kc ks mc ms : Nat} {x y y' x2 x3 v : Int32} {Q : Int32 → sT → Prop} {bu st : Nat → Int32} {sc : Nat × (Nat → Int32)} {kk : Nat → Nat → Nat → Int32 → Int32 → Nat → Nat → Int32 → Int32 → Int32 → sT → Prop}
theorem LN_mk (hC : CC H E S Z) (h : LI E n Z N) : ∃ Z' : zT, CC H E S Z' ∧ LI E n Z' N ∧ LN E Z' N ∧ Z' 0 = Z 0 := by
  refine ⟨zs Z 1 (fun c k => if c_len E c ≤ k then N c k else Z 1 c k), ⟨hC.1, hC.2.1, fun w hw c hc hv k hk => (hC.2.2 w hw c hc hv k hk).trans ?_⟩, ?_, ?_, zs_r0 _ _⟩
  · unfold zs
    by_cases z : w = 1
    · rw [if_pos z, z]
      show Z 1 c k = (if c_len E c ≤ k then N c k else Z 1 c k)
      rw [if_neg (by omega)]
    · rw [if_neg z]
  · obtain ⟨h1, h2, h3, h4, h5, h6, h7, h8, h9, h10, h11⟩ := h
    have e : ∀ c k, k < c_len E c → zs Z 1 (fun c k => if c_len E c ≤ k then N c k else Z 1 c k) 1 c k = Z 1 c k := fun c k hk => by
      rw [zs_rd]
      exact if_neg (by omega)
    show LJ E n (zs Z 1 _ 0) (zs Z 1 _ 1) N
    rw [zs_r0]
    refine ⟨h1, h2, h3, h4, h5, h6, h7, fun k hk => ⟨(h8 k hk).1, ?_⟩, h9, ⟨fun k hk => ?_, fun i hi => ?_⟩, h11⟩
    · rw [e 22 k (by rw [cl_f (by decide)]; exact hk), e 23 k (by rw [cl_f (by decide)]; exact hk)]; exact (h8 k hk).2
    · rw [e 13 k (by rw [cl_f (by decide)]; exact hk), e 14 k (by rw [cl_f (by decide)]; exact hk)]; exact h10.1 k hk
    · rw [e 32 i (by rw [cl_s (by decide) (by decide)]; exact hi), e 33 i (by rw [cl_s (by decide) (by decide)]; exact hi)]; exact h10.2 i hi
  · intro c k hk
    rw [zs_rd]
    exact if_pos hk
/-- the digest goes by the ghost's numbers; the class's own stay -/
theorem G_dig {Q : Int64 → sT → Prop} (hs : cSt P) (hC : CC H E S Z) (hP : P S) (h : LI E n Z N) (hn : n ≤ 900) (hQ : ∀ S1 Z1, CC H E S1 Z1 → P S1 → LI E n Z1 N → Z1 0 = Z 0 → Q (dRR E N) S1) : w_X6_digest (H 0 9 0) S Q := by
  obtain ⟨Z', hC', h', hl, e0⟩ := LN_mk hC h
  have hE := LJ_EW h'
  have hb := LI_b h'
  have eq := dg_eq h' hl hn
  have hd := s_dg (Z := Z') (X := Z' 1) (Q := fun x z => x = (dgC E (Z' 0) (Z' 1)).1 ∧ z = zs Z' 1 (dgC E (Z' 0) (Z' 1)).2) hE.2.1 hE.1 hb.1 hb.2 ⟨rfl, rfl⟩
  rw [zs_self] at hd
  refine u_X6_digest (P := P) (Q' := fun x z => x = (dgC E (Z' 0) (Z' 1)).1 ∧ z = zs Z' 1 (dgC E (Z' 0) (Z' 1)).2) hs (fun x S1 z hc hp e => ?_) hC' hP hd
  obtain ⟨r1, r2⟩ := e
  rw [r1, eq.1]
  rw [r2] at hc
  exact hQ S1 _ hc hp (TS_LI h' eq.2) ((zs_r0 _ _).trans e0)
theorem l_76 (h : MS H E a b bu st t s y Z S) : s_K S (H 0 9 0) = 8 ∧
    w_X6_digest (H 0 9 0) S (fun j103 S102 =>
    w_L_isSo (H 0 9 0) (nI E.1) (nI E.2.1) a (nI s) S102 (fun x105 S104 =>
    ((x105 = 0 → wA_L_law_b1022 mc ms kc ks S104 sc) ∧
    (¬ x105 = 0 → s_K S104 (H 0 9 0) = 8 ∧
    w_X6_digest (H 0 9 0) S104 (fun j108 S107 =>
    ∀ x109 : Int32, x109 = lg_cmp j108 j103 →
    ((¬ x109 = 0 → wA_L_law_b1022 mc ms kc ks S107 sc) ∧
    (x109 = 0 → wA_L_law_b1023 mc ms kc ks (1 : Int32) S107 sc))))))) := by
  obtain ⟨hC, hA, ⟨N, hJ⟩, hP, hb, h1, h9, hn, hsn⟩ := h
  have hJ : LI E t Z N := hJ
  refine ⟨rK_Sub hC, G_dig st_PA hC hA hJ (by omega) (fun S1 Z1 c1 p1 j1 e1 => ?_)⟩
  have hP1 : PI E t s y (Z1 0) := by rw [e1]; exact hP
  have hb1 : ∀ k, k < E.2.1 → bu k = Z1 0 14 k := by rw [e1]; exact hb
  refine is_ok (P := PA a b bu _) (bu := bu) st_PA (fun S hS => hS.2.1) h9 c1 p1 (fun k hk => by rw [hb1 k hk]; exact FK_of j1 hP1 hk) (fun i hi => FC_of j1 hP1 hi) (sus_ok j1 (by omega)) (FG_of j1 hP1 (by omega)) (fun S2 c2 p2 => ?_)
  refine ⟨fun z => absurd z (by decide), fun _ => ⟨rK_Sub c2, G_dig st_PA c2 p2 j1 (by omega) (fun S3 Z3 c3 p3 j3 e3 u eu => ?_)⟩⟩
  have e0 : u = 0 := by rw [eu]; exact (lg_cmp_eq _ _).mpr rfl
  refine ⟨fun z => absurd e0 z, fun _ => ?_⟩
  unfold wA_L_law_b1023
  exact ⟨rfl, trivial⟩
/-- seventy-six times -/
theorem l_242 (hF1 : 1 ≤ E.2.1) (hL : sc.1 ≤ 260) : ∀ (d t : Nat) (S : sT) (st : Nat → Int32) (Z : zT) (s : Nat) (y : Int32) (kc ks : Nat), t + d = 76 → MS H E a b bu st t s y Z S → (∀ k, k < E.2.1 → st k = Z 0 4 k) → wA_L_law_b242 mc ms sc (d + 1) kc ks (H 0 9 0) (nI E.1) (nI E.2.1) a b (nI s) y (nI t) S := by
  intro d
  induction d with
  | zero =>
    intro t S st Z s y kc ks ht h hst
    have ht : t = 76 := ht
    subst ht
    unfold wA_L_law_b242
    exact ⟨fun _ => l_76 h, fun z => absurd (by decide) z⟩
  | succ d ih =>
    intro t S st Z s y kc ks ht h hst
    have ht2 : t < 76 := by omega
    have h9 := h.2.2.2.2.2.2.1
    have hE1 := h.2.2.2.2.2.1
    have h3 := h.1.1.1.1
    have l76 : (76 : Int32).toInt = 76 := rfl
    have l20 : (20 : Int32).toInt = 20 := rfl
    have l9 : (9 : Int32).toInt = 9 := rfl
    have lt : (nI t).toInt = t := ti_nI (by omega)
    have hK : KC H E a b bu kc ks t (fun kc ks x1 x2 x3 x4 x5 x6 x7 x8 S => wA_L_law_b242 mc ms sc (d + 1) kc ks x1 x2 x3 x4 x5 x6 x7 x8 S) := fun S1 st' Z' s' y' h1 e1 => ih (t + 1) S1 st' Z' s' y' kc ks (by omega) h1 e1
    unfold wA_L_law_b242
    refine ⟨fun z => absurd z (by rw [ti_le, l76, lt]; omega), fun _ u1 e1 u2 e2 => ?_⟩
    have s1 : u1.toInt = (t : Int) % 20 := by rw [e1, ti_rem (by rw [lt]; omega) (by rw [l20]; decide), lt, l20]
    have s2 : u2.toInt = 9 + (t : Int) % 20 := by rw [e2, ti_add (by omega) (by omega), l9, s1]
    refine cel (by omega) hL (fun v u3 e3 u4 e4 u5 e5 u6 e6 => ?_)
    refine bel (nz_nI (by omega) (by omega)) ?_
    obtain ⟨f, f1, f2⟩ := blF_r (x := u6) (m := E.2.1) (by omega) (by omega)
    rw [f2]
    intro u7 e7
    refine bel (nz_nI (by omega) (by omega)) ?_
    obtain ⟨g, g1, g2⟩ := blF_r (x := u7) (m := E.1) (by omega) (by omega)
    rw [g2]
    refine bel (by decide) ⟨?_, ?_, ?_, ?_, ?_, ?_, ?_, ?_, ?_, ?_, ?_, ?_, ?_⟩
    · intro _
      refine ⟨MS_K h, MS_ask h (fun P Q a1 a2 a3 a4 => G_f13 a1 a2 a3 f1 a4) (fun S1 h1 => ?_)⟩
      have hop := (MS_iF h1 f1).2.2.1.1
      refine ⟨fun z => l_gate h1 f1 ht2 hst hK ?_, fun z => l_gate h1 f1 ht2 hst hK ?_⟩
      · by_cases c : Z 0 12 f = 0
        · exact c.symm
        · rw [if_neg c] at z; exact absurd rfl z
      · rcases hop with c | c
        · rw [if_pos c] at z; exact absurd z (by decide)
        · exact c.symm
    · intro _ w ew
      exact l_stones h f1 ht2 hst hK
    · intro _ w ew
      exact bel (by decide) ⟨fun _ => l_rotate h g1 ht2 hst hK (Or.inl rfl), fun _ => l_rotate h g1 ht2 hst hK (Or.inr rfl)⟩
    · intro _
      exact ⟨MS_K h, l_inspect h g1 ht2 hst hK⟩
    · intro _ w ew
      exact bel (by decide) ⟨fun _ => l_ducks h f1 ht2 hst hK (Or.inl rfl), fun _ => l_ducks h f1 ht2 hst hK (Or.inr rfl)⟩
    · intro _
      exact ⟨MS_K h, l_vote h g1 ht2 hst hK⟩
    · intro _
      exact ⟨MS_K h, l_sell h f1 ht2 hst hK⟩
    · intro _; exact l_592 h hF1 f1 ht2 hst hK
    · intro _; exact l_592 h hF1 f1 ht2 hst hK
    · intro _; exact l_592 h hF1 f1 ht2 hst hK
    · intro _; exact l_687 h f1 ht2 hst hK
    · intro _; exact l_687 h f1 ht2 hst hK
    · intro _ w1 d1
      refine bel (by decide) ?_
      obtain ⟨r1, p1, q1⟩ := blF_r (x := w1) (m := 201) (by decide) (by decide)
      have q1 : blF w1 201 = nI r1 := q1
      rw [q1]
      intro w2 d2
      refine bel (by decide) ?_
      obtain ⟨r2, p2, q2⟩ := blF_r (x := w2) (m := 36) (by decide) (by decide)
      have q2 : blF w2 36 = nI r2 := q2
      rw [q2]
      intro w3 d3 w4 d4
      have d3 : w3 = nI (5 + r2) := by rw [d3, ← nI_add]; rfl
      subst d3
      refine bel (by decide) ⟨fun _ => l_871 (r3 := 0) h ht2 hst hK (by omega) (by omega) (by omega), fun _ w5 d5 => ?_⟩
      refine bel (by decide) ?_
      obtain ⟨r3, p3, q3⟩ := blF_r (x := w5) (m := 31) (by decide) (by decide)
      have q3 : blF w5 31 = nI r3 := q3
      rw [q3]
      exact l_871 h ht2 hst hK (by omega) (by omega) (by omega)
/-! the beginning: societies and fields -/
/-- what is new holds zeros, but coins, bunds and thoughts -/
def GZ (E : eT) (M : yT) : Prop := (∀ c, c = 68 ∨ c = 69 ∨ c = 70 ∨ c = 71 ∨ c = 72 ∨ c = 74 → M c 0 = 0) ∧ (∀ i, i < E.1 → M 36 i = 0 ∧ M 37 i = 0 ∧ M 41 i = 0) ∧ ∀ k, k < E.2.1 → (M 1 k = 0 ∧ M 3 k = 0 ∧ M 4 k = 0 ∧ M 18 k = 0 ∧ M 19 k = 0 ∧ M 20 k = 0 ∧ M 21 k = 120) ∧ M 17 k = 20 ∧ 0 ≤ (M 14 k).toInt
theorem GZ_PI (h : GZ E M) : PI E 0 0 0 M := by
  obtain ⟨h0, h1, h2⟩ := h
  have l0 : (0 : Int32).toInt = 0 := rfl
  refine ⟨fun k hk => ?_, fun i hi => by rw [(h1 i hi).2.2]; decide, ?_, sm_z (fun k hk => (h2 k hk).1.2.2.2.1), ⟨0, 0, by omega, by omega, ?_, ?_⟩, by rw [h0 68 (by omega)]; decide, h0 74 (by omega)⟩
  · obtain ⟨⟨a1, a2, a3, a4, a5, a6, a7⟩, a8, a9⟩ := h2 k hk
    unfold PK tF
    rw [a1, a2, a3, a5, a6, a7]
    exact ⟨⟨⟨a9, by rw [l0]; exact a9⟩, fun _ => rfl⟩, fun z => absurd z (by decide), ⟨by decide, fun z => absurd z (by decide), fun z => absurd z (by decide)⟩, by decide, by rw [l0]; omega⟩
  · unfold CLO
    rw [sm_z (fun k hk => (h2 k hk).1.1), sm_z (fun i hi => (h1 i hi).2.1), h0 68 (by omega), h0 69 (by omega), h0 70 (by omega), h0 71 (by omega), h0 72 (by omega)]
    decide
  · rw [sm_c (g := fun _ => 20) (fun k hk => (h2 k hk).2.1), sm_k, show nI 0 = 0 from rfl, Int32.sub_zero, Nat.add_zero]
    rw [Int32.mul_comm]
    exact (Int32.ofNat_mul 20 E.2.1).symm
  · exact sm_z (fun i hi => (h1 i hi).1)
theorem isw_1 {r : Nat} {x lo hi : Int32} (e : x = nI r) (h1 : lo.toInt ≤ (r : Int)) (h2 : (r : Int) ≤ hi.toInt) (hm : r < 1000) : isw x lo hi = 1 := by
  have lr : (nI r).toInt = r := ti_nI (by omega)
  unfold isw
  rw [e, if_neg (by rw [ti_lt, lr]; omega), if_neg (by rw [ti_lt, lr]; omega)]
theorem GZ_fld (h : GZ E M) (hx : 0 ≤ x3.toInt) : GZ (gE E i) (zF E.2.1 (vF E.2.1 x2 x3) M) := by
  obtain ⟨h0, h1, h2⟩ := h
  refine ⟨fun c hc => by rw [zF_o (by omega)]; exact h0 c hc, fun i hi => by rw [zF_o (by omega), zF_o (by omega), zF_o (by omega)]; exact h1 i hi, fun k hk => ?_⟩
  by_cases e : k = E.2.1
  · rw [e, zF_q (by decide), zF_q (by decide), zF_q (by decide), zF_q (by decide), zF_q (by decide), zF_q (by decide), zF_q (by decide), zF_q (by decide), zF_q (by decide)]
    exact ⟨⟨rfl, rfl, rfl, rfl, rfl, rfl, rfl⟩, rfl, hx⟩
  · have hk : k < E.2.1 + 1 := hk
    have q : ∀ c, zF E.2.1 (vF E.2.1 x2 x3) M c k = M c k := fun c => zF_o (by omega)
    simp only [q]
    exact h2 k (by omega)
theorem GZ_soc {x1 x4 x5 : Int32} (h : GZ E M) : GZ (E.1 + 1, E.2.1, E.2.2) (zS E.1 (soc0 x1 x2 x3 x4 x5) M) := by
  obtain ⟨h0, h1, h2⟩ := h
  refine ⟨fun c hc => by rw [zS_o (by omega)]; exact h0 c hc, fun i hi => ?_, fun k hk => ?_⟩
  · by_cases e : i = E.1
    · rw [e, zS_q (by decide) (by decide), zS_q (by decide) (by decide), zS_q (by decide) (by decide)]
      exact ⟨rfl, rfl, rfl⟩
    · have hi : i < E.1 + 1 := hi
      have q : ∀ c, zS E.1 (soc0 x1 x2 x3 x4 x5) M c i = M c i := fun c => zS_o (by omega)
      simp only [q]
      exact h1 i (by omega)
  · have q : ∀ c, c < 32 → zS E.1 (soc0 x1 x2 x3 x4 x5) M c k = M c k := fun c hc => zS_o (by omega)
    rw [q 1 (by decide), q 3 (by decide), q 4 (by decide), q 18 (by decide), q 19 (by decide), q 20 (by decide), q 21 (by decide), q 17 (by decide), q 14 (by decide)]
    exact h2 k hk
theorem GZ_12 (h : GZ E M) : GZ E (s_up2 M 12 k v) := by
  have q : ∀ c j, c ≠ 12 → s_up2 M 12 k v c j = M c j := fun c j hc => if_neg (fun z => hc z.1)
  obtain ⟨h0, h1, h2⟩ := h
  refine ⟨fun c hc => by rw [q c 0 (by omega)]; exact h0 c hc, fun i hi => by rw [q 36 i (by decide), q 37 i (by decide), q 41 i (by decide)]; exact h1 i hi, fun k hk => ?_⟩
  rw [q 1 k (by decide), q 3 k (by decide), q 4 k (by decide), q 18 k (by decide), q 19 k (by decide), q 20 k (by decide), q 21 k (by decide), q 17 k (by decide), q 14 k (by decide)]
  exact h2 k hk
/-- the state while fields are told -/
def GS (H : Nat → Nat → Nat → Nat) (E : eT) (a b : Nat) (bu : Nat → Int32) (Z : zT) (S : sT) : Prop := CC H E S Z ∧ (AL S ∧ PA a b bu (fun _ => 0) S) ∧ LD H E ∧ LG E 0 (Z 0) (Z 1) ∧ GZ E (Z 0) ∧ ∀ k, k < E.2.1 → bu k = Z 0 14 k
theorem st_AP {bu st : Nat → Int32} : cSt (fun S => AL S ∧ PA a b bu st S) := fun _ _ _ _ _ h => h
theorem PA_F {S' : sT} {T : Nat → Prop} (h : PA a b bu st S) (F : FRM (kD S) T S S') : PA a b bu st S' := by
  obtain ⟨h0, ⟨h1, h2, h3⟩, h4, h5, h6⟩ := h
  have g1 := F.ar h1 (by decide) (nD_k a (by omega))
  have g2 := F.ar h4 (by decide) (nD_k b (by omega))
  exact ⟨h0, ⟨g1.1, g1.2.1.trans h2, fun j => (g1.2.2.1 j).trans (h3 j)⟩, g2.1, g2.2.1.trans h5, fun j => (g2.2.2.1 j).trans (h6 j)⟩
theorem fin_G (h : GS H E a b bu Z S) (h1 : 1 ≤ E.1) (hF1 : 1 ≤ E.2.1) (h9 : E.2.1 ≤ 9) (hL : sc.1 ≤ 260) : ∃ n9 : Nat, wA_L_law_b242 mc ms sc n9 kc ks (H 0 9 0) (nI E.1) (nI E.2.1) a b (0 : Int32) (0 : Int32) (0 : Int32) S := by
  obtain ⟨g1, ⟨g2, g3⟩, g4, g5, g6, g7⟩ := h
  exact ⟨77, l_242 hF1 hL 76 0 S (fun _ => 0) Z 0 0 kc ks rfl ⟨g1, g3, g5, GZ_PI g6, g7, h1, h9, by omega, by omega⟩ (fun k hk => (g6.2.2 k hk).1.2.2.1.symm)⟩
theorem l_132 {f : Nat} (hf : 1 ≤ f ∧ f ≤ 9) (hL : sc.1 ≤ 260) : ∀ (d j kc ks : Nat) (H : Nat → Nat → Nat → Nat) (E : eT) (bu : Nat → Int32) (Z : zT) (S : sT), j + d = f → E.2.1 = j → 1 ≤ E.1 → kc + 10 * d ≤ mc → ks + 116 * d ≤ ms → GS H E a b bu Z S → wA_L_law_b132 mc ms sc (d + 1) kc ks (H 0 9 0) (nI E.1) (nI f) a b (nI j) S := by
  intro d
  induction d with
  | zero =>
    intro j kc ks H E bu Z S hj hE h1 hmc hms h
    have hj : j = f := hj
    subst hj
    unfold wA_L_law_b132
    refine ⟨fun _ => ?_, fun z => absurd (by rw [nI_lei (by omega) (by omega)]; exact Nat.le_refl _) z⟩
    have := fin_G (mc := mc) (ms := ms) (kc := kc) (ks := ks) (sc := sc) h h1 (by omega) (by omega) hL
    rw [hE] at this
    exact this
  | succ d ih =>
    intro j kc ks H E bu Z S hj hE h1 hmc hms h
    have h3 := h.1.1.1.1
    have l5 : (5 : Int32).toInt = 5 := rfl
    have l60 : (60 : Int32).toInt = 60 := rfl
    have l1 : (1 : Int32).toInt = 1 := rfl
    have l9 : (9 : Int32).toInt = 9 := rfl
    have ecl : Int32.toNatClampNeg (nI j) = j := nI_cl (by omega)
    unfold wA_L_law_b132
    refine ⟨fun z => absurd z (by rw [nI_lei (by omega) (by omega)]; omega), fun _ => ?_⟩
    refine cel (by decide) hL (fun v1 u1 e1 => bel (by decide) ?_)
    obtain ⟨r1, p1, q1⟩ := blF_r (x := u1) (m := 56) (by decide) (by decide)
    have q1 : blF u1 56 = nI r1 := q1
    rw [q1]
    intro u2 e2
    have e2 : u2 = nI (5 + r1) := by rw [e2, ← nI_add]; rfl
    subst e2
    obtain ⟨-, ⟨-, -, ⟨a1, a2, -⟩, -⟩, -⟩ := id h
    refine ⟨a1, by rw [a2, nI_vp (by omega)]; omega, fun S1 e3 => ?_⟩
    rw [ecl] at e3
    -- the bund is written
    obtain ⟨g1, ⟨g2, ⟨b0, ⟨b1, b2, b3⟩, b4, b5, b6⟩⟩, g4, g5, g6, g7⟩ := id h
    have hP1 : AL S1 ∧ PA a b (fun k => if k = j then nI (5 + r1) else bu k) (fun _ => 0) S1 := by
      subst e3
      refine ⟨g2, b0, ⟨b1, b2, fun c => ?_⟩, b4, b5, fun c => ?_⟩
      · show (if a = a ∧ c = j then nI (5 + r1) else s_B S a c) = if c = j then nI (5 + r1) else bu c
        by_cases z : c = j
        · rw [if_pos ⟨rfl, z⟩, if_pos z]
        · rw [if_neg (fun w => z w.2), if_neg z, b3]
      · exact (if_neg (fun z => b0 z.1.symm)).trans (b6 c)
    have hC1 : CC H E S1 Z := by rw [e3]; exact CC_sB g1
    clear e3 b0 b1 b2 b3 b4 b5 b6 h
    refine cel (by decide) hL (fun v2 u3 e3 => bel (nz_nI (by omega) (by omega)) ?_)
    obtain ⟨r2, p2, q2⟩ := blF_r (x := u3) (m := E.1) (by omega) (by omega)
    rw [q2]
    refine cel (by decide) hL (fun v3 u4 e4 => bel (by decide) ?_)
    obtain ⟨r3, p3, q3⟩ := blF_r (x := u4) (m := 9) (by decide) (by decide)
    have q3 : blF u4 9 = nI r3 := q3
    rw [q3]
    intro u5 e5
    have e5 : u5 = nI (1 + r3) := by rw [e5, ← nI_add]; rfl
    subst e5
    obtain ⟨k0, ⟨k1, k2, k3⟩, -⟩ := id hP1.2
    refine ⟨k1, by rw [k2, nI_vp (by omega)]; omega, fun u6 e6 => ⟨rK_Sub hC1, 10, 116, by omega, by omega, ?_⟩⟩
    rw [ecl, k3] at e6
    have e6 : u6 = nI (5 + r1) := e6.trans (if_pos rfl)
    subst e6
    refine cs_field hC1 hP1.1 g4 (by omega) (vp_k p2 (by omega)) (isw_1 rfl (by rw [l1]; omega) (by rw [l9]; omega) (by omega)) (isw_1 rfl (by rw [l5]; omega) (by rw [l60]; omega) (by omega)) (Nat.le_refl _) (Nat.le_refl _) (fun S2 H2 F2 A2 C2 L2 eH => ?_)
    rw [nI_cl (show r2 < 2147483648 by omega)] at C2 L2
    refine ⟨fun _ => ?_, fun z => z (by rw [hE])⟩
    have hP2 := PA_F hP1.2 F2
    obtain ⟨N, hJ⟩ := g5
    have hJ : LI E 0 Z N := hJ
    have hJ2 := LI_fld (x1 := nI r2) hJ (by omega) p2 rfl (isw_1 (x := nI (1 + r3)) rfl (by rw [l1]; omega) (by rw [l9]; omega) (by omega)) (isw_1 (x := nI (5 + r1)) rfl (by rw [l5]; omega) (by rw [l60]; omega) (by omega))
    have hZ2 := GZ_fld (i := r2) (x2 := nI (1 + r3)) (x3 := nI (5 + r1)) g6 (by rw [ti_nI (by omega)]; omega)
    have hb2 : ∀ k, k < (gE E r2).2.1 → (fun k => if k = j then nI (5 + r1) else bu k) k = zF E.2.1 (vF E.2.1 (nI (1 + r3)) (nI (5 + r1))) (Z 0) 14 k := fun k hk => by
      have hk : k < E.2.1 + 1 := hk
      by_cases e : k = j
      · rw [e, ← hE, zF_q (by decide)]
        exact if_pos rfl
      · rw [zF_o (by omega)]
        exact (if_neg e).trans (g7 k (by omega))
    have hS2 : GS H2 (gE E r2) a b (fun k => if k = j then nI (5 + r1) else bu k) (fun w => zF E.2.1 (vF E.2.1 (nI (1 + r3)) (nI (5 + r1))) (Z w)) S2 := ⟨C2, ⟨A2, hP2⟩, L2, ⟨_, hJ2⟩, hZ2, hb2⟩
    have hE2 : (gE E r2).2.1 = j + 1 := by show E.2.1 + 1 = j + 1; rw [hE]
    have go : ∀ (Z3 : zT) (S3 : sT), GS H2 (gE E r2) a b (fun k => if k = j then nI (5 + r1) else bu k) Z3 S3 → wA_L_law_b227 mc ms (kc + 10) (ks + 116) (H 0 9 0) (nI E.1) (nI f) a b (nI j) S3 (fun kc ks x1 x2 x3 x4 x5 x6 S => wA_L_law_b132 mc ms sc (d + 1) kc ks x1 x2 x3 x4 x5 x6 S) sc := fun Z3 S3 h3 => by
      unfold wA_L_law_b227
      intro u eu
      rw [eu, ← nI_succ, ← eH]
      exact ih (j + 1) (kc + 10) (ks + 116) H2 (gE E r2) _ Z3 S3 (by omega) hE2 h1 (by omega) (by omega) h3
    refine cel (by decide) hL (fun v4 u7 e7 => bel (by decide) ⟨fun _ => go _ S2 hS2, fun _ => ⟨by rw [← eH]; exact rK_Sub C2, ?_⟩⟩)
    have hc := c_gate (x2 := 1) (k := j) hJ2 (by rw [hE2]; omega) (Or.inr rfl)
    rw [← eH]
    refine G_of (P := fun S => AL S ∧ PA a b (fun k => if k = j then nI (5 + r1) else bu k) (fun _ => 0) S) st_AP C2 ⟨A2, hP2⟩ (cl := v_X6_gate (gE E r2) (nI j) 1 (fun w => zF E.2.1 (vF E.2.1 (nI (1 + r3)) (nI (5 + r1))) (Z w))) (fun P Q Q' a b c d e => u_X6_gate a b c d e) hc.1 (fun S3 C3 P3 => ?_)
    rw [eH]
    exact go _ S3 ⟨C3, P3, L2, hc.2, GZ_12 hZ2, fun k hk => by
      show _ = (if (14 : Nat) = 12 ∧ k = j then (1 : Int32) else zF E.2.1 (vF E.2.1 (nI (1 + r3)) (nI (5 + r1))) (Z 0) 14 k)
      rw [if_neg (fun z => absurd z.1 (by decide))]
      exact hb2 k hk⟩
theorem l_22 {m : Nat} (hm : 1 ≤ m ∧ m ≤ 3) (hL : sc.1 ≤ 260) : ∀ (d j kc ks : Nat) (H : Nat → Nat → Nat → Nat) (E : eT) (Z : zT) (S : sT), j + d = m → E.1 = j → E.2.1 = 0 → kc + 6 * d + 100 ≤ mc → ks + 60 * d + 1100 ≤ ms → CC H E S Z → AL S → LD H E → LG E 0 (Z 0) (Z 1) → GZ E (Z 0) → wA_L_law_b22 mc ms sc (d + 1) kc ks (H 0 9 0) (nI m) (nI j) S := by
  intro d
  induction d with
  | zero =>
    intro j kc ks H E Z S hj hE hE0 hmc hms hC hA hLD hG hZ
    have hj : j = m := hj
    subst hj
    unfold wA_L_law_b22
    refine ⟨fun _ => ?_, fun z => absurd (by rw [nI_lei (by omega) (by omega)]; exact Nat.le_refl _) z⟩
    refine cel (by decide) hL (fun v1 => bel (by decide) ?_)
    obtain ⟨r1, p1, q1⟩ := blF_r (x := v1) (m := 9) (by decide) (by decide)
    have q1 : blF v1 9 = nI r1 := q1
    rw [q1]
    intro u1 e1
    have e1 : u1 = nI (1 + r1) := by rw [e1, ← nI_add]; rfl
    subst e1
    refine ⟨by omega, by omega, fun a f1 S1 e1 => ⟨by omega, by omega, fun b f2 S2 e2 => ?_⟩⟩
    have F1 : FRM no_ no_ S S1 := by rw [e1]; exact FRM.refl.nw f1
    have A1 : AL S1 := by rw [e1]; exact AL_nw hA f1
    have k1 : s_K S1 a = 11 ∧ s_N S1 a = 9 := by rw [e1]; exact ⟨s_nw_K, s_nw_N⟩
    have B1 : ∀ j, s_B S1 a j = 0 := fun j => by rw [e1]; exact if_pos rfl
    clear e1
    have m0 : ∀ {Sx : sT}, mD no_ Sx := fun _ _ z => False.elim z
    have C1 := CC_keepM hC F1 m0
    have F2 : FRM no_ no_ S1 S2 := by rw [e2]; exact FRM.refl.nw f2
    have A2 : AL S2 := by rw [e2]; exact AL_nw A1 f2
    have k2 : s_K S2 b = 11 ∧ s_N S2 b = 9 := by rw [e2]; exact ⟨s_nw_K, s_nw_N⟩
    have B2 : ∀ j, s_B S2 b j = 0 := fun j => by rw [e2]; exact if_pos rfl
    clear e2
    have C2 := CC_keepM C1 F2 m0
    have g1 := F2.ar k1.1 (by decide) (fun z => z)
    have hne : a ≠ b := fun z => by
      have := f2.1
      rw [← z, k1.1] at this
      cases this
    have hP : PA a b (fun _ => 0) (fun _ => 0) S2 := ⟨hne, ⟨g1.1, g1.2.1.trans k1.2, fun j => (g1.2.2.1 j).trans (B1 j)⟩, k2.1, k2.2, B2⟩
    refine ⟨1 + r1 + 1, ?_⟩
    have := l_132 (mc := mc) (ms := ms) (a := a) (b := b) (f := 1 + r1) (sc := sc) (by omega) hL (1 + r1) 0 ((kc + 1) + 1) ((ks + 9) + 9) H E (fun _ => 0) Z S2 (by omega) hE0 (by omega) (by omega) (by omega) ⟨C2, ⟨A2, hP⟩, hLD, hG, hZ, fun k hk => absurd hk (by omega)⟩
    rw [hE, ← nI_z] at this
    exact this
  | succ d ih =>
    intro j kc ks H E Z S hj hE hE0 hmc hms hC hA hLD hG hZ
    have l0 : (0 : Int32).toInt = 0 := rfl
    have l1 : (1 : Int32).toInt = 1 := rfl
    have l9 : (9 : Int32).toInt = 9 := rfl
    have l50 : (50 : Int32).toInt = 50 := rfl
    have l209 : (209 : Int32).toInt = 209 := rfl
    have l210 : (210 : Int32).toInt = 210 := rfl
    unfold wA_L_law_b22
    refine ⟨fun z => absurd z (by rw [nI_lei (by omega) (by omega)]; omega), fun _ => ?_⟩
    refine cel (by decide) hL (fun v1 u1 e1 u2 e2 => bel (by decide) ?_)
    obtain ⟨r1, p1, q1⟩ := blF_r (x := u2) (m := 9) (by decide) (by decide)
    have q1 : blF u2 9 = nI r1 := q1
    rw [q1]
    intro u3 e3
    have e3 : u3 = nI (1 + r1) := by rw [e3, ← nI_add]; rfl
    subst e3
    refine cel (by decide) hL (fun v2 u4 e4 u5 e5 => bel (by decide) ?_)
    obtain ⟨r2, p2, q2⟩ := blF_r (x := u5) (m := 51) (by decide) (by decide)
    have q2 : blF u5 51 = nI r2 := q2
    rw [q2]
    refine cel (by decide) hL (fun v3 u6 e6 => bel (by decide) ?_)
    obtain ⟨r3, p3, q3⟩ := blF_r (x := u6) (m := 210) (by decide) (by decide)
    have q3 : blF u6 210 = nI r3 := q3
    rw [q3]
    refine cel (by decide) hL (fun v4 u7 e7 u8 e8 => bel (by decide) ?_)
    obtain ⟨r4, p4, q4⟩ := blF_r (x := u8) (m := 151) (by decide) (by decide)
    have q4 : blF u8 151 = nI r4 := q4
    rw [q4]
    intro u9 e9
    have e9 : u9 = nI (60 + r4) := by rw [e9, ← nI_add]; rfl
    subst e9
    have i1 : isw (nI (1 + r1)) 1 9 = 1 := isw_1 rfl (by rw [l1]; omega) (by rw [l9]; omega) (by omega)
    have i2 : isw (nI r2) 0 50 = 1 := isw_1 rfl (by rw [l0]; omega) (by rw [l50]; omega) (by omega)
    have i3 : isw (nI r3) 0 209 = 1 := isw_1 rfl (by rw [l0]; omega) (by rw [l209]; omega) (by omega)
    have i4 : isw (nI (60 + r4)) 1 210 = 1 := isw_1 rfl (by rw [l1]; omega) (by rw [l210]; omega) (by omega)
    refine ⟨rK_Sub hC, 6, 60, by omega, by omega, cs_society hC hA hLD (by omega) i1 i2 i3 i4 (Nat.le_refl _) (Nat.le_refl _) (fun S2 H2 F2 A2 C2 L2 eH => ?_)⟩
    refine ⟨fun _ u eu => ?_, fun z => z (by rw [hE])⟩
    obtain ⟨N, hJ⟩ := hG
    have hJ : LI E 0 Z N := hJ
    have hJ2 := LI_soc hJ (by omega) i1 i2 i3 i4
    rw [eu, ← nI_succ, ← eH]
    exact ih (j + 1) (kc + 6) (ks + 60) H2 (E.1 + 1, E.2.1, E.2.2) _ S2 (by omega) (by show E.1 + 1 = j + 1; rw [hE]) hE0 (by omega) (by omega) C2 A2 L2 ⟨_, hJ2⟩ (GZ_soc hZ)
theorem law_start (hA : AL S) (hmc : 1000 ≤ mc) (hms : 2000 ≤ ms) (hL : sc.1 ≤ 260) : wA_L_law_b0 mc ms 0 0 S sc := by
  unfold wA_L_law_b0
  refine ⟨by omega, by omega, fun q1 f1 S1 e1 => ⟨8, 40, by omega, by omega, ?_⟩⟩
  have A1 : AL S1 := by rw [e1]; exact AL_nw hA f1
  have k1 : s_K S1 q1 = 8 := by rw [e1]; exact s_nw_K
  clear e1
  refine x6_init A1 k1 (by decide) (by decide) (fun S2 H F2 A2 eH C2 L2 => ?_)
  refine cel (by decide) hL (fun v1 => bel (by decide) ?_)
  obtain ⟨r1, p1, q1'⟩ := blF_r (x := v1) (m := 3) (by decide) (by decide)
  have q1' : blF v1 3 = nI r1 := q1'
  rw [q1']
  intro u1 e1
  have e1 : u1 = nI (1 + r1) := by rw [e1, ← nI_add]; rfl
  subst e1
  refine ⟨1 + r1 + 1, ?_⟩
  have := l_22 (mc := mc) (ms := ms) (m := 1 + r1) (sc := sc) (by omega) hL (1 + r1) 0 ((0 + 1) + 8) ((0 + 2) + 40) H e00 (fun _ _ _ => 0) S2 (by omega) rfl rfl (by omega) (by omega) C2 A2 L2 ⟨_, LI_00⟩ ⟨fun _ _ => rfl, fun i hi => absurd hi (Nat.not_lt_zero _), fun k hk => absurd hk (Nat.not_lt_zero _)⟩
  rw [eH, ← nI_z] at this
  exact this
end
