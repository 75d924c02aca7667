/-! ===== a new field, both hills ===== -/
section
variable {S S' S1 : sT} {a y x3 x4 i : Nat} {E : eT} {H : Nat → Nat → Nat → Nat} {Z : zT} {qq oo cc : Nat → Nat}
theorem w_socAt {x : Int32} {Q : Nat → sT → Prop} (hC : CC H E S Z) (hv : vp_in x E.1) (h : Q (H 0 4 (Int32.toNatClampNeg x)) S) : w_X6_societyAt (H 0 9 0) x S Q := by
  obtain ⟨⟨⟨z1, z2, hE⟩, ⟨m1, m2, m3⟩, hh⟩, hI, hV⟩ := hC
  obtain ⟨⟨a1, a2, a3, a4, a5, a6, a7⟩, hs, -⟩ := hh 0 (by decide)
  unfold w_X6_societyAt w_X6_societyAt_b0
  exact ⟨fun c => absurd c (vp_nn hv), fun _ => ⟨m1, H 0 0 0, m2, a1, H 0 1 0, a2, a6.1, us_size a6 ⟨fun _ => ⟨m1, H 0 0 0, m2, a1, H 0 1 0, a2, a6.1, us_get a6 hv rfl ⟨(hs _ (vp_lt hv)).1, h⟩⟩, fun c => absurd (q_lt hv (by omega)) c⟩⟩⟩
theorem inj_fld (hI : c_inj H E) (hk : ∀ w, w < 2 → ∀ k, k < E.2.1 → s_K S (H w 5 k) ≠ 0 ∧ s_K S (H w 6 k) ≠ 0 ∧ s_K S (H w 7 k) ≠ 0) (hq : ∀ w, w < 2 → s_K S (qq w) = 0 ∧ s_K S (oo w) = 0 ∧ s_K S (cc w) = 0) (n1 : qq 0 ≠ qq 1) (n2 : oo 0 ≠ oo 1) (n3 : cc 0 ≠ cc 1) : c_inj (fun w => gF (H w) E.2.1 (qq w) (oo w) (cc w)) (gE E i) := by
  intro w hw v hv c hc hcv k hk' j hj' he
  have he : gF (H w) E.2.1 (qq w) (oo w) (cc w) (c_f c) k = gF (H v) E.2.1 (qq v) (oo v) (cc v) (c_f c) j := he
  by_cases z : c < 32
  · have kk : ∀ m, m < c_len (gE E i) c → m < E.2.1 + 1 := fun m hm => by
      unfold c_len at hm
      rw [if_pos z] at hm
      exact hm
    have kk2 : ∀ m, m < E.2.1 → m < c_len E c := fun m hm => by
      unfold c_len
      rw [if_pos z]
      exact hm
    have k1 := kk k hk'
    have j1 := kk j hj'
    have key : ∀ (f : Nat) (p : Nat → Nat), (∀ w, gF (H w) E.2.1 (qq w) (oo w) (cc w) f E.2.1 = p w) → (∀ u, u < 2 → s_K S (p u) = 0) → (∀ u, u < 2 → ∀ t, t < E.2.1 → s_K S (H u f t) ≠ 0) → p 0 ≠ p 1 → c_f c = f → w = v ∧ k = j := by
      intro f p e1 e2 e3 e4 ef
      rw [ef] at he
      by_cases y1 : k = E.2.1 <;> by_cases y2 : j = E.2.1
      · rw [y1, y2, e1, e1] at he
        refine ⟨?_, y1.trans y2.symm⟩
        rcases (show w = 0 ∨ w = 1 by omega) with rfl | rfl <;> rcases (show v = 0 ∨ v = 1 by omega) with rfl | rfl
        · rfl
        · exact absurd he e4
        · exact absurd he.symm e4
        · rfl
      · rw [y1, e1, gF_n y2] at he
        exact absurd (he ▸ e2 w hw) (e3 v hv j (by omega))
      · rw [y2, e1, gF_n y1] at he
        exact absurd (he.symm ▸ e2 v hv) (e3 w hw k (by omega))
      · rw [gF_n y1, gF_n y2, ← ef] at he
        exact hI w hw v hv c hc hcv k (kk2 k (by omega)) j (kk2 j (by omega)) he
    rcases c_fk c hc hcv z with e | e | e
    · exact key 5 qq (fun _ => gF_q) (fun u hu => (hq u hu).1) (fun u hu t ht => (hk u hu t ht).1) n1 e
    · exact key 6 oo (fun _ => gF_w) (fun u hu => (hq u hu).2.1) (fun u hu t ht => (hk u hu t ht).2.1) n2 e
    · exact key 7 cc (fun _ => gF_c) (fun u hu => (hq u hu).2.2) (fun u hu t ht => (hk u hu t ht).2.2) n3 e
  · have h4 : c_f c ≠ 5 ∧ c_f c ≠ 6 ∧ c_f c ≠ 7 := by
      by_cases c1 : c < 64
      · rw [c_fl c hc hcv (by omega) c1]; decide
      · rcases c_f0 c hc hcv (by omega) with e | e <;> rw [e] <;> decide
    rw [gF_o h4.1 h4.2.1 h4.2.2, gF_o h4.1 h4.2.1 h4.2.2] at he
    have kk : c_len (gE E i) c = c_len E c := by
      unfold c_len
      rw [if_neg z, if_neg z]
      rfl
    rw [kk] at hk' hj'
    exact hI w hw v hv c hc hcv k hk' j hj' he
theorem LD_fld (hL : LD H E) : LD (fun w => gF (H w) E.2.1 (qq w) (oo w) (cc w)) (gE E i) := by
  intro w v f g k j hw hv hf hg he
  have e : ∀ f k w, (f = 1 ∧ k = 0 ∨ f = 2 ∧ k = 0 ∨ f = 8 ∧ k < E.1) → gF (H w) E.2.1 (qq w) (oo w) (cc w) f k = H w f k := by
    intro f k w h
    rcases h with ⟨rfl, rfl⟩ | ⟨rfl, rfl⟩ | ⟨rfl, h⟩ <;> rw [gF_o (by decide) (by decide) (by decide)]
  have he : gF (H w) E.2.1 (qq w) (oo w) (cc w) f k = gF (H v) E.2.1 (qq v) (oo v) (cc v) g j := he
  rw [e f k w hf, e g j v hg] at he
  exact hL w v f g k j hw hv hf hg he
theorem fD_k {G : Nat → Nat → Nat} (hA : AL S) (h2 : s_K S (G 2 0) = 1) (h8 : s_K S (G 8 i) = 1) (hy : s_K S y ≠ 0) (h : fD G i S y) : kD S y := h.elim (ls_k hA h2 hy) (ls_k hA h8 hy)
/-- only lists, their arrays and fields' next are touched -/
def fN (S : sT) (y : Nat) : Prop := s_K S y = 3
theorem cs_field {Q : Int32 → sT → Prop} {x1 x2 x3 : Int32} {mc ms : Nat} (hC : CC H E S Z) (hA : AL S) (hL : LD H E) (hn : E.2.1 < 12) (hv : vp_in x1 E.1) (g2 : isw x2 1 9 = 1) (g3 : isw x3 5 60 = 1) (hmc : 10 ≤ mc) (hms : 116 ≤ ms)
    (hQ : ∀ S' H', FRM (kD S) (fN S) S S' → AL S' → CC H' (gE E (Int32.toNatClampNeg x1)) S' (fun w => zF E.2.1 (vF E.2.1 x2 x3) (Z w)) → LD H' (gE E (Int32.toNatClampNeg x1)) → H' 0 9 0 = H 0 9 0 → Q (nI E.2.1) S') : wA_X6_field mc ms (H 0 9 0) x1 x2 x3 S Q := by
  have hC0 := hC
  obtain ⟨⟨⟨z1, z2, hE⟩, ⟨m1, m2, m3⟩, hh⟩, hI, hV⟩ := hC
  have h0 : HS (H 0) E S := hh 0 (by decide)
  have h1 : HS (H 1) E S := hh 1 (by decide)
  have v0 : VAL (H 0) E S (Z 0) := hV 0 (by decide)
  have v1 : VAL (H 1) E S (Z 1) := hV 1 (by decide)
  obtain ⟨⟨a1, a2, a3, a4, a5, a6, a7⟩, s0, f0⟩ := id h0
  obtain ⟨⟨b1, b2, b3, b4, b5, b6, b7⟩, s1, f1⟩ := id h1
  have hi := vp_lt hv
  have hl : ∀ (w v f g k j : Nat), w < 2 → v < 2 → (f = 1 ∧ k = 0 ∨ f = 2 ∧ k = 0 ∨ f = 8 ∧ k < E.1) → (g = 1 ∧ j = 0 ∨ g = 2 ∧ j = 0 ∨ g = 8 ∧ j < E.1) → ¬ (w = v ∧ f = g ∧ k = j) → H w f k ≠ H v g j := fun w v f g k j hw hv hf hg hne e => hne (hL w v f g k j hw hv hf hg e)
  have i5 : ∀ w, w < 2 → ∀ k j, k < E.2.1 → j < E.2.1 → H w 5 k = H w 5 j → k = j := fun w hw k j hk hj e => (hI w hw w hw 1 (by decide) (by decide) k hk j hj e).2
  have i5' : ∀ k j, k < E.2.1 → j < E.2.1 → H 0 5 k ≠ H 1 5 j := fun k j hk hj e => by
    have := (hI 0 (by decide) 1 (by decide) 1 (by decide) (by decide) k hk j hj e).1
    omega
  unfold wA_X6_field wA_X6_field_b0
  refine ⟨m1, w_socAt hC0 hv ?_⟩
  rw [w_isw, g2]
  refine ⟨fun c => absurd c (by decide), fun _ => ?_⟩
  rw [w_isw, g3]
  refine ⟨fun _ => ⟨m1, H 0 0 0, m2, a1, H 0 2 0, a3, a7.1, us_size a7 ⟨fun _ => ⟨m1, H 1 0 0, m3, b1, 5, 58, by omega, by omega, ?_⟩, fun c => absurd ?_ c⟩⟩, fun c => absurd c (by decide)⟩
  rotate_left
  · rw [Int32.lt_iff_toInt_lt, nI_toInt (by omega)]
    show (E.2.1 : Int) < 12
    omega
  generalize hei : Int32.toNatClampNeg x1 = i at *
  have t1 : i < E.1 := hi
  refine af_add (G := H 1) hA h1 hv z1 hn (by rw [hei]; exact hl 1 1 8 2 i 0 (by decide) (by decide) (Or.inr (Or.inr ⟨rfl, hi⟩)) (Or.inr (Or.inl ⟨rfl, rfl⟩)) (by omega)) ?_
  rw [hei]
  intro S1 q1 o1 c1 F1 A1 kq1 ko1 kc1 kq1' ko1' kc1' p68 p69 p65 p70 iq1 io1 ic1 L21 L81 h701
  have c8 := (s1 i hi).2.2.2.1
  have oD1 : oD (fD (H 1) i S) S := fD_o hA b7.1 c8
  have h1' := HS_field h1 hA hi hE F1 kq1' ko1' kc1' p68 p69 p65 p70 (iq1 64) L21 L81 h701 (i5 1 (by decide)) (hl 1 1 1 2 0 0 (by decide) (by decide) (Or.inl ⟨rfl, rfl⟩) (Or.inr (Or.inl ⟨rfl, rfl⟩)) (by omega)) (hl 1 1 1 8 0 i (by decide) (by decide) (Or.inl ⟨rfl, rfl⟩) (Or.inr (Or.inr ⟨rfl, hi⟩)) (by omega)) (fun j hj hne => ⟨hl 1 1 8 2 j 0 (by decide) (by decide) (Or.inr (Or.inr ⟨rfl, hj⟩)) (Or.inr (Or.inl ⟨rfl, rfl⟩)) (by omega), hl 1 1 8 8 j i (by decide) (by decide) (Or.inr (Or.inr ⟨rfl, hj⟩)) (Or.inr (Or.inr ⟨rfl, hi⟩)) (by omega)⟩)
  have v1' := VAL_field (q := q1) (o := o1) (c := c1) h1 hA hi v1 F1 iq1 io1 ic1
  have h0' : HS (H 0) E S1 := HS_keep h0 F1 oD1 (fun a n f La ha => by
    refine LST_fD hA b7.1 c8 La F1 ?_ ?_ <;> rcases ha with rfl | rfl | ⟨j, hj, rfl⟩
    · exact hl 0 1 1 2 0 0 (by decide) (by decide) (Or.inl ⟨rfl, rfl⟩) (Or.inr (Or.inl ⟨rfl, rfl⟩)) (by omega)
    · exact hl 0 1 2 2 0 0 (by decide) (by decide) (Or.inr (Or.inl ⟨rfl, rfl⟩)) (Or.inr (Or.inl ⟨rfl, rfl⟩)) (by omega)
    · exact hl 0 1 8 2 j 0 (by decide) (by decide) (Or.inr (Or.inr ⟨rfl, hj⟩)) (Or.inr (Or.inl ⟨rfl, rfl⟩)) (by omega)
    · exact hl 0 1 1 8 0 i (by decide) (by decide) (Or.inl ⟨rfl, rfl⟩) (Or.inr (Or.inr ⟨rfl, hi⟩)) (by omega)
    · exact hl 0 1 2 8 0 i (by decide) (by decide) (Or.inr (Or.inl ⟨rfl, rfl⟩)) (Or.inr (Or.inr ⟨rfl, hi⟩)) (by omega)
    · exact hl 0 1 8 8 j i (by decide) (by decide) (Or.inr (Or.inr ⟨rfl, hj⟩)) (Or.inr (Or.inr ⟨rfl, hi⟩)) (by omega)) (fun k hk z => by
    have h9 := (mem_in.mp (mem_at (E := E) (i := i) (j := (ce_mem E i).length - 1) (by have := z.1; omega))).1
    exact i5' k _ hk h9 z.2)
  have v0' : VAL (H 0) E S1 (Z 0) := VAL_keep h0 v0 F1 oD1
  obtain ⟨⟨a1', a2', a3', a4', a5', a6', a7'⟩, s0', f0'⟩ := id h0'
  have mm := F1.obT m1 (by decide) (oD1 _ _ m1 (by decide) (by decide) (by decide) (by decide) (by decide))
  refine ⟨mm.1, H 0 0 0, (mm.2.2 224 (fun z => absurd z (by decide))).trans m2, a1', 5, 58, by omega, by omega, ?_⟩
  refine af_add (G := H 0) A1 h0' hv z1 hn (by rw [hei]; exact hl 0 0 8 2 i 0 (by decide) (by decide) (Or.inr (Or.inr ⟨rfl, hi⟩)) (Or.inr (Or.inl ⟨rfl, rfl⟩)) (by omega)) ?_
  rw [hei]
  intro S2 q0 o0 c0 F2 A2 kq0 ko0 kc0 kq0' ko0' kc0' p68' p69' p65' p70' iq0 io0 ic0 L20 L80 h700
  have c8' := (s0' i hi).2.2.2.1
  have oD2 : oD (fD (H 0) i S1) S1 := fD_o A1 a7'.1 c8'
  have h0'' := HS_field h0' A1 hi hE F2 kq0' ko0' kc0' p68' p69' p65' p70' (iq0 64) L20 L80 h700 (i5 0 (by decide)) (hl 0 0 1 2 0 0 (by decide) (by decide) (Or.inl ⟨rfl, rfl⟩) (Or.inr (Or.inl ⟨rfl, rfl⟩)) (by omega)) (hl 0 0 1 8 0 i (by decide) (by decide) (Or.inl ⟨rfl, rfl⟩) (Or.inr (Or.inr ⟨rfl, hi⟩)) (by omega)) (fun j hj hne => ⟨hl 0 0 8 2 j 0 (by decide) (by decide) (Or.inr (Or.inr ⟨rfl, hj⟩)) (Or.inr (Or.inl ⟨rfl, rfl⟩)) (by omega), hl 0 0 8 8 j i (by decide) (by decide) (Or.inr (Or.inr ⟨rfl, hj⟩)) (Or.inr (Or.inr ⟨rfl, hi⟩)) (by omega)⟩)
  have v0'' := VAL_field (q := q0) (o := o0) (c := c0) h0' A1 hi v0' F2 iq0 io0 ic0
  have e8 : ∀ j, gF (H 1) E.2.1 q1 o1 c1 8 j = H 1 8 j := fun j => by rw [gF_o (by decide) (by decide) (by decide)]
  have e1 : gF (H 1) E.2.1 q1 o1 c1 1 0 = H 1 1 0 := by rw [gF_o (by decide) (by decide) (by decide)]
  have e2 : gF (H 1) E.2.1 q1 o1 c1 2 0 = H 1 2 0 := by rw [gF_o (by decide) (by decide) (by decide)]
  have kf1 : ∀ k, k < E.2.1 + 1 → s_K S1 (gF (H 1) E.2.1 q1 o1 c1 5 k) = 3 := fun k hk => (h1'.2.2 k hk).1
  have h1'' : HS (gF (H 1) E.2.1 q1 o1 c1) (gE E i) S2 := HS_keep h1' F2 oD2 (fun a n f La ha => by
    refine LST_fD A1 a7'.1 c8' La F2 ?_ ?_ <;> rcases ha with rfl | rfl | ⟨j, hj, rfl⟩
    · rw [e1]; exact hl 1 0 1 2 0 0 (by decide) (by decide) (Or.inl ⟨rfl, rfl⟩) (Or.inr (Or.inl ⟨rfl, rfl⟩)) (by omega)
    · rw [e2]; exact hl 1 0 2 2 0 0 (by decide) (by decide) (Or.inr (Or.inl ⟨rfl, rfl⟩)) (Or.inr (Or.inl ⟨rfl, rfl⟩)) (by omega)
    · rw [e8]; exact hl 1 0 8 2 j 0 (by decide) (by decide) (Or.inr (Or.inr ⟨rfl, hj⟩)) (Or.inr (Or.inl ⟨rfl, rfl⟩)) (by omega)
    · rw [e1]; exact hl 1 0 1 8 0 i (by decide) (by decide) (Or.inl ⟨rfl, rfl⟩) (Or.inr (Or.inr ⟨rfl, hi⟩)) (by omega)
    · rw [e2]; exact hl 1 0 2 8 0 i (by decide) (by decide) (Or.inr (Or.inl ⟨rfl, rfl⟩)) (Or.inr (Or.inr ⟨rfl, hi⟩)) (by omega)
    · rw [e8]; exact hl 1 0 8 8 j i (by decide) (by decide) (Or.inr (Or.inr ⟨rfl, hj⟩)) (Or.inr (Or.inr ⟨rfl, hi⟩)) (by omega)) (fun k hk z => by
    have h9 : lastK E i < E.2.1 := (mem_in.mp (mem_at (E := E) (i := i) (j := (ce_mem E i).length - 1) (by have := z.1; omega))).1
    have z2 := z.2
    by_cases y : k = E.2.1
    · rw [y, gF_q] at z2
      rw [z2, (f0 _ h9).1] at kq1
      cases kq1
    · have hk : k < E.2.1 + 1 := hk
      rw [gF_n y] at z2
      exact i5' _ k h9 (by omega) z2.symm)
  have v1'' : VAL (gF (H 1) E.2.1 q1 o1 c1) (gE E i) S2 _ := VAL_keep h1' v1' F2 oD2
  have mm2 := F2.obT mm.1 (by decide) (oD2 _ _ mm.1 (by decide) (by decide) (by decide) (by decide) (by decide))
  have lt9 : 0 < (ce_mem E i).length → lastK E i < E.2.1 := fun h => (mem_in.mp (mem_at (E := E) (i := i) (j := (ce_mem E i).length - 1) (by omega))).1
  have G1 : FRM (kD S) (fN S) S S1 := (F1.mono (fun y hy z => fD_k hA b7.1 c8 hy z)).monoT (fun y hy z => by
    show s_K S y = 3
    rw [z.2]
    exact (f1 _ (lt9 z.1)).1)
  have G2 : FRM (kD S) (fN S) S S2 := G1.trans F2 (fun y hy z => by
    have e := (F1.2 y hy).1
    have := fD_k A1 a7'.1 c8' (by rw [e]; exact hy) z
    unfold kD at this ⊢
    rw [e] at this
    exact this) (fun y hy z => by
    have e := (F1.2 y hy).1
    show s_K S y = 3
    rw [← e, z.2]
    exact (f0' _ (lt9 z.1)).1)
  have nq : q0 ≠ q1 := fun e => by rw [e, kq1'] at kq0; cases kq0
  have no' : o0 ≠ o1 := fun e => by rw [e, ko1'] at ko0; cases ko0
  have nc : c0 ≠ c1 := fun e => by rw [e, kc1'] at kc0; cases kc0
  refine hQ S2 (fun w => gF (H w) E.2.1 ((fun w => if w = 0 then q0 else q1) w) ((fun w => if w = 0 then o0 else o1) w) ((fun w => if w = 0 then c0 else c1) w)) G2 A2 ⟨⟨⟨z1, by show E.2.1 + 1 ≤ 12; omega, fun k hk => ?_⟩, ?_, fun w hw => ?_⟩, ?_, fun w hw => ?_⟩ (LD_fld hL) ?_
  · by_cases y : k = E.2.1
    · rw [y, gE_n]; exact hi
    · have hk : k < E.2.1 + 1 := hk
      rw [gE_lt (by omega)]; exact hE k (by omega)
  · refine ⟨?_, ?_, ?_⟩
    · show s_K S2 (gF (H 0) E.2.1 q0 o0 c0 9 0) = 8
      rw [gF_o (by decide) (by decide) (by decide)]; exact mm2.1
    · show s_R S2 224 (gF (H 0) E.2.1 q0 o0 c0 9 0) = some (gF (H 0) E.2.1 q0 o0 c0 0 0)
      rw [gF_o (by decide) (by decide) (by decide), gF_o (by decide) (by decide) (by decide)]
      exact (mm2.2.2 224 (fun z => absurd z (by decide))).trans ((mm.2.2 224 (fun z => absurd z (by decide))).trans m2)
    · show s_R S2 225 (gF (H 0) E.2.1 q0 o0 c0 9 0) = some (gF (H 1) E.2.1 q1 o1 c1 0 0)
      rw [gF_o (by decide) (by decide) (by decide), gF_o (by decide) (by decide) (by decide)]
      exact (mm2.2.2 225 (fun z => absurd z (by decide))).trans ((mm.2.2 225 (fun z => absurd z (by decide))).trans m3)
  · rcases (show w = 0 ∨ w = 1 by omega) with rfl | rfl
    · exact h0''
    · exact h1''
  · refine inj_fld (S := S) hI (fun w hw k hk => ?_) (fun w hw => ?_) nq no' nc
    · obtain ⟨r1, -, -, -, -, -, r7, r8⟩ := (hh w hw).2.2 k hk
      exact ⟨by rw [r1]; decide, by rw [r7]; decide, by rw [r8]; decide⟩
    · rcases (show w = 0 ∨ w = 1 by omega) with rfl | rfl
      · exact ⟨F1.fz kq0, F1.fz ko0, F1.fz kc0⟩
      · exact ⟨kq1, ko1, kc1⟩
  · rcases (show w = 0 ∨ w = 1 by omega) with rfl | rfl
    · exact v0''
    · exact v1''
  · show gF (H 0) E.2.1 q0 o0 c0 9 0 = H 0 9 0
    rw [gF_o (by decide) (by decide) (by decide)]
end
