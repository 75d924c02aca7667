/-! ===== a new society, both hills ===== -/
theorem w_isw {S : sT} {x a b : Int32} {Q : Int32 → sT → Prop} : w_X6_isWithin x a b S Q = Q (isw x a b) S := by
  simp only [w_X6_isWithin, w_X6_isWithin_b0, w_X6_isWithin_b14, w_X6_isWithin_b15, isw]
  by_cases h1 : x < a <;> by_cases h2 : b < x <;> simp [h1, h2]
/-- lists and their arrays -/
def kD (S : sT) (y : Nat) : Prop := s_K S y = 1 ∨ s_K S y = 12
section
variable {S S' S1 : sT} {a y x3 x4 : Nat} {E : eT} {H : Nat → Nat → Nat → Nat} {Z : zT} {qq ll : Nat → Nat}
theorem ls_k (hA : AL S) (ha : s_K S a = 1) (hy : s_K S y ≠ 0) (h : ls_D S a y) : kD S y := by
  by_cases h1 : s_K S y = 1
  · exact Or.inl h1
  · by_cases h2 : s_K S y = 12
    · exact Or.inr h2
    · exact absurd h (ls_Dn hA ha hy h1 h2)
theorem nD_k : nD (kD S) S := fun y hy z => by rcases z with z | z <;> rw [z] at hy <;> rcases hy with h | h | h | h | h | h <;> cases h
theorem inj_soc (hI : c_inj H E) (hk : ∀ w, w < 2 → ∀ i, i < E.1 → s_K S (H w 4 i) = 7) (hq : ∀ w, w < 2 → s_K S (qq w) = 0) (hne : qq 0 ≠ qq 1) : c_inj (fun w => gS (H w) E.1 (qq w) (ll w)) (E.1 + 1, E.2.1, E.2.2) := by
  intro w hw v hv c hc hcv k hk' j hj' he
  have he : gS (H w) E.1 (qq w) (ll w) (c_f c) k = gS (H v) E.1 (qq v) (ll v) (c_f c) j := he
  by_cases z : 32 ≤ c ∧ c < 64
  · have ef := c_fl c hc hcv z.1 z.2
    have kk : ∀ m, m < c_len (E.1 + 1, E.2.1, E.2.2) c → m < E.1 + 1 := fun m hm => by
      unfold c_len at hm
      rw [if_neg (by omega), if_pos z.2] at hm
      exact hm
    have kk2 : ∀ m, m < E.1 → m < c_len E c := fun m hm => by
      unfold c_len
      rw [if_neg (by omega), if_pos z.2]
      exact hm
    have k1 := kk k hk'
    have j1 := kk j hj'
    rw [ef] at he
    have q7 : ∀ u, u < 2 → ∀ t, t < 2 → ∀ i, i < E.1 → qq u ≠ H t 4 i := fun u hu t ht i hi e => by
      have := hq u hu
      rw [e, hk t ht i hi] at this
      cases this
    by_cases y1 : k = E.1 <;> by_cases y2 : j = E.1
    · rw [y1, y2, gS_q, gS_q] at he
      refine ⟨?_, y1.trans y2.symm⟩
      rcases (show w = 0 ∨ w = 1 by omega) with rfl | rfl <;> rcases (show v = 0 ∨ v = 1 by omega) with rfl | rfl
      · rfl
      · exact absurd he hne
      · exact absurd he.symm hne
      · rfl
    · rw [y1, gS_q, gS_n y2] at he
      exact absurd he (q7 w hw v hv j (by omega))
    · rw [y2, gS_q, gS_n y1] at he
      exact absurd he.symm (q7 v hv w hw k (by omega))
    · rw [gS_n y1, gS_n y2, ← ef] at he
      exact hI w hw v hv c hc hcv k (kk2 k (by omega)) j (kk2 j (by omega)) he
  · have h4 : c_f c ≠ 4 ∧ c_f c ≠ 8 := by
      by_cases c1 : c < 32
      · rcases c_fk c hc hcv c1 with e | e | e <;> rw [e] <;> decide
      · rcases c_f0 c hc hcv (by omega) with e | e <;> rw [e] <;> decide
    rw [gS_o h4.1 h4.2, gS_o h4.1 h4.2] at he
    have kk : c_len (E.1 + 1, E.2.1, E.2.2) c = c_len E c := by
      unfold c_len
      by_cases c1 : c < 32
      · rw [if_pos c1, if_pos c1]
      · rw [if_neg c1, if_neg (by omega), if_neg c1, if_neg (by omega)]
    rw [kk] at hk' hj'
    exact hI w hw v hv c hc hcv k hk' j hj' he
theorem LD_soc (hL : LD H E) (hk : ∀ w, w < 2 → ∀ f k, (f = 1 ∧ k = 0 ∨ f = 2 ∧ k = 0 ∨ f = 8 ∧ k < E.1) → s_K S (H w f k) = 1) (hq : ∀ w, w < 2 → s_K S (ll w) = 0) (hne : ll 0 ≠ ll 1) : LD (fun w => gS (H w) E.1 (qq w) (ll w)) (E.1 + 1, E.2.1, E.2.2) := by
  intro w v f g k j hw hv hf hg he
  have he : gS (H w) E.1 (qq w) (ll w) f k = gS (H v) E.1 (qq v) (ll v) g j := he
  have old : ∀ f k, (f = 1 ∧ k = 0 ∨ f = 2 ∧ k = 0 ∨ f = 8 ∧ k < E.1 + 1) → ¬ (f = 8 ∧ k = E.1) → (f = 1 ∧ k = 0 ∨ f = 2 ∧ k = 0 ∨ f = 8 ∧ k < E.1) ∧ ∀ w, gS (H w) E.1 (qq w) (ll w) f k = H w f k := by
    intro f k h1 h2
    rcases h1 with ⟨rfl, rfl⟩ | ⟨rfl, rfl⟩ | ⟨rfl, h⟩
    · exact ⟨Or.inl ⟨rfl, rfl⟩, fun w => by rw [gS_o (by decide) (by decide)]⟩
    · exact ⟨Or.inr (Or.inl ⟨rfl, rfl⟩), fun w => by rw [gS_o (by decide) (by decide)]⟩
    · have : k ≠ E.1 := fun z => h2 ⟨rfl, z⟩
      exact ⟨Or.inr (Or.inr ⟨rfl, by omega⟩), fun w => gS_n this⟩
  have l7 : ∀ u, u < 2 → ∀ t, t < 2 → ∀ f k, (f = 1 ∧ k = 0 ∨ f = 2 ∧ k = 0 ∨ f = 8 ∧ k < E.1) → ll u ≠ H t f k := fun u hu t ht f k h e => by
    have := hq u hu
    rw [e, hk t ht f k h] at this
    cases this
  by_cases y1 : f = 8 ∧ k = E.1 <;> by_cases y2 : g = 8 ∧ j = E.1
  · obtain ⟨rfl, rfl⟩ := y1
    obtain ⟨rfl, rfl⟩ := y2
    rw [gS_l, gS_l] at he
    refine ⟨?_, rfl, rfl⟩
    rcases (show w = 0 ∨ w = 1 by omega) with rfl | rfl <;> rcases (show v = 0 ∨ v = 1 by omega) with rfl | rfl
    · rfl
    · exact absurd he hne
    · exact absurd he.symm hne
    · rfl
  · obtain ⟨o1, o2⟩ := old g j hg y2
    obtain ⟨rfl, rfl⟩ := y1
    rw [gS_l, o2] at he
    exact absurd he (l7 w hw v hv g j o1)
  · obtain ⟨o1, o2⟩ := old f k hf y1
    obtain ⟨rfl, rfl⟩ := y2
    rw [gS_l, o2] at he
    exact absurd he.symm (l7 v hv w hw f k o1)
  · obtain ⟨o1, o2⟩ := old f k hf y1
    obtain ⟨o3, o4⟩ := old g j hg y2
    rw [o2, o4] at he
    exact hL w v f g k j hw hv o1 o3 he
/-- the lists of a hill -/
theorem HS_ls {G : Nat → Nat → Nat} (h : HS G E S) {f k : Nat} (hf : f = 1 ∧ k = 0 ∨ f = 2 ∧ k = 0 ∨ f = 8 ∧ k < E.1) : s_K S (G f k) = 1 := by
  rcases hf with ⟨rfl, rfl⟩ | ⟨rfl, rfl⟩ | ⟨rfl, hk⟩
  · exact h.1.2.2.2.2.2.1.1
  · exact h.1.2.2.2.2.2.2.1
  · exact (h.2.1 k hk).2.2.2.1
theorem cs_society {Q : Int32 → sT → Prop} {x1 x2 x3 x4 : Int32} {mc ms : Nat} (hC : CC H E S Z) (hA : AL S) (hL : LD H E) (hn : E.1 < 3) (g1 : isw x1 1 9 = 1) (g2 : isw x2 0 50 = 1) (g3 : isw x3 0 209 = 1) (g4 : isw x4 1 210 = 1) (hmc : 6 ≤ mc) (hms : 60 ≤ ms)
    (hQ : ∀ S' H', FRM (kD S) no_ S S' → AL S' → CC H' (E.1 + 1, E.2.1, E.2.2) S' (fun w => zS E.1 (soc0 (nI E.1) x1 x2 x3 x4) (Z w)) → LD H' (E.1 + 1, E.2.1, E.2.2) → H' 0 9 0 = H 0 9 0 → Q (nI E.1) S') : wA_X6_society mc ms (H 0 9 0) x1 x2 x3 x4 S Q := by
  obtain ⟨⟨⟨z1, z2, hE⟩, ⟨m1, m2, m3⟩, hh⟩, hI, hV⟩ := hC
  have h0 : HS (H 0) E S := hh 0 (by decide)
  have h1 : HS (H 1) E S := hh 1 (by decide)
  have v0 : VAL (H 0) E S (Z 0) := hV 0 (by decide)
  have v1 : VAL (H 1) E S (Z 1) := hV 1 (by decide)
  obtain ⟨⟨a1, a2, a3, a4, a5, a6, a7⟩, -, -⟩ := id h0
  obtain ⟨⟨b1, b2, b3, b4, b5, b6, b7⟩, -, -⟩ := id h1
  unfold wA_X6_society wA_X6_society_b0
  rw [w_isw, g1]
  refine ⟨fun c => absurd c (by decide), fun _ => ?_⟩
  rw [w_isw, g2]
  refine ⟨fun c => absurd c (by decide), fun _ => ?_⟩
  rw [w_isw, g3]
  refine ⟨fun c => absurd c (by decide), fun _ => ?_⟩
  rw [w_isw, g4]
  refine ⟨fun _ => ⟨m1, H 0 0 0, m2, a1, H 0 1 0, a2, a6.1, us_size a6 ⟨fun _ => ⟨m1, H 1 0 0, m3, b1, 3, 30, by omega, by omega, ?_⟩, fun c => absurd ?_ c⟩⟩, fun c => absurd c (by decide)⟩
  rotate_left
  · rw [Int32.lt_iff_toInt_lt, nI_toInt (by omega)]
    show (E.1 : Int) < 3
    omega
  refine as_add (f := fun _ => 0) hA h1 hn (fun S1 q1 l1 F1 A1 kq1 kl1 kq1' r1 L1 w1 LL1 => ?_)
  have c01 : ∀ f k, (f = 1 ∧ k = 0 ∨ f = 2 ∧ k = 0 ∨ f = 8 ∧ k < E.1) → H 0 f k ≠ H 1 1 0 := fun f k hf e => by
    have := (hL 0 1 f 1 k 0 (by decide) (by decide) hf (Or.inl ⟨rfl, rfl⟩) e).1
    omega
  have h0' : HS (H 0) E S1 := HS_keep h0 F1 (oD_ls hA b6.1) (fun a n f La ha => by
    refine LST_ls hA b6.1 La F1 ?_
    rcases ha with rfl | rfl | ⟨i, hi, rfl⟩
    · exact c01 1 0 (Or.inl ⟨rfl, rfl⟩)
    · exact c01 2 0 (Or.inr (Or.inl ⟨rfl, rfl⟩))
    · exact c01 8 i (Or.inr (Or.inr ⟨rfl, hi⟩))) (fun _ _ z => z)
  have v0' : VAL (H 0) E S1 (Z 0) := VAL_keep h0 v0 F1 (oD_ls hA b6.1)
  have n12 : H 1 2 0 ≠ H 1 1 0 := fun e => by
    have := (hL 1 1 2 1 0 0 (by decide) (by decide) (Or.inr (Or.inl ⟨rfl, rfl⟩)) (Or.inl ⟨rfl, rfl⟩) e).2.1
    omega
  have n18 : ∀ i, i < E.1 → H 1 8 i ≠ H 1 1 0 := fun i hi e => by
    have := (hL 1 1 8 1 i 0 (by decide) (by decide) (Or.inr (Or.inr ⟨rfl, hi⟩)) (Or.inl ⟨rfl, rfl⟩) e).2.1
    omega
  have h1' := HS_soc h1 hA hE F1 kq1' r1 L1 (w1 192) LL1 n12 n18
  have v1' := VAL_soc (l := l1) h1 hA v1 F1 w1
  obtain ⟨⟨a1', a2', a3', a4', a5', a6', a7'⟩, -, -⟩ := id h0'
  have mm := F1.ob m1 (by decide) (ls_Dk hA b6.1 m1 (by decide) (by decide) (by decide))
  refine ⟨mm.1, H 0 0 0, (mm.2.2 224).trans m2, a1', 3, 30, by omega, by omega, ?_⟩
  refine as_add (f := fun _ => 0) A1 h0' hn (fun S2 q0 l0 F2 A2 kq0 kl0 kq0' r0 L0 w0 LL0 => ?_)
  have k11 : s_K S (H 0 1 0) = 1 := a6.1
  have n12 : H 0 2 0 ≠ H 0 1 0 := fun e => by
    have := (hL 0 0 2 1 0 0 (by decide) (by decide) (Or.inr (Or.inl ⟨rfl, rfl⟩)) (Or.inl ⟨rfl, rfl⟩) e).2.1
    omega
  have n18 : ∀ i, i < E.1 → H 0 8 i ≠ H 0 1 0 := fun i hi e => by
    have := (hL 0 0 8 1 i 0 (by decide) (by decide) (Or.inr (Or.inr ⟨rfl, hi⟩)) (Or.inl ⟨rfl, rfl⟩) e).2.1
    omega
  have h0'' := HS_soc h0' A1 hE F2 kq0' r0 L0 (w0 192) LL0 n12 n18
  have v0'' := VAL_soc (l := l0) h0' A1 v0' F2 w0
  have h1'' : HS (gS (H 1) E.1 q1 l1) (E.1 + 1, E.2.1, E.2.2) S2 := HS_keep h1' F2 (oD_ls A1 a6'.1) (fun a n f La ha => by
    refine LST_ls A1 a6'.1 La F2 ?_
    rcases ha with rfl | rfl | ⟨i, hi, rfl⟩
    · rw [gS_o (by decide) (by decide)]
      exact fun e => by
        have := (hL 1 0 1 1 0 0 (by decide) (by decide) (Or.inl ⟨rfl, rfl⟩) (Or.inl ⟨rfl, rfl⟩) e).1
        omega
    · rw [gS_o (by decide) (by decide)]
      exact fun e => by
        have := (hL 1 0 2 1 0 0 (by decide) (by decide) (Or.inr (Or.inl ⟨rfl, rfl⟩)) (Or.inl ⟨rfl, rfl⟩) e).1
        omega
    · by_cases z : i = E.1
      · rw [z, gS_l]
        exact fun e => by rw [e, k11] at kl1; cases kl1
      · rw [gS_n z]
        have hi : i < E.1 + 1 := hi
        exact fun e => by
          have := (hL 1 0 8 1 i 0 (by decide) (by decide) (Or.inr (Or.inr ⟨rfl, by omega⟩)) (Or.inl ⟨rfl, rfl⟩) e).1
          omega) (fun _ _ z => z)
  have v1'' : VAL (gS (H 1) E.1 q1 l1) (E.1 + 1, E.2.1, E.2.2) S2 _ := VAL_keep h1' v1' F2 (oD_ls A1 a6'.1)
  have mm2 := F2.ob mm.1 (by decide) (ls_Dk A1 a6'.1 mm.1 (by decide) (by decide) (by decide))
  have G1 : FRM (kD S) no_ S S1 := F1.mono (fun y hy z => ls_k hA b6.1 hy z)
  have G2 : FRM (kD S) no_ S S2 := G1.trans F2 (fun y hy z => by
    have e := (F1.2 y hy).1
    have := ls_k A1 a6'.1 (by rw [e]; exact hy) z
    unfold kD at this ⊢
    rw [e] at this
    exact this) (fun _ _ z => z)
  have kq0S : s_K S q0 = 0 := F1.fz kq0
  have kl0S : s_K S l0 = 0 := F1.fz kl0
  have nq : q0 ≠ q1 := fun e => by rw [e, kq1'] at kq0; cases kq0
  have nl : l0 ≠ l1 := fun e => by rw [e, L1.1] at kl0; cases kl0
  refine hQ S2 (fun w => gS (H w) E.1 ((fun w => if w = 0 then q0 else q1) w) ((fun w => if w = 0 then l0 else l1) w)) G2 A2 ⟨⟨⟨by omega, z2, fun k hk => ?_⟩, ?_, fun w hw => ?_⟩, ?_, fun w hw => ?_⟩ ?_ ?_
  · have : E.2.2 k < E.1 := hE k hk
    show E.2.2 k < E.1 + 1
    omega
  · refine ⟨?_, ?_, ?_⟩
    · show s_K S2 (gS (H 0) E.1 q0 l0 9 0) = 8
      rw [gS_o (by decide) (by decide)]; exact mm2.1
    · show s_R S2 224 (gS (H 0) E.1 q0 l0 9 0) = some (gS (H 0) E.1 q0 l0 0 0)
      rw [gS_o (by decide) (by decide), gS_o (by decide) (by decide)]; exact (mm2.2.2 224).trans ((mm.2.2 224).trans m2)
    · show s_R S2 225 (gS (H 0) E.1 q0 l0 9 0) = some (gS (H 1) E.1 q1 l1 0 0)
      rw [gS_o (by decide) (by decide), gS_o (by decide) (by decide)]; exact (mm2.2.2 225).trans ((mm.2.2 225).trans m3)
  · rcases (show w = 0 ∨ w = 1 by omega) with rfl | rfl
    · exact h0''
    · exact h1''
  · refine inj_soc (S := S) hI (fun w hw i hi => ?_) (fun w hw => ?_) nq
    · exact ((hh w hw).2.1 i hi).1
    · rcases (show w = 0 ∨ w = 1 by omega) with rfl | rfl
      · exact kq0S
      · exact kq1
  · rcases (show w = 0 ∨ w = 1 by omega) with rfl | rfl
    · exact v0''
    · exact v1''
  · refine LD_soc (S := S) hL (fun w hw f k hf => HS_ls (hh w hw) hf) (fun w hw => ?_) nl
    rcases (show w = 0 ∨ w = 1 by omega) with rfl | rfl
    · exact kl0S
    · exact kl1
  · show gS (H 0) E.1 q0 l0 9 0 = H 0 9 0
    rw [gS_o (by decide) (by decide)]
end
