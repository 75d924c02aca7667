/-! ===== the beginning: a class without societies, a model without rows ===== -/
section
variable {S S' S1 : sT} {a b q k n x y g0 : Nat} {E : eT} {H : Nat → Nat → Nat → Nat} {Z : zT}
abbrev e00 : eT := (0, 0, fun _ => 0)
def iG (g0 l1 l2 g3 x : Nat) (f _k : Nat) : Nat := if f = 0 then g0 else if f = 1 then l1 else if f = 2 then l2 else if f = 3 then g3 else x
theorem x2_init {Q : sT → Prop} (x : Nat) {mc ms : Nat} (hA : AL S) (hk : s_K S g0 = 4) (hv : ∀ g, s_I S g g0 = 0) (hmc : 3 ≤ mc) (hms : 10 ≤ ms) (hQ : ∀ S' l1 l2 g3, FRM (fun y => y = g0) no_ S S' → AL S' → s_K S l1 = 0 → s_K S l2 = 0 → s_K S g3 = 0 → l1 ≠ l2 → HS (iG g0 l1 l2 g3 x) e00 S' → VAL (iG g0 l1 l2 g3 x) e00 S' (fun _ _ => 0) → Q S') : wA_X2_init mc ms g0 S Q := by
  have k0 : s_K S g0 ≠ 0 := by rw [hk]; decide
  unfold wA_X2_init wA_X2_init_b0
  refine ⟨by omega, by omega, fun l1 f1 S1 e1 => ?_⟩
  subst e1
  refine ls_init (f := fun _ => 0) hA f1 (fun S2 F2 A2 L2 => ?_)
  have g2 := F2.ob hk (by decide) (fun z => z)
  have n1 : l1 ≠ g0 := fun z => k0 (z ▸ f1.1)
  refine ⟨g2.1, fun S3 e3 => ⟨by omega, by omega, fun l2 f2 S4 e4 => ?_⟩⟩
  have F3 : FRM (fun y => y = g0) no_ S2 S3 := by rw [e3]; exact FRM.refl.sR (Or.inr (Or.inl rfl)) (by decide) (by decide)
  have A3 : AL S3 := by rw [e3]; exact AL_sR A2 (by decide) (by decide) (by decide)
  have p3 : s_K S3 g0 = 4 ∧ (∀ g, s_I S3 g g0 = 0) ∧ s_R S3 96 g0 = some l1 := by rw [e3]; exact ⟨g2.1, fun g => (g2.2.1 g).trans (hv g), sR_s⟩
  have L3 : LST S3 l1 0 (fun _ => 0) := LST_F L2 F3 n1 (fun b _ hb z => by rw [z, g2.1] at hb; cases hb)
  clear e3
  subst e4
  refine ls_init (f := fun _ => 0) A3 f2 (fun S5 F5 A5 L5 => ?_)
  have g5 := F5.ob p3.1 (by decide) (fun z => z)
  have n2 : l2 ≠ g0 := fun z => by have := f2.1; rw [z, p3.1] at this; cases this
  have n12 : l1 ≠ l2 := fr_ne f2 (by rw [L3.1]; decide)
  refine ⟨g5.1, fun S6 e6 => ⟨by omega, by omega, fun g3 f3 S7 e7 => ?_⟩⟩
  have F6 : FRM (fun y => y = g0) no_ S5 S6 := by rw [e6]; exact FRM.refl.sR (Or.inr (Or.inl rfl)) (by decide) (by decide)
  have A6 : AL S6 := by rw [e6]; exact AL_sR A5 (by decide) (by decide) (by decide)
  have p6 : s_K S6 g0 = 4 ∧ (∀ g, s_I S6 g g0 = 0) ∧ s_R S6 96 g0 = some l1 ∧ s_R S6 97 g0 = some l2 := by
    rw [e6]; exact ⟨g5.1, fun g => (g5.2.1 g).trans (p3.2.1 g), (sR_o (fun z => absurd z.1 (by decide))).trans ((g5.2.2 96).trans p3.2.2), sR_s⟩
  have L6 : LST S6 l2 0 (fun _ => 0) := LST_F L5 F6 n2 (fun b _ hb z => by rw [z, g5.1] at hb; cases hb)
  have L16 : LST S6 l1 0 (fun _ => 0) := LST_F (LST_0 L3 F5) F6 n1 (fun b _ hb z => by rw [z, g5.1] at hb; cases hb)
  clear e6
  unfold w_X3_init w_X3_init_b0
  have F7 : FRM no_ no_ S6 S7 := by rw [e7]; exact FRM.refl.nw f3
  have A7 : AL S7 := by rw [e7]; exact AL_nw A6 f3
  have k7 : s_K S7 g3 = 5 := by rw [e7]; exact s_nw_K
  have v7 : ∀ g, s_I S7 g g3 = 0 := fun g => by rw [e7]; exact if_pos rfl
  clear e7
  have g7 := F7.ob p6.1 (by decide) (fun z => z)
  have n3 : g3 ≠ g0 := fun z => by have := f3.1; rw [z, p6.1] at this; cases this
  refine ⟨g7.1, fun S8 e8 => ?_⟩
  have F8 : FRM (fun y => y = g0) no_ S7 S8 := by rw [e8]; exact FRM.refl.sR (Or.inr (Or.inl rfl)) (by decide) (by decide)
  have A8 : AL S8 := by rw [e8]; exact AL_sR A7 (by decide) (by decide) (by decide)
  have p8 : s_K S8 g0 = 4 ∧ (∀ g, s_I S8 g g0 = 0) ∧ s_R S8 96 g0 = some l1 ∧ s_R S8 97 g0 = some l2 ∧ s_R S8 98 g0 = some g3 := by
    rw [e8]; exact ⟨g7.1, fun g => (g7.2.1 g).trans (p6.2.1 g), (sR_o (fun z => absurd z.1 (by decide))).trans ((g7.2.2 96).trans p6.2.2.1), (sR_o (fun z => absurd z.1 (by decide))).trans ((g7.2.2 97).trans p6.2.2.2), sR_s⟩
  have L8 : LST S8 l2 0 (fun _ => 0) := LST_F (LST_0 L6 F7) F8 n2 (fun b _ hb z => by rw [z, g7.1] at hb; cases hb)
  have L18 : LST S8 l1 0 (fun _ => 0) := LST_F (LST_0 L16 F7) F8 n1 (fun b _ hb z => by rw [z, g7.1] at hb; cases hb)
  have k8 : s_K S8 g3 = 5 ∧ ∀ g, s_I S8 g g3 = 0 := by
    have := F8.ob k7 (by decide) n3
    exact ⟨this.1, fun g => (this.2.1 g).trans (v7 g)⟩
  clear e8
  have up : ∀ {Sa Sb Sc : sT}, FRM no_ no_ Sa Sb → FRM (fun y => y = g0) no_ Sb Sc → FRM (fun y => y = g0) no_ Sa Sc := fun h h2 => (h.mono (fun _ _ z => False.elim z)).trans h2 (fun _ _ z => z) (fun _ _ z => z)
  have uq : ∀ {Sa Sb Sc : sT}, FRM (fun y => y = g0) no_ Sa Sb → FRM (fun y => y = g0) no_ Sb Sc → FRM (fun y => y = g0) no_ Sa Sc := fun h h2 => h.trans h2 (fun _ _ z => z) (fun _ _ z => z)
  have U3 := up F2 F3
  have U6 := uq U3 (up F5 F6)
  have U8 := uq U6 (up F7 F8)
  refine hQ S8 l1 l2 g3 U8 A8 f1.1 (U3.fz f2.1) (U6.fz f3.1) n12 ⟨⟨p8.1, p8.2.2.1, p8.2.2.2.1, p8.2.2.2.2, k8.1, ?_, ?_⟩, fun i hi => absurd hi (Nat.not_lt_zero i), fun i hi => absurd hi (Nat.not_lt_zero i)⟩ (fun c hc hv k hk => ?_)
  · exact LST_congr (fun j hj => absurd hj (Nat.not_lt_zero j)) L18
  · exact LST_congr (fun j hj => absurd hj (Nat.not_lt_zero j)) L8
  · unfold c_len at hk
    by_cases c1 : c < 32
    · rw [if_pos c1] at hk; exact absurd hk (Nat.not_lt_zero k)
    · rw [if_neg c1] at hk
      by_cases c2 : c < 64
      · rw [if_pos c2] at hk; exact absurd hk (Nat.not_lt_zero k)
      · rcases c_f0 c hc hv (by omega) with e | e <;> rw [e]
        · exact p8.2.1 _
        · exact k8.2 _
def iH (x0 : Nat) (A B : Nat → Nat → Nat) (w f k : Nat) : Nat := if f = 9 then x0 else if w = 0 then A f k else B f k
theorem x6_init {Q : sT → Prop} {x0 mc ms : Nat} (hA : AL S) (hk : s_K S x0 = 8) (hmc : 8 ≤ mc) (hms : 40 ≤ ms) (hQ : ∀ S' H, FRM (fun y => y = x0) no_ S S' → AL S' → H 0 9 0 = x0 → CC H e00 S' (fun _ _ _ => 0) → LD H e00 → Q S') : wA_X6_init mc ms x0 S Q := by
  have k0 : s_K S x0 ≠ 0 := by rw [hk]; decide
  unfold wA_X6_init wA_X6_init_b0
  refine ⟨by omega, by omega, fun ga f1 S1 e1 => ⟨3, 10, by omega, by omega, ?_⟩⟩
  have F1 : FRM no_ no_ S S1 := by rw [e1]; exact FRM.refl.nw f1
  have A1 : AL S1 := by rw [e1]; exact AL_nw hA f1
  have k1 : s_K S1 ga = 4 := by rw [e1]; exact s_nw_K
  have v1 : ∀ g, s_I S1 g ga = 0 := fun g => by rw [e1]; exact if_pos rfl
  clear e1
  refine x2_init x0 A1 k1 v1 (by decide) (by decide) (fun S2 l1 l2 l3 F2 A2 z1 z2 z3 n12 h2 u2 => ?_)
  have F12 : FRM no_ no_ S S2 := F1.trans F2 (fun y hy z => hy (z ▸ f1.1)) (fun _ _ z => z)
  have g2 := F12.ob hk (by decide) (fun z => z)
  refine ⟨g2.1, fun S3 e3 => ⟨by omega, by omega, fun gb f4 S4 e4 => ⟨3, 10, by omega, by omega, ?_⟩⟩⟩
  have F3 : FRM (fun y => y = x0) no_ S2 S3 := by rw [e3]; exact FRM.refl.sR (Or.inr (Or.inl rfl)) (by decide) (by decide)
  have A3 : AL S3 := by rw [e3]; exact AL_sR A2 (by decide) (by decide) (by decide)
  have p3 : s_K S3 x0 = 8 ∧ s_R S3 224 x0 = some ga := by rw [e3]; exact ⟨g2.1, sR_s⟩
  clear e3
  have F4 : FRM no_ no_ S3 S4 := by rw [e4]; exact FRM.refl.nw f4
  have A4 : AL S4 := by rw [e4]; exact AL_nw A3 f4
  have k4 : s_K S4 gb = 4 := by rw [e4]; exact s_nw_K
  have v4 : ∀ g, s_I S4 g gb = 0 := fun g => by rw [e4]; exact if_pos rfl
  clear e4
  have F24 : FRM (fun y => y = x0) no_ S2 S4 := F3.trans F4 (fun _ _ z => False.elim z) (fun _ _ z => z)
  refine x2_init x0 A4 k4 v4 (by decide) (by decide) (fun S5 m1 m2 m3 F5 A5 y1 y2 y3 w12 h5 u5 => ?_)
  have F35 : FRM no_ no_ S3 S5 := F4.trans F5 (fun y hy z => hy (z ▸ f4.1)) (fun _ _ z => z)
  have g5 := F35.ob p3.1 (by decide) (fun z => z)
  refine ⟨g5.1, fun S6 e6 => ?_⟩
  have F6 : FRM (fun y => y = x0) no_ S5 S6 := by rw [e6]; exact FRM.refl.sR (Or.inr (Or.inl rfl)) (by decide) (by decide)
  have A6 : AL S6 := by rw [e6]; exact AL_sR A5 (by decide) (by decide) (by decide)
  have p6 : s_K S6 x0 = 8 ∧ s_R S6 224 x0 = some ga ∧ s_R S6 225 x0 = some gb := by
    rw [e6]; exact ⟨g5.1, (sR_o (fun z => absurd z.1 (by decide))).trans ((g5.2.2 224).trans p3.2), sR_s⟩
  clear e6
  have U26 : FRM (fun y => y = x0) no_ S2 S6 := (F3.trans F35 (fun _ _ z => False.elim z) (fun _ _ z => z)).trans F6 (fun _ _ z => z) (fun _ _ z => z)
  have hx : ∀ {Sx Sy : sT} {G : Nat → Nat → Nat}, HS G e00 Sx → FRM (fun y => y = x0) no_ Sx Sy → s_K Sx x0 = 8 → HS G e00 Sy := by
    intro Sx Sy G h F hk
    obtain ⟨⟨a1, a2, a3, a4, a5, a6, a7⟩, -, -⟩ := h
    have ne : ∀ {y c : Nat}, s_K Sx y = c → c ≠ 8 → ¬ (y = x0) := fun h1 h2 z => h2 (by rw [← h1, z]; exact hk)
    have q0 := F.ob a1 (by decide) (ne a1 (by decide))
    have q3 := F.ob a5 (by decide) (ne a5 (by decide))
    exact ⟨⟨q0.1, (q0.2.2 96).trans a2, (q0.2.2 97).trans a3, (q0.2.2 98).trans a4, q3.1, LST_F a6 F (ne a6.1 (by decide)) (fun b _ hb => ne hb (by decide)), LST_F a7 F (ne a7.1 (by decide)) (fun b _ hb => ne hb (by decide))⟩, fun i hi => absurd hi (Nat.not_lt_zero i), fun i hi => absurd hi (Nat.not_lt_zero i)⟩
  have ux : ∀ {Sx Sy : sT} {G : Nat → Nat → Nat}, HS G e00 Sx → VAL G e00 Sx (fun _ _ => 0) → FRM (fun y => y = x0) no_ Sx Sy → s_K Sx x0 = 8 → VAL G e00 Sy (fun _ _ => 0) := by
    intro Sx Sy G h u F hk c hc hv k hk'
    obtain ⟨d, hd, h0, -, -, -, -⟩ := HS_kind h hc hv hk'
    have n0 : ¬ (G (c_f c) k = x0) := fun z => by
      have hd8 : d = 8 := by rw [← hd, z]; exact hk
      obtain ⟨⟨a1, -, -, -, a5, -, -⟩, -, -⟩ := h
      unfold c_len at hk'
      by_cases c1 : c < 32
      · rw [if_pos c1] at hk'; exact Nat.not_lt_zero k hk'
      · rw [if_neg c1] at hk'
        by_cases c2 : c < 64
        · rw [if_pos c2] at hk'; exact Nat.not_lt_zero k hk'
        · rw [if_neg c2] at hk'
          obtain rfl : k = 0 := by omega
          rcases c_f0 c hc hv (by omega) with e | e <;> rw [e] at hd
          · rw [a1] at hd; omega
          · rw [a5] at hd; omega
    exact ((F.ob hd h0 n0).2.1 _).trans (u c hc hv k hk')
  have hA6 := hx h2 U26 g2.1
  have uA6 := ux h2 u2 U26 g2.1
  have hB6 := hx h5 F6 g5.1
  have uB6 := ux h5 u5 F6 g5.1
  have kga : s_K S2 ga = 4 := h2.1.1
  have kl3 : s_K S2 l3 = 5 := h2.1.2.2.2.2.1
  have kl1 : s_K S2 l1 = 1 := h2.1.2.2.2.2.2.1.1
  have kl2 : s_K S2 l2 = 1 := h2.1.2.2.2.2.2.2.1
  have zb : s_K S2 gb = 0 := F3.fz f4.1
  have zm1 : s_K S2 m1 = 0 := F24.fz y1
  have zm2 : s_K S2 m2 = 0 := F24.fz y2
  have zm3 : s_K S2 m3 = 0 := F24.fz y3
  have df : ∀ {u v c : Nat}, s_K S2 u = c → c ≠ 0 → s_K S2 v = 0 → u ≠ v := fun h1 h2 h3 e => h2 (by rw [← h1, e]; exact h3)
  refine hQ S6 (iH x0 (iG ga l1 l2 l3 x0) (iG gb m1 m2 m3 x0)) ((F12.mono (fun _ _ z => False.elim z)).trans U26 (fun _ _ z => z) (fun _ _ z => z)) A6 rfl ⟨⟨⟨by decide, by decide, fun k hk => absurd hk (Nat.not_lt_zero k)⟩, ⟨p6.1, p6.2.1, p6.2.2⟩, fun w hw => ?_⟩, ?_, fun w hw => ?_⟩ ?_
  · rcases (show w = 0 ∨ w = 1 by omega) with rfl | rfl
    · exact ⟨hA6.1, fun i hi => absurd hi (Nat.not_lt_zero i), fun i hi => absurd hi (Nat.not_lt_zero i)⟩
    · exact ⟨hB6.1, fun i hi => absurd hi (Nat.not_lt_zero i), fun i hi => absurd hi (Nat.not_lt_zero i)⟩
  · intro w hw v hv c hc hcv k hk j hj he
    unfold c_len at hk hj
    by_cases c1 : c < 32
    · rw [if_pos c1] at hk; exact absurd hk (Nat.not_lt_zero k)
    · rw [if_neg c1] at hk hj
      by_cases c2 : c < 64
      · rw [if_pos c2] at hk; exact absurd hk (Nat.not_lt_zero k)
      · rw [if_neg c2] at hk hj
        refine ⟨?_, by omega⟩
        rcases c_f0 c hc hcv (by omega) with e | e <;> rw [e] at he
        · rcases (show w = 0 ∨ w = 1 by omega) with rfl | rfl <;> rcases (show v = 0 ∨ v = 1 by omega) with rfl | rfl
          · rfl
          · exact absurd he (df kga (by decide) zb)
          · exact absurd he.symm (df kga (by decide) zb)
          · rfl
        · rcases (show w = 0 ∨ w = 1 by omega) with rfl | rfl <;> rcases (show v = 0 ∨ v = 1 by omega) with rfl | rfl
          · rfl
          · exact absurd he (df kl3 (by decide) zm3)
          · exact absurd he.symm (df kl3 (by decide) zm3)
          · rfl
  · intro c hc hv k hk
    rcases (show w = 0 ∨ w = 1 by omega) with rfl | rfl
    · have := uA6 c hc hv k hk
      unfold c_len at hk
      by_cases c1 : c < 32
      · rw [if_pos c1] at hk; exact absurd hk (Nat.not_lt_zero k)
      · rw [if_neg c1] at hk
        by_cases c2 : c < 64
        · rw [if_pos c2] at hk; exact absurd hk (Nat.not_lt_zero k)
        · rcases c_f0 c hc hv (by omega) with e | e <;> rw [e] at this ⊢ <;> exact this
    · have := uB6 c hc hv k hk
      unfold c_len at hk
      by_cases c1 : c < 32
      · rw [if_pos c1] at hk; exact absurd hk (Nat.not_lt_zero k)
      · rw [if_neg c1] at hk
        by_cases c2 : c < 64
        · rw [if_pos c2] at hk; exact absurd hk (Nat.not_lt_zero k)
        · rcases c_f0 c hc hv (by omega) with e | e <;> rw [e] at this ⊢ <;> exact this
  · intro w v f g k j hw hv hf hg he
    have e8 : ∀ {t : Nat}, ¬ (t < e00.1) := fun h => absurd h (Nat.not_lt_zero _)
    rcases hf with ⟨rfl, rfl⟩ | ⟨rfl, rfl⟩ | ⟨-, h⟩ <;> rcases hg with ⟨rfl, rfl⟩ | ⟨rfl, rfl⟩ | ⟨-, h'⟩
    · rcases (show w = 0 ∨ w = 1 by omega) with rfl | rfl <;> rcases (show v = 0 ∨ v = 1 by omega) with rfl | rfl
      · exact ⟨rfl, rfl, rfl⟩
      · exact absurd he (df kl1 (by decide) zm1)
      · exact absurd he.symm (df kl1 (by decide) zm1)
      · exact ⟨rfl, rfl, rfl⟩
    · rcases (show w = 0 ∨ w = 1 by omega) with rfl | rfl <;> rcases (show v = 0 ∨ v = 1 by omega) with rfl | rfl
      · exact absurd he n12
      · exact absurd he (df kl1 (by decide) zm2)
      · exact absurd he.symm (df kl2 (by decide) zm1)
      · exact absurd he w12
    · exact absurd h' e8
    · rcases (show w = 0 ∨ w = 1 by omega) with rfl | rfl <;> rcases (show v = 0 ∨ v = 1 by omega) with rfl | rfl
      · exact absurd he.symm n12
      · exact absurd he (df kl2 (by decide) zm1)
      · exact absurd he.symm (df kl1 (by decide) zm2)
      · exact absurd he.symm w12
    · rcases (show w = 0 ∨ w = 1 by omega) with rfl | rfl <;> rcases (show v = 0 ∨ v = 1 by omega) with rfl | rfl
      · exact ⟨rfl, rfl, rfl⟩
      · exact absurd he (df kl2 (by decide) zm2)
      · exact absurd he.symm (df kl2 (by decide) zm2)
      · exact ⟨rfl, rfl, rfl⟩
    · exact absurd h' e8
    · exact absurd h e8
    · exact absurd h e8
    · exact absurd h e8
end
