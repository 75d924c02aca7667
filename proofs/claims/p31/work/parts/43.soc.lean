/-! ===== a new society on a hill ===== -/
section
variable {D T D2 : Nat → Prop} {S S' S0 S1 : sT} {a a2 b q k n x y : Nat} {f : Nat → Nat}
abbrev no_ : Nat → Prop := fun _ => False
theorem FRM.mono (h : FRM D T S S') (hD : ∀ y, s_K S y ≠ 0 → D y → D2 y) : FRM D2 T S S' := ⟨h.1, fun y hy => ⟨(h.2 y hy).1, fun hd => (h.2 y hy).2 (fun z => hd (hD y hy z))⟩⟩
theorem ls_Dn (hA : AL S) (ha : s_K S a = 1) (hy : s_K S y ≠ 0) (h1 : s_K S y ≠ 1) (h12 : s_K S y ≠ 12) : ¬ ls_D S a y := by
  obtain ⟨e0, e1, h0, h2, hK, h⟩ := hA
  rintro (z | z)
  · exact h1 (z ▸ ha)
  · rcases h a y ha z with e | ⟨e, -⟩
    · exact hy (e ▸ hK)
    · exact h12 e
theorem ls_Dl (hA : AL S) (ha : s_K S a = 1) (h2 : s_K S a2 = 1) (hne : a2 ≠ a) : ¬ ls_D S a a2 := by
  obtain ⟨e0, e1, h0, h9, hK, h⟩ := hA
  rintro (z | z)
  · exact hne z
  · rcases h a a2 ha z with e | ⟨e, -⟩
    · rw [e, hK] at h2; cases h2
    · rw [e] at h2; cases h2
theorem ls_Db (hA : AL S) (ha : s_K S a = 1) (h2 : s_K S a2 = 1) (hne : a2 ≠ a) (hr : s_R S 1 a2 = some b) (hb : s_K S b = 12) : ¬ ls_D S a b := by
  obtain ⟨e0, e1, h0, h9, hK, h⟩ := hA
  rintro (z | z)
  · rw [z, ha] at hb; cases hb
  · rcases h a2 b h2 hr with e | ⟨-, -, e⟩
    · rw [e, hK] at hb; cases hb
    · exact hne (e a ha z).symm
theorem LST_F (L : LST S a n f) (h : FRM D T S S') (ha : ¬ D a) (hb : ∀ b, s_R S 1 a = some b → s_K S b = 12 → ¬ D b) : LST S' a n f := by
  obtain ⟨hK, hI, hn, b, hR, hO⟩ := L
  obtain ⟨e, h2⟩ := h.2 a (by rw [hK]; decide)
  obtain ⟨-, a2, a3, -⟩ := h2 ha
  refine ⟨e.trans hK, (a2 2).trans hI, hn, b, (a3 1 (fun z => by cases z)).trans hR, ?_⟩
  rcases hO with ⟨z1, z2⟩ | ⟨z1, z2, z3⟩
  · exact Or.inl ⟨z1, h.1.1.trans z2⟩
  · obtain ⟨e4, h4⟩ := h.2 b (by rw [z1]; decide)
    obtain ⟨b1, -, -, -, b5, -⟩ := h4 (hb b hR z1)
    exact Or.inr ⟨e4.trans z1, by rw [b1]; exact z2, fun j hj => (b5 j).trans (z3 j hj)⟩
theorem LST_0 (L : LST S a n f) (h : FRM no_ T S S') : LST S' a n f := LST_F L h (fun z => z) (fun _ _ _ z => z)
theorem LST_ls (hA : AL S) (ha : s_K S a = 1) (L : LST S a2 n f) (h : FRM (ls_D S a) T S S') (hne : a2 ≠ a) : LST S' a2 n f :=
  LST_F L h (ls_Dl hA ha L.1 hne) (fun _ hr hb => ls_Db hA ha L.1 hne hr hb)
theorem ls_add1 {Q : Int32 → sT → Prop} {mc ms : Nat} (hA : AL S) (L : LST S a n f) (hn : n < 12) (h3 : n = 10 → ∀ j, j < n → s_K S (f j) = 3) (hx : s_K S x = 3 ∨ s_K S x = 7) (hc : 1 ≤ mc) (hs : 15 ≤ ms) (hQ : ∀ S', FRM (ls_D S a) no_ S S' → AL S' → LST S' a (n + 1) (fun j => if j = n then x else f j) → Q 1 S') : wA_Jx4a65c_add_9ea2d mc ms a x S Q :=
  ls_add FRM.refl (Or.inl rfl) (fun _ hb => Or.inr (Or.inr hb)) hA L hn h3 hx hc hs (fun S' h1 h2 _ _ _ h6 => hQ S' h1 h2 h6)
/-- a new list -/
theorem ls_init {Q : sT → Prop} (hA : AL S) (hq : s_fr S q) (hQ : ∀ S', FRM no_ no_ S S' → AL S' → LST S' q 0 f → Q S') : w_Jx4a65c_init_da8c8 q (s_nw S q 1 0) Q := by
  obtain ⟨e0, e1, h0, h1, hK, -⟩ := id hA
  unfold w_Jx4a65c_init_da8c8 w_Jx4a65c_init_da8c8_b0 w_Jxc12de_init_da8c8 w_Jxc12de_init_da8c8_b0 w_Jxa1e45_init_da8c8 w_Jxa1e45_init_da8c8_b0
  refine ⟨s_nw_K, fun S1 e1 => ?_⟩
  subst e1
  have hc : s_R (s_nw S q 1 0) 9998 0 = some e0 := (if_neg (fun z => hq.2.1 z.symm)).trans h0
  refine ⟨e0, hc, s_nw_K (n := 0), fun S2 e2 => ?_⟩
  subst e2
  refine hQ _ (((FRM.refl.nw hq).sI (Or.inl hq.1)).sR (Or.inl hq.1) (by decide) (by decide)) (AL_sR0 (S := s_sI (s_nw S q 1 0) 0 q 0) (AL_nw (k := 1) (n := 0) hA hq) hc) ⟨s_nw_K (n := 0), ?_, by decide, e0, sR_s, Or.inl ⟨rfl, sR_8.trans hc⟩⟩
  have h5 : s_I (s_sI (s_nw S q 1 0) 0 q 0) 2 q = s_I (s_nw S q 1 0) 2 q := sI_o (fun z => absurd z.1 (by decide))
  exact h5.trans (if_pos rfl)
theorem AL_eq (hr : s_R S' = s_R S) (hk : s_K S' = s_K S) (hn : s_N S' = s_N S) (h : AL S) : AL S' := by
  unfold AL at h ⊢
  rw [hr, hk, hn]; exact h
/-- a society's first numbers -/
def soc0 (x1 x2 x3 x4 x5 : Int32) (g : Nat) : Int32 := if g = 197 then x5 else if g = 196 then x4 else if g = 194 then x3 else if g = 193 then x2 else if g = 192 then x1 else if g = 203 then -1 else 0
theorem s5_init {Q : sT → Prop} {x1 x2 x3 x4 x5 : Int32} (hA : AL S) (hk : s_K S q = 7) (hv : ∀ g, s_I S g q = 0) (hQ : ∀ S' l, FRM (fun y => y = q) no_ S S' → AL S' → s_K S l = 0 → s_R S' 195 q = some l → LST S' l 0 f → (∀ g, s_I S' g q = soc0 x1 x2 x3 x4 x5 g) → Q S') : wA_X5_init 1 3 q x1 x2 x3 x4 x5 S Q := by
  unfold wA_X5_init wA_X5_init_b0
  refine ⟨by decide, by decide, fun l hl S1 e1 => ?_⟩
  subst e1
  refine ls_init (f := f) hA hl (fun S2 hF hA2 hL => ?_)
  have hq0 : s_K S q ≠ 0 := by rw [hk]; decide
  obtain ⟨ek, hF2⟩ := hF.2 q hq0
  obtain ⟨-, hI, -⟩ := hF2 (fun z => z)
  refine ⟨ek.trans hk, fun S3 e3 S4 e4 S5 e5 S6 e6 S7 e7 S8 e8 S9 e9 => ?_⟩
  subst e3 e4 e5 e6 e7 e8 e9
  have hF3 : FRM (fun y => y = q) no_ S S2 := hF.mono (fun _ _ z => False.elim z)
  refine hQ _ l ((((((((hF3.sR (Or.inr (Or.inl rfl)) (by decide) (by decide)).sI (Or.inr rfl)).sI (Or.inr rfl)).sI (Or.inr rfl)).sI (Or.inr rfl)).sI (Or.inr rfl)).sI (Or.inr rfl))) ?_ hl.1 sR_s ?_ (fun g => ?_)
  · have h5 : AL (s_sR S2 195 q (some l)) := AL_sR hA2 (by decide) (by decide) (by decide)
    exact AL_eq rfl rfl rfl h5
  · have hne : l ≠ q := fun z => hq0 (z ▸ hl.1)
    obtain ⟨c1, c2, c3, c4, c5, c6⟩ := hL
    refine ⟨c1, ?_, c3, c4, ?_, c6⟩
    · refine (sI_o (fun z => hne z.2)).trans ((sI_o (fun z => hne z.2)).trans ((sI_o (fun z => hne z.2)).trans ((sI_o (fun z => hne z.2)).trans ((sI_o (fun z => hne z.2)).trans ((sI_o (fun z => hne z.2)).trans c2)))))
    · exact (sR_o (fun z => hne z.2)).trans c5
  · show s_up2 (s_up2 (s_up2 (s_up2 (s_up2 (s_up2 (s_I S2) 203 q (-1)) 192 q x1) 193 q x2) 194 q x3) 196 q x4) 197 q x5 g q = _
    unfold s_up2 soc0
    simp only [and_true, hI, hv]
end
