/-! ===== a new society on a hill, whole ===== -/
/-- one hill's objects, at the addresses G family number -/
def HS (G : Nat → Nat → Nat) (E : eT) (S : sT) : Prop :=
  (s_K S (G 0 0) = 4 ∧ s_R S 96 (G 0 0) = some (G 1 0) ∧ s_R S 97 (G 0 0) = some (G 2 0) ∧ s_R S 98 (G 0 0) = some (G 3 0) ∧ s_K S (G 3 0) = 5 ∧ LST S (G 1 0) E.1 (G 4) ∧ LST S (G 2 0) E.2.1 (G 5)) ∧
   (∀ i : Nat, i < E.1 → s_K S (G 4 i) = 7 ∧ s_R S 195 (G 4 i) = some (G 8 i) ∧ s_I S 192 (G 4 i) = nI i ∧ LST S (G 8 i) (ce_mem E i).length (fun j => G 5 ((ce_mem E i).getD j 0))) ∧
   (∀ k : Nat, k < E.2.1 → s_K S (G 5 k) = 3 ∧ s_R S 65 (G 5 k) = some (G 4 (E.2.2 k)) ∧ s_R S 68 (G 5 k) = some (G 6 k) ∧ s_R S 69 (G 5 k) = some (G 7 k) ∧ s_R S 70 (G 5 k) = Option.map (G 5) (ce_nxt E k) ∧ s_I S 64 (G 5 k) = nI k ∧ s_K S (G 6 k) = 6 ∧ s_K S (G 7 k) = 2)
theorem CS_HS {H : Nat → Nat → Nat → Nat} {E : eT} {S : sT} {w : Nat} (h : CS H E S) (hw : w < 2) : HS (H w) E S := h.2.2 w hw
section
variable {D T D2 : Nat → Prop} {S S' S0 S1 : sT} {a a2 b q k n x y : Nat} {f : Nat → Nat} {G G2 : Nat → Nat → Nat} {E : eT}
/-- what a frame keeps of what is no list, no array of a list -/
theorem FRM.ob (h : FRM D no_ S S') {c : Nat} (hk : s_K S y = c) (h0 : c ≠ 0) (hd : ¬ D y) : s_K S' y = c ∧ (∀ g, s_I S' g y = s_I S g y) ∧ (∀ g, s_R S' g y = s_R S g y) := by
  obtain ⟨e, h2⟩ := h.2 y (by rw [hk]; exact h0)
  obtain ⟨-, i2, i3, -⟩ := h2 hd
  exact ⟨e.trans hk, i2, fun g => i3 g (fun _ z => z)⟩
theorem ls_Dk {c : Nat} (hA : AL S) (ha : s_K S a = 1) (hy : s_K S y = c) (h0 : c ≠ 0) (h1 : c ≠ 1) (h2 : c ≠ 12) : ¬ ls_D S a y := ls_Dn hA ha (hy ▸ h0) (hy ▸ h1) (hy ▸ h2)
theorem FRM.fz (h : FRM D T S0 S) (hq : s_K S q = 0) : s_K S0 q = 0 := by
  by_cases z : s_K S0 q = 0
  · exact z
  · exact absurd ((h.2 q z).1.symm.trans hq) z
theorem FRM.to_ls (h : FRM no_ no_ S0 S) (ha : s_K S0 a ≠ 0) : ∀ y, ls_D S a y → ls_D S0 a y := by
  rintro y (z | z)
  · exact Or.inl z
  · obtain ⟨-, h2⟩ := h.2 a ha
    exact Or.inr (((h2 (fun z => z)).2.2.1 1 (fun _ z => z)).symm.trans z)
theorem as_add {Q : Int32 → sT → Prop} {x1 x2 x3 x4 : Int32} (hA : AL S) (h : HS G E S) (hn : E.1 < 3) (hQ : ∀ S' q l, FRM (ls_D S (G 1 0)) no_ S S' → AL S' → s_K S q = 0 → s_K S l = 0 → s_K S' q = 7 → s_R S' 195 q = some l → LST S' l 0 f → (∀ g, s_I S' g q = soc0 (nI E.1) x1 x2 x3 x4 g) → LST S' (G 1 0) (E.1 + 1) (fun j => if j = E.1 then q else G 4 j) → Q (nI E.1) S') : wA_X2_addSociety 3 30 (G 0 0) x1 x2 x3 x4 S Q := by
  obtain ⟨⟨a1, a2, a3, a4, a5, a6, a7⟩, -, -⟩ := h
  have ha := a6.1
  unfold wA_X2_addSociety wA_X2_addSociety_b0
  refine ⟨by decide, by decide, fun q hq S1 e1 => ?_⟩
  have F1 : FRM no_ no_ S S1 := by rw [e1]; exact FRM.refl.nw hq
  have A1 : AL S1 := by rw [e1]; exact AL_nw hA hq
  have k1 : s_K S1 q = 7 := by rw [e1]; exact s_nw_K
  have v1 : ∀ g, s_I S1 g q = 0 := fun g => by rw [e1]; exact if_pos rfl
  clear e1
  obtain ⟨b1, -, b2⟩ := F1.ob a1 (by decide) (fun z => z)
  obtain ⟨c1, -, -⟩ := F1.ob ha (by decide) (fun z => z)
  refine ⟨b1, G 1 0, (b2 96).trans a2, c1, us_size (LST_0 a6 F1) ⟨1, 3, by decide, by decide, s5_init (f := f) A1 k1 v1 (fun S2 l F2 A2 l0 r2 L2 v2 => ?_)⟩⟩
  have F12 : FRM no_ no_ S S2 := F1.trans F2 (fun y hy z => hy (z ▸ hq.1)) (fun _ _ z => z)
  have k2 : s_K S2 q = 7 := (F2.2 q (by rw [k1]; decide)).1.trans k1
  obtain ⟨b1, -, b2⟩ := F12.ob a1 (by decide) (fun z => z)
  obtain ⟨c1, -, -⟩ := F12.ob ha (by decide) (fun z => z)
  refine ⟨b1, G 1 0, (b2 96).trans a2, c1, 1, 15, by decide, by decide, ls_add1 A2 (LST_0 a6 F12) (by omega) (fun z => absurd z (by omega)) (Or.inr k2) (by decide) (by decide) (fun S3 F3 A3 L3 => ?_)⟩
  have l0' : s_K S l = 0 := F1.fz l0
  have hne : l ≠ G 1 0 := fun z => by rw [z, ha] at l0'; cases l0'
  obtain ⟨d1, d2, d3⟩ := F3.ob k2 (by decide) (ls_Dk A2 c1 k2 (by decide) (by decide) (by decide))
  refine ⟨d1, fun u eu => ?_⟩
  have eu2 : u = nI E.1 := by
    rw [eu, d2, v2]; rfl
  subst eu2
  exact hQ S3 q l ((F12.mono (fun _ _ z => False.elim z)).trans F3 (fun y hy z => F12.to_ls (by rw [ha]; decide) y z) (fun _ _ z => z)) A3 hq.1 l0' d1 ((d3 195).trans r2) (LST_ls A2 c1 L2 F3 hne) (fun g => (d2 g).trans (v2 g)) L3
end
