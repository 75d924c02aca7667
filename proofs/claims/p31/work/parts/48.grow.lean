/-! ===== a hill that stays, a hill with one more society ===== -/
section
variable {D T D2 : Nat → Prop} {S S' S0 S1 : sT} {a b q l k n m x y W w : Nat} {f : Nat → Nat} {G : Nat → Nat → Nat} {E E' : eT} {Y : yT}
theorem FRM.obT (h : FRM D T S S') {c : Nat} (hk : s_K S y = c) (h0 : c ≠ 0) (hd : ¬ D y) : s_K S' y = c ∧ (∀ g, s_I S' g y = s_I S g y) ∧ (∀ g, (g = 70 → ¬ T y) → s_R S' g y = s_R S g y) := by
  obtain ⟨e, h2⟩ := h.2 y (by rw [hk]; exact h0)
  obtain ⟨-, i2, i3, -⟩ := h2 hd
  exact ⟨e.trans hk, i2, i3⟩
/-- only lists and their arrays are touched -/
def oD (D : Nat → Prop) (S : sT) : Prop := ∀ y c : Nat, s_K S y = c → c ≠ 0 → c ≠ 1 → c ≠ 12 → c ≠ 10 → c ≠ 11 → ¬ D y
theorem oD_ls (hA : AL S) (ha : s_K S a = 1) : oD (ls_D S a) S := fun _ _ h h0 h1 h2 _ _ => ls_Dk hA ha h h0 h1 h2
theorem oD_no : oD no_ S := fun _ _ _ _ _ _ _ _ z => z
theorem HS_keep (h : HS G E S) (F : FRM D T S S') (ho : oD D S) (hl : ∀ a n f, LST S a n f → (a = G 1 0 ∨ a = G 2 0 ∨ ∃ i, i < E.1 ∧ a = G 8 i) → LST S' a n f) (hT : ∀ k, k < E.2.1 → ¬ T (G 5 k)) : HS G E S' := by
  obtain ⟨⟨a1, a2, a3, a4, a5, a6, a7⟩, h2, h3⟩ := h
  have g0 := F.obT a1 (by decide) (ho _ _ a1 (by decide) (by decide) (by decide) (by decide) (by decide))
  have g3 := F.obT a5 (by decide) (ho _ _ a5 (by decide) (by decide) (by decide) (by decide) (by decide))
  have n70 : ∀ {g y : Nat}, g ≠ 70 → g = 70 → ¬ T y := fun h z => absurd z h
  refine ⟨⟨g0.1, (g0.2.2 96 (n70 (by decide))).trans a2, (g0.2.2 97 (n70 (by decide))).trans a3, (g0.2.2 98 (n70 (by decide))).trans a4, g3.1, hl _ _ _ a6 (Or.inl rfl), hl _ _ _ a7 (Or.inr (Or.inl rfl))⟩, fun i hi => ?_, fun k hk => ?_⟩
  · obtain ⟨b1, b2, b3, b4⟩ := h2 i hi
    have g := F.obT b1 (by decide) (ho _ _ b1 (by decide) (by decide) (by decide) (by decide) (by decide))
    exact ⟨g.1, (g.2.2 195 (n70 (by decide))).trans b2, (g.2.1 192).trans b3, hl _ _ _ b4 (Or.inr (Or.inr ⟨i, hi, rfl⟩))⟩
  · obtain ⟨b1, b2, b3, b4, b5, b6, b7, b8⟩ := h3 k hk
    have g := F.obT b1 (by decide) (ho _ _ b1 (by decide) (by decide) (by decide) (by decide) (by decide))
    have g6 := F.obT b7 (by decide) (ho _ _ b7 (by decide) (by decide) (by decide) (by decide) (by decide))
    have g7 := F.obT b8 (by decide) (ho _ _ b8 (by decide) (by decide) (by decide) (by decide) (by decide))
    exact ⟨g.1, (g.2.2 65 (n70 (by decide))).trans b2, (g.2.2 68 (n70 (by decide))).trans b3, (g.2.2 69 (n70 (by decide))).trans b4, (g.2.2 70 (fun _ => hT k hk)).trans b5, (g.2.1 64).trans b6, g6.1, g7.1⟩
def VAL (G : Nat → Nat → Nat) (E : eT) (S : sT) (Y : yT) : Prop := ∀ c : Nat, c < 75 → c_v c = true → ∀ k : Nat, k < c_len E c → s_I S (c_g c) (G (c_f c) k) = Y c k
theorem HS_kind (h : HS G E S) {c : Nat} (hc : c < 75) (hv : c_v c = true) (hk : k < c_len E c) : ∃ d, s_K S (G (c_f c) k) = d ∧ d ≠ 0 ∧ d ≠ 1 ∧ d ≠ 12 ∧ d ≠ 10 ∧ d ≠ 11 := by
  obtain ⟨⟨a1, a2, a3, a4, a5, a6, a7⟩, h2, h3⟩ := h
  unfold c_len at hk
  by_cases c1 : c < 32
  · rw [if_pos c1] at hk
    obtain ⟨b1, b2, b3, b4, b5, b6, b7, b8⟩ := h3 k hk
    rcases c_fk c hc hv c1 with e | e | e <;> rw [e]
    · exact ⟨3, b1, by decide, by decide, by decide, by decide, by decide⟩
    · exact ⟨6, b7, by decide, by decide, by decide, by decide, by decide⟩
    · exact ⟨2, b8, by decide, by decide, by decide, by decide, by decide⟩
  · rw [if_neg c1] at hk
    by_cases c2 : c < 64
    · rw [if_pos c2] at hk
      rw [c_fl c hc hv (by omega) c2]
      exact ⟨7, (h2 k hk).1, by decide, by decide, by decide, by decide, by decide⟩
    · rw [if_neg c2] at hk
      obtain rfl : k = 0 := by omega
      rcases c_f0 c hc hv (by omega) with e | e <;> rw [e]
      · exact ⟨4, a1, by decide, by decide, by decide, by decide, by decide⟩
      · exact ⟨5, a5, by decide, by decide, by decide, by decide, by decide⟩
theorem VAL_keep (h : HS G E S) (hV : VAL G E S Y) (F : FRM D T S S') (ho : oD D S) : VAL G E S' Y := fun c hc hv k hk => by
  obtain ⟨d, hd, h0, h1, h2, h4, h5⟩ := HS_kind h hc hv hk
  exact ((F.obT hd h0 (ho _ _ hd h0 h1 h2 h4 h5)).2.1 _).trans (hV c hc hv k hk)
/-- the addresses with one more society -/
def gS (G : Nat → Nat → Nat) (n q l : Nat) : Nat → Nat → Nat := fun f k => if k = n then (if f = 4 then q else if f = 8 then l else G f k) else G f k
theorem gS_o (h4 : x ≠ 4) (h8 : x ≠ 8) : gS G n q l x = G x := by
  funext k
  unfold gS
  by_cases z : k = n
  · rw [if_pos z, if_neg h4, if_neg h8]
  · rw [if_neg z]
theorem gS_4 : gS G n q l 4 = fun j => if j = n then q else G 4 j := by
  funext k
  unfold gS
  by_cases z : k = n
  · rw [if_pos z, if_pos rfl, if_pos z]
  · rw [if_neg z, if_neg z]
theorem gS_n (h : k ≠ n) : gS G n q l x k = G x k := if_neg h
theorem gS_q : gS G n q l 4 n = q := by unfold gS; rw [if_pos rfl, if_pos rfl]
theorem gS_l : gS G n q l 8 n = l := by unfold gS; rw [if_pos rfl, if_neg (by decide), if_pos rfl]
/-- the numbers with one more society -/
def zS (n : Nat) (v : Nat → Int32) (Y : yT) : yT := fun c k => if 32 ≤ c ∧ c < 64 ∧ k = n then v (c_g c) else Y c k
theorem mem_nil (h : ∀ k, k < E.2.1 → E.2.2 k < x) : ce_mem E x = [] := by
  unfold ce_mem
  refine List.filter_eq_nil_iff.mpr (fun k hk z => ?_)
  have := h k (List.mem_range.mp hk)
  have e := eq_of_beq z
  omega
theorem HS_soc (h : HS G E S) (hA : AL S) (hE : ∀ k, k < E.2.1 → E.2.2 k < E.1) (F : FRM (ls_D S (G 1 0)) no_ S S') (kq : s_K S' q = 7) (rq : s_R S' 195 q = some l) (Lq : LST S' l 0 f) (vq : s_I S' 192 q = nI E.1) (L1 : LST S' (G 1 0) (E.1 + 1) (fun j => if j = E.1 then q else G 4 j)) (h12 : G 2 0 ≠ G 1 0) (h18 : ∀ i, i < E.1 → G 8 i ≠ G 1 0) : HS (gS G E.1 q l) (E.1 + 1, E.2.1, E.2.2) S' := by
  obtain ⟨⟨a1, a2, a3, a4, a5, a6, a7⟩, h2, h3⟩ := h
  have ha := a6.1
  have g0 := F.ob a1 (by decide) (ls_Dk hA ha a1 (by decide) (by decide) (by decide))
  have g3 := F.ob a5 (by decide) (ls_Dk hA ha a5 (by decide) (by decide) (by decide))
  refine ⟨?_, fun i hi => ?_, fun k hk => ?_⟩
  · rw [gS_4]
    simp only [gS_o (show (0 : Nat) ≠ 4 by decide) (show (0 : Nat) ≠ 8 by decide), gS_o (show (1 : Nat) ≠ 4 by decide) (show (1 : Nat) ≠ 8 by decide), gS_o (show (2 : Nat) ≠ 4 by decide) (show (2 : Nat) ≠ 8 by decide), gS_o (show (3 : Nat) ≠ 4 by decide) (show (3 : Nat) ≠ 8 by decide), gS_o (show (5 : Nat) ≠ 4 by decide) (show (5 : Nat) ≠ 8 by decide)]
    exact ⟨g0.1, (g0.2.2 96).trans a2, (g0.2.2 97).trans a3, (g0.2.2 98).trans a4, g3.1, L1, LST_ls hA ha a7 F h12⟩
  · rw [gS_o (show (5 : Nat) ≠ 4 by decide) (show (5 : Nat) ≠ 8 by decide)]
    by_cases z : i = E.1
    · subst z
      rw [gS_q, gS_l]
      refine ⟨kq, rq, vq, ?_⟩
      rw [show ce_mem (E.1 + 1, E.2.1, E.2.2) E.1 = [] from mem_nil hE]
      obtain ⟨c1, c2, c3, b, c4, c5⟩ := Lq
      refine ⟨c1, c2, c3, b, c4, ?_⟩
      rcases c5 with c5 | ⟨c5, c6, c7⟩
      · exact Or.inl c5
      · exact Or.inr ⟨c5, c6, fun j hj => absurd hj (Nat.not_lt_zero j)⟩
    · have hi2 : i < E.1 := by have : i < E.1 + 1 := hi; omega
      obtain ⟨b1, b2, b3, b4⟩ := h2 i hi2
      have g := F.ob b1 (by decide) (ls_Dk hA ha b1 (by decide) (by decide) (by decide))
      rw [gS_n z, gS_n z]
      exact ⟨g.1, (g.2.2 195).trans b2, (g.2.1 192).trans b3, LST_ls hA ha b4 F (h18 i hi2)⟩
  · obtain ⟨b1, b2, b3, b4, b5, b6, b7, b8⟩ := h3 k hk
    have g := F.ob b1 (by decide) (ls_Dk hA ha b1 (by decide) (by decide) (by decide))
    have g6 := F.ob b7 (by decide) (ls_Dk hA ha b7 (by decide) (by decide) (by decide))
    have g7 := F.ob b8 (by decide) (ls_Dk hA ha b8 (by decide) (by decide) (by decide))
    have hne : E.2.2 k ≠ E.1 := by have := hE k hk; omega
    simp only [gS_o (show (5 : Nat) ≠ 4 by decide) (show (5 : Nat) ≠ 8 by decide), gS_o (show (6 : Nat) ≠ 4 by decide) (show (6 : Nat) ≠ 8 by decide), gS_o (show (7 : Nat) ≠ 4 by decide) (show (7 : Nat) ≠ 8 by decide)]
    rw [gS_n hne]
    exact ⟨g.1, (g.2.2 65).trans b2, (g.2.2 68).trans b3, (g.2.2 69).trans b4, (g.2.2 70).trans b5, (g.2.1 64).trans b6, g6.1, g7.1⟩
theorem VAL_soc {v : Nat → Int32} (h : HS G E S) (hA : AL S) (hV : VAL G E S Y) (F : FRM (ls_D S (G 1 0)) no_ S S') (vq : ∀ g, s_I S' g q = v g) : VAL (gS G E.1 q l) (E.1 + 1, E.2.1, E.2.2) S' (zS E.1 v Y) := fun c hc hv k hk => by
  have hV' := VAL_keep h hV F (oD_ls hA h.1.2.2.2.2.2.1.1)
  by_cases z : 32 ≤ c ∧ c < 64
  · have ef := c_fl c hc hv z.1 z.2
    by_cases y : k = E.1
    · subst y
      rw [ef, gS_q, vq]
      exact (if_pos ⟨z.1, z.2, rfl⟩).symm
    · rw [gS_n y]
      refine (hV' c hc hv k ?_).trans (if_neg (fun w => y w.2.2)).symm
      unfold c_len at hk ⊢
      rw [if_neg (by omega), if_pos z.2] at hk ⊢
      have : k < E.1 + 1 := hk
      omega
  · have h4 : c_f c ≠ 4 ∧ c_f c ≠ 8 := by
      by_cases c1 : c < 32
      · rcases c_fk c hc hv c1 with e | e | e <;> rw [e] <;> decide
      · rcases c_f0 c hc hv (by omega) with e | e <;> rw [e] <;> decide
    rw [gS_o h4.1 h4.2]
    refine (hV' c hc hv k ?_).trans (if_neg (fun w => z ⟨w.1, w.2.1⟩)).symm
    unfold c_len at hk ⊢
    by_cases c1 : c < 32
    · rw [if_pos c1] at hk ⊢; exact hk
    · rw [if_neg c1, if_neg (by omega)] at hk ⊢; exact hk
/-- the class's side when only the model itself is touched -/
def mD (D : Nat → Prop) (S : sT) : Prop := ∀ y, s_K S y ≠ 0 → D y → s_K S y = 10 ∨ s_K S y = 11
theorem CC_keepM {H : Nat → Nat → Nat → Nat} {Z : zT} (hC : CC H E S Z) (F : FRM D no_ S S') (hD : mD D S) : CC H E S' Z := by
  have ho : oD D S := fun y c h h0 _ _ h10 h11 z => (hD y (by rw [h]; exact h0) z).elim (fun e => h10 (h.symm.trans e)) (fun e => h11 (h.symm.trans e))
  have hl : ∀ a n f, LST S a n f → LST S' a n f := fun a n f L => LST_F L F (fun z => by have := hD a (by rw [L.1]; decide) z; rw [L.1] at this; rcases this with w | w <;> cases w) (fun b _ hb z => by have := hD b (by rw [hb]; decide) z; rw [hb] at this; rcases this with w | w <;> cases w)
  obtain ⟨⟨h1, ⟨m1, m2, m3⟩, hh⟩, hI, hV⟩ := hC
  have mm := F.ob m1 (by decide) (ho _ _ m1 (by decide) (by decide) (by decide) (by decide) (by decide))
  exact ⟨⟨h1, ⟨mm.1, (mm.2.2 224).trans m2, (mm.2.2 225).trans m3⟩, fun w hw => HS_keep (hh w hw) F ho (fun a n f L _ => hl a n f L) (fun _ _ z => z)⟩, hI, fun w hw => VAL_keep (hh w hw) (hV w hw) F ho⟩
theorem OK_keepM {H : Nat → Nat → Nat → Nat} {x3 x4 : Nat} (h : OK x3 x4 H E S) (F : FRM D no_ S S') (hD : mD D S) (hA : AL S → AL S') : OK x3 x4 H E S' := by
  obtain ⟨h1, h2, h3, h4, h5, h6⟩ := h
  have g3 := F.ar h2 (by decide) (fun z => by have := hD x3 (by rw [h2]; decide) z; rw [h2] at this; rcases this with w | w <;> cases w)
  have g4 := F.ar h4 (by decide) (fun z => by have := hD x4 (by rw [h4]; decide) z; rw [h4] at this; rcases this with w | w <;> cases w)
  exact ⟨hA h1, g3.1, g3.2.1.trans h3, g4.1, g4.2.1.trans h5, h6⟩
theorem G_keepM {x3 : Nat} {j : Int64} (hk : s_K S x3 = 14) (h : s_G S x3 0 = j) (F : FRM D no_ S S') (hD : mD D S) : s_G S' x3 0 = j := by
  obtain ⟨-, h2⟩ := F.2 x3 (by rw [hk]; decide)
  exact ((h2 (fun z => by have := hD x3 (by rw [hk]; decide) z; rw [hk] at this; rcases this with w | w <;> cases w)).2.2.2.2.2.1 0).trans h
end
