/-! ===== the law's helpers: the answers ===== -/
theorem RESA_mono {x2 : Nat} {E : eT} {n m : Nat} {X : Nat → Nat → Nat} {Z : zT} {N : yT} {cl : (Int32 → zT → Prop) → Prop} {clT : (String → zT → Prop) → Prop} {wR : sT → (Int32 → sT → Prop) → Prop} {exs : List String} (h : RESA x2 E n X Z N cl clT wR exs) (hn : n ≤ m) : RESA x2 E m X Z N cl clT wR exs := by
  rcases h with ⟨v, Z', N', h1, h2, h3, h4⟩ | ⟨c, ex, u, N', h0, h1, h2, h3, h4⟩
  · exact Or.inl ⟨v, Z', N', h1, h2, h3, LJ_mono h4 hn⟩
  · exact Or.inr ⟨c, ex, u, N', h0, h1, h2, h3, LJ_mono h4 hn⟩
section
variable {x1 x2 x3 x4 : Nat} {E : eT} {n : Nat} {S : sT} {a b d : Int32} {Q : Int32 → sT → Prop}
theorem L_ofOwner (hW : LW x1 x2 x3 x4 E n S) (hQ : ∀ r S1, AFT x1 x2 x3 x4 E (n + 1) Int32.toInt64 (wA_X8_ofOwner 1 4 x2 a b) r S1 → Q r S1) : wA_L_ofOwner 1 6 x1 a b x3 S Q := by
  have hK := LW_K1 hW
  obtain ⟨H, X, Z, N, e1, e2, hX, hI⟩ := hW
  have hL := HLP_mkA (wC := w_X6_ofOwner x1 a b S) (wT := wT_X6_ofOwner x1 a b S) (wR := wA_X8_ofOwner 1 4 x2 a b) Int32.toInt64 e1 e2 hX (by decide) (RESA_mono (m_ofOwner (x1 := a) (x2 := b) e2 hI) (Nat.le_succ n))
    (fun P Q Q' hs hq hc hp h => by rw [e1]; exact u_X6_ofOwner hs hq hc hp h)
    (fun P Q Q' hs hq hc hp h => by rw [e1]; exact uT_X6_ofOwner hs hq hc hp h)
  unfold wA_L_ofOwner wA_L_ofOwner_b0
  refine ⟨hK, ?_⟩
  rcases hL with ⟨v, h⟩ | ⟨c, ex, hc, h⟩
  · exact Or.inl (h _ (fun S1 h3 hn1 hA => fun j ej => ⟨h3, vp_in01 hn1, fun S2 e4 => by subst ej e4; exact hQ _ _ hA⟩))
  · exact Or.inr ⟨Nat.le_refl _, Nat.le_refl _, h _ (fun S1 hA => ex2 xIA hc (hQ _ _ hA))⟩
theorem L_ofSociety (hW : LW x1 x2 x3 x4 E n S) (hQ : ∀ r S1, AFT x1 x2 x3 x4 E (n + 1) Int32.toInt64 (wA_X8_ofSociety 1 9 x2 a b) r S1 → Q r S1) : wA_L_ofSociety 1 6 x1 a b x3 S Q := by
  have hK := LW_K1 hW
  obtain ⟨H, X, Z, N, e1, e2, hX, hI⟩ := hW
  have hL := HLP_mkA (wC := w_X6_ofSociety x1 a b S) (wT := wT_X6_ofSociety x1 a b S) (wR := wA_X8_ofSociety 1 9 x2 a b) Int32.toInt64 e1 e2 hX (by decide) (RESA_mono (m_ofSociety (x1 := a) (x2 := b) e2 hI) (Nat.le_succ n))
    (fun P Q Q' hs hq hc hp h => by rw [e1]; exact u_X6_ofSociety hs hq hc hp h)
    (fun P Q Q' hs hq hc hp h => by rw [e1]; exact uT_X6_ofSociety hs hq hc hp h)
  unfold wA_L_ofSociety wA_L_ofSociety_b0
  refine ⟨hK, ?_⟩
  rcases hL with ⟨v, h⟩ | ⟨c, ex, hc, h⟩
  · exact Or.inl (h _ (fun S1 h3 hn1 hA => fun j ej => ⟨h3, vp_in01 hn1, fun S2 e4 => by subst ej e4; exact hQ _ _ hA⟩))
  · exact Or.inr ⟨Nat.le_refl _, Nat.le_refl _, h _ (fun S1 hA => ex2 xIA hc (hQ _ _ hA))⟩
theorem L_water (hW : LW x1 x2 x3 x4 E n S) (hQ : ∀ r S1, AFT x1 x2 x3 x4 E (n + 1) Int32.toInt64 (wA_X8_water 1 7 x2 a) r S1 → Q r S1) : wA_L_water 1 6 x1 a x3 S Q := by
  have hK := LW_K1 hW
  obtain ⟨H, X, Z, N, e1, e2, hX, hI⟩ := hW
  have hL := HLP_mkA (wC := w_X6_water x1 a S) (wT := wT_X6_water x1 a S) (wR := wA_X8_water 1 7 x2 a) Int32.toInt64 e1 e2 hX (by decide) (RESA_mono (m_water (x1 := a) e2 hI) (Nat.le_succ n))
    (fun P Q Q' hs hq hc hp h => by rw [e1]; exact u_X6_water hs hq hc hp h)
    (fun P Q Q' hs hq hc hp h => by rw [e1]; exact uT_X6_water hs hq hc hp h)
  unfold wA_L_water wA_L_water_b0
  refine ⟨hK, ?_⟩
  rcases hL with ⟨v, h⟩ | ⟨c, ex, hc, h⟩
  · exact Or.inl (h _ (fun S1 h3 hn1 hA => fun j ej => ⟨h3, vp_in01 hn1, fun S2 e4 => by subst ej e4; exact hQ _ _ hA⟩))
  · exact Or.inr ⟨Nat.le_refl _, Nat.le_refl _, h _ (fun S1 hA => ex1 hc (hQ _ _ hA))⟩
theorem L_many (hW : LW x1 x2 x3 x4 E n S) (hQ : ∀ r S1, AFT x1 x2 x3 x4 E (n + 1) Int32.toInt64 (wA_X8_many 1 12 x2 a) r S1 → Q r S1) : wA_L_many 1 6 x1 a x3 S Q := by
  have hK := LW_K1 hW
  obtain ⟨H, X, Z, N, e1, e2, hX, hI⟩ := hW
  have hL := HLP_mkA (wC := w_X6_many x1 a S) (wT := wT_X6_many x1 a S) (wR := wA_X8_many 1 12 x2 a) Int32.toInt64 e1 e2 hX (by decide) (RESA_mono (m_many (x1 := a) e2 hI) (Nat.le_succ n))
    (fun P Q Q' hs hq hc hp h => by rw [e1]; exact u_X6_many hs hq hc hp h)
    (fun P Q Q' hs hq hc hp h => by rw [e1]; exact uT_X6_many hs hq hc hp h)
  unfold wA_L_many wA_L_many_b0
  refine ⟨hK, ?_⟩
  rcases hL with ⟨v, h⟩ | ⟨c, ex, hc, h⟩
  · exact Or.inl (h _ (fun S1 h3 hn1 hA => fun j ej => ⟨h3, vp_in01 hn1, fun S2 e4 => by subst ej e4; exact hQ _ _ hA⟩))
  · exact Or.inr ⟨Nat.le_refl _, Nat.le_refl _, h _ (fun S1 hA => ex1 hc (hQ _ _ hA))⟩
end
