/-! ===== the law's helpers: the calls that make nothing new ===== -/
theorem RES_mono {E : eT} {n m : Nat} {Z : zT} {N : yT} {cl : (Int32 → zT → Prop) → Prop} {clT : (String → zT → Prop) → Prop} {rf : (Int32 → yT → Prop) → Prop} {exs : List String} (h : RES E n Z N cl clT rf exs) (hn : n ≤ m) : RES E m Z N cl clT rf exs := by
  rcases h with ⟨v, Z', N', h1, h2, h3, h4⟩ | ⟨c, ex, u, N', h0, h1, h2, h3, h4⟩
  · exact Or.inl ⟨v, Z', N', h1, h2, h3, LJ_mono h4 hn⟩
  · exact Or.inr ⟨c, ex, u, N', h0, h1, h2, h3, LJ_mono h4 hn⟩
theorem ex1 {a ex : String} {c : Nat} {S1 : sT} {Q : Int32 → sT → Prop} (hc : [a][c]? = some ex) (h : Q (nI (c + 1)) S1) : (ex = a → Q (1 : Int32) S1) ∧ ex = a := by
  rcases c with _ | c
  · obtain rfl := Option.some.inj hc
    exact ⟨fun _ => h, rfl⟩
  · exact absurd hc (by simp)
theorem ex2 {a b ex : String} {c : Nat} {S1 : sT} {Q : Int32 → sT → Prop} (hab : a ≠ b) (hc : [a, b][c]? = some ex) (h : Q (nI (c + 1)) S1) : (ex = a → Q (1 : Int32) S1) ∧ (ex = b → Q (2 : Int32) S1) ∧ (ex = a ∨ ex = b) := by
  rcases c with _ | _ | c
  · obtain rfl := Option.some.inj hc
    exact ⟨fun _ => h, fun z => absurd z hab, Or.inl rfl⟩
  · obtain rfl := Option.some.inj hc
    exact ⟨fun z => absurd z.symm hab, fun _ => h, Or.inr rfl⟩
  · exact absurd hc (by simp)
theorem ex3 {a b d ex : String} {c : Nat} {S1 : sT} {Q : Int32 → sT → Prop} (hab : a ≠ b) (had : a ≠ d) (hbd : b ≠ d) (hc : [a, b, d][c]? = some ex) (h : Q (nI (c + 1)) S1) : (ex = a → Q (1 : Int32) S1) ∧ (ex = b → Q (2 : Int32) S1) ∧ (ex = d → Q (3 : Int32) S1) ∧ (ex = a ∨ ex = b ∨ ex = d) := by
  rcases c with _ | _ | _ | c
  · obtain rfl := Option.some.inj hc
    exact ⟨fun _ => h, fun z => absurd z hab, fun z => absurd z had, Or.inl rfl⟩
  · obtain rfl := Option.some.inj hc
    exact ⟨fun z => absurd z.symm hab, fun _ => h, fun z => absurd z hbd, Or.inr (Or.inl rfl)⟩
  · obtain rfl := Option.some.inj hc
    exact ⟨fun z => absurd z.symm had, fun z => absurd z.symm hbd, fun _ => h, Or.inr (Or.inr rfl)⟩
  · exact absurd hc (by simp)
theorem xIA : xI ≠ xA := by decide
theorem xIS : xI ≠ xS := by decide
theorem xAS : xA ≠ xS := by decide
/-- the cell of a yes or no -/
def b64 (v : Int32) : Int64 := if v = 0 then 0 else 1
section
variable {x1 x2 x3 x4 : Nat} {E : eT} {n : Nat} {S : sT} {a b d : Int32} {Q : Int32 → sT → Prop}
theorem LW_mono {m : Nat} (h : LW x1 x2 x3 x4 E n S) (hn : n ≤ m) : LW x1 x2 x3 x4 E m S := by
  obtain ⟨H, X, Z, N, e1, e2, hX, hI⟩ := h
  exact ⟨H, X, Z, N, e1, e2, hX, LJ_mono hI hn⟩
theorem LW_K1 (h : LW x1 x2 x3 x4 E n S) : s_K S x1 = 8 := by
  obtain ⟨H, X, Z, N, e1, e2, hX, hI⟩ := h
  rw [e1]
  exact hX.1.1.2.1.1
theorem L_gate (hW : LW x1 x2 x3 x4 E n S) (hb : b = 0 ∨ b = 1) (hQ : ∀ r S1, AFT x1 x2 x3 x4 E (n + 1) b64 (w_X8_gate x2 a b) r S1 → Q r S1) : wA_L_gate 1 6 x1 a b x3 S Q := by
  have hK := LW_K1 hW
  obtain ⟨H, X, Z, N, e1, e2, hX, hI⟩ := hW
  have hL := HLP_mk (wC := w_X6_gate x1 a b S) (wT := wT_X6_gate x1 a b S) (wR := w_X8_gate x2 a b) b64 e1 e2 hX (by decide) (RES_mono (m_gate (F := fF E) (x1 := a) (x2 := b) hI rfl hb) (Nat.le_succ n))
    (fun P Q Q' hs hq hc hp h => by rw [e1]; exact u_X6_gate hs hq hc hp h)
    (fun P Q Q' hs hq hc hp h => by rw [e1]; exact uT_X6_gate hs hq hc hp h)
    (fun S P Q Q' hs hq hc hp h => by rw [e2]; exact u_X8_gate hs trivial hq hc hp h)
  unfold wA_L_gate wA_L_gate_b0
  refine ⟨hK, ?_⟩
  rcases hL with ⟨v, h⟩ | ⟨c, ex, hc, h⟩
  · refine Or.inl (h _ (fun S1 h3 hn1 hA => ⟨fun z => ?_, fun z => ?_⟩))
    · unfold wA_L_gate_b16; exact ⟨h3, vp_in01 hn1, fun S2 e4 => by rw [show b64 v = 0 from if_pos z] at hA; subst e4; exact hQ _ _ hA⟩
    · unfold wA_L_gate_b16; exact ⟨h3, vp_in01 hn1, fun S2 e4 => by rw [show b64 v = 1 from if_neg z] at hA; subst e4; exact hQ _ _ hA⟩
  · exact Or.inr ⟨Nat.le_refl _, Nat.le_refl _, h _ (fun S1 hA => ex1 hc (hQ _ _ hA))⟩
theorem L_stones (hW : LW x1 x2 x3 x4 E n S) (hQ : ∀ r S1, AFT x1 x2 x3 x4 E (n + 1) Int32.toInt64 (w_X8_stones x2 a b) r S1 → Q r S1) : wA_L_stones 1 6 x1 a b x3 S Q := by
  have hK := LW_K1 hW
  obtain ⟨H, X, Z, N, e1, e2, hX, hI⟩ := hW
  have hL := HLP_mk (wC := w_X6_stones x1 a b S) (wT := wT_X6_stones x1 a b S) (wR := w_X8_stones x2 a b) Int32.toInt64 e1 e2 hX (by decide) (RES_mono (m_stones (F := fF E) (x1 := a) (x2 := b) hI rfl) (Nat.le_succ n))
    (fun P Q Q' hs hq hc hp h => by rw [e1]; exact u_X6_stones hs hq hc hp h)
    (fun P Q Q' hs hq hc hp h => by rw [e1]; exact uT_X6_stones hs hq hc hp h)
    (fun S P Q Q' hs hq hc hp h => by rw [e2]; exact u_X8_stones hs trivial hq hc hp h)
  unfold wA_L_stones wA_L_stones_b0
  refine ⟨hK, ?_⟩
  rcases hL with ⟨v, h⟩ | ⟨c, ex, hc, h⟩
  · exact Or.inl (h _ (fun S1 h3 hn1 hA => fun j ej => ⟨h3, vp_in01 hn1, fun S2 e4 => by subst ej e4; exact hQ _ _ hA⟩))
  · exact Or.inr ⟨Nat.le_refl _, Nat.le_refl _, h _ (fun S1 hA => ex2 xIA hc (hQ _ _ hA))⟩
theorem L_rotate (hW : LW x1 x2 x3 x4 E n S) (hb : b = 0 ∨ b = 1) (hQ : ∀ r S1, AFT x1 x2 x3 x4 E (n + 1) b64 (w_X8_rotate x2 a b) r S1 → Q r S1) : wA_L_rotate 1 6 x1 a b x3 S Q := by
  have hK := LW_K1 hW
  obtain ⟨H, X, Z, N, e1, e2, hX, hI⟩ := hW
  have hL := HLP_mk (wC := w_X6_rotate x1 a b S) (wT := wT_X6_rotate x1 a b S) (wR := w_X8_rotate x2 a b) b64 e1 e2 hX (by decide) (RES_mono (m_rotate (F := fF E) (x1 := a) (x2 := b) hI rfl hb) (Nat.le_succ n))
    (fun P Q Q' hs hq hc hp h => by rw [e1]; exact u_X6_rotate hs hq hc hp h)
    (fun P Q Q' hs hq hc hp h => by rw [e1]; exact uT_X6_rotate hs hq hc hp h)
    (fun S P Q Q' hs hq hc hp h => by rw [e2]; exact u_X8_rotate hs trivial hq hc hp h)
  unfold wA_L_rotate wA_L_rotate_b0
  refine ⟨hK, ?_⟩
  rcases hL with ⟨v, h⟩ | ⟨c, ex, hc, h⟩
  · refine Or.inl (h _ (fun S1 h3 hn1 hA => ⟨fun z => ?_, fun z => ?_⟩))
    · unfold wA_L_rotate_b16; exact ⟨h3, vp_in01 hn1, fun S2 e4 => by rw [show b64 v = 0 from if_pos z] at hA; subst e4; exact hQ _ _ hA⟩
    · unfold wA_L_rotate_b16; exact ⟨h3, vp_in01 hn1, fun S2 e4 => by rw [show b64 v = 1 from if_neg z] at hA; subst e4; exact hQ _ _ hA⟩
  · exact Or.inr ⟨Nat.le_refl _, Nat.le_refl _, h _ (fun S1 hA => ex1 hc (hQ _ _ hA))⟩
theorem L_puddle (hW : LW x1 x2 x3 x4 E n S) (hQ : ∀ r S1, AFT x1 x2 x3 x4 E (n + 1) Int32.toInt64 (w_X8_puddle x2 a) r S1 → Q r S1) : wA_L_puddle 1 6 x1 a x3 S Q := by
  have hK := LW_K1 hW
  obtain ⟨H, X, Z, N, e1, e2, hX, hI⟩ := hW
  have hL := HLP_mk (wC := w_X6_puddle x1 a S) (wT := wT_X6_puddle x1 a S) (wR := w_X8_puddle x2 a) Int32.toInt64 e1 e2 hX (by decide) (RES_mono (m_puddle (F := fF E) (x1 := a) hI rfl) (Nat.le_succ n))
    (fun P Q Q' hs hq hc hp h => by rw [e1]; exact u_X6_puddle hs hq hc hp h)
    (fun P Q Q' hs hq hc hp h => by rw [e1]; exact uT_X6_puddle hs hq hc hp h)
    (fun S P Q Q' hs hq hc hp h => by rw [e2]; exact u_X8_puddle hs trivial hq hc hp h)
  unfold wA_L_puddle wA_L_puddle_b0
  refine ⟨hK, ?_⟩
  rcases hL with ⟨v, h⟩ | ⟨c, ex, hc, h⟩
  · exact Or.inl (h _ (fun S1 h3 hn1 hA => fun j ej => ⟨h3, vp_in01 hn1, fun S2 e4 => by subst ej e4; exact hQ _ _ hA⟩))
  · exact Or.inr ⟨Nat.le_refl _, Nat.le_refl _, h _ (fun S1 hA => ex2 xIS hc (hQ _ _ hA))⟩
theorem L_plant (hW : LW x1 x2 x3 x4 E n S) (hQ : ∀ r S1, AFT x1 x2 x3 x4 E (n + 1) Int32.toInt64 (w_X8_plant x2 a b) r S1 → Q r S1) : wA_L_plant 1 6 x1 a b x3 S Q := by
  have hK := LW_K1 hW
  obtain ⟨H, X, Z, N, e1, e2, hX, hI⟩ := hW
  have hL := HLP_mk (wC := w_X6_plant x1 a b S) (wT := wT_X6_plant x1 a b S) (wR := w_X8_plant x2 a b) Int32.toInt64 e1 e2 hX (by decide) (RES_mono (m_plant (F := fF E) (x1 := a) (x2 := b) hI rfl) (Nat.le_succ n))
    (fun P Q Q' hs hq hc hp h => by rw [e1]; exact u_X6_plant hs hq hc hp h)
    (fun P Q Q' hs hq hc hp h => by rw [e1]; exact uT_X6_plant hs hq hc hp h)
    (fun S P Q Q' hs hq hc hp h => by rw [e2]; exact u_X8_plant hs trivial hq hc hp h)
  unfold wA_L_plant wA_L_plant_b0
  refine ⟨hK, ?_⟩
  rcases hL with ⟨v, h⟩ | ⟨c, ex, hc, h⟩
  · exact Or.inl (h _ (fun S1 h3 hn1 hA => fun j ej => ⟨h3, vp_in01 hn1, fun S2 e4 => by subst ej e4; exact hQ _ _ hA⟩))
  · exact Or.inr ⟨Nat.le_refl _, Nat.le_refl _, h _ (fun S1 hA => ex3 xIA xIS xAS hc (hQ _ _ hA))⟩
theorem L_help (hW : LW x1 x2 x3 x4 E n S) (hQ : ∀ r S1, AFT x1 x2 x3 x4 E (n + 1) Int32.toInt64 (w_X8_help x2 a b) r S1 → Q r S1) : wA_L_help 1 6 x1 a b x3 S Q := by
  have hK := LW_K1 hW
  obtain ⟨H, X, Z, N, e1, e2, hX, hI⟩ := hW
  have hL := HLP_mk (wC := w_X6_help x1 a b S) (wT := wT_X6_help x1 a b S) (wR := w_X8_help x2 a b) Int32.toInt64 e1 e2 hX (by decide) (RES_mono (m_help (F := fF E) (x1 := a) (x2 := b) hI rfl) (Nat.le_succ n))
    (fun P Q Q' hs hq hc hp h => by rw [e1]; exact u_X6_help hs hq hc hp h)
    (fun P Q Q' hs hq hc hp h => by rw [e1]; exact uT_X6_help hs hq hc hp h)
    (fun S P Q Q' hs hq hc hp h => by rw [e2]; exact u_X8_help hs trivial hq hc hp h)
  unfold wA_L_help wA_L_help_b0
  refine ⟨hK, ?_⟩
  rcases hL with ⟨v, h⟩ | ⟨c, ex, hc, h⟩
  · exact Or.inl (h _ (fun S1 h3 hn1 hA => fun j ej => ⟨h3, vp_in01 hn1, fun S2 e4 => by subst ej e4; exact hQ _ _ hA⟩))
  · exact Or.inr ⟨Nat.le_refl _, Nat.le_refl _, h _ (fun S1 hA => ex1 hc (hQ _ _ hA))⟩
theorem L_ducks (hW : LW x1 x2 x3 x4 E n S) (hb : b = 0 ∨ b = 1) (hQ : ∀ r S1, AFT x1 x2 x3 x4 E (n + 1) Int32.toInt64 (w_X8_ducks x2 a b) r S1 → Q r S1) : wA_L_ducks 1 6 x1 a b x3 S Q := by
  have hK := LW_K1 hW
  obtain ⟨H, X, Z, N, e1, e2, hX, hI⟩ := hW
  have hL := HLP_mk (wC := w_X6_ducks x1 a b S) (wT := wT_X6_ducks x1 a b S) (wR := w_X8_ducks x2 a b) Int32.toInt64 e1 e2 hX (by decide) (RES_mono (m_ducks (F := fF E) (x1 := a) (x2 := b) hI rfl hb) (Nat.le_succ n))
    (fun P Q Q' hs hq hc hp h => by rw [e1]; exact u_X6_ducks hs hq hc hp h)
    (fun P Q Q' hs hq hc hp h => by rw [e1]; exact uT_X6_ducks hs hq hc hp h)
    (fun S P Q Q' hs hq hc hp h => by rw [e2]; exact u_X8_ducks hs trivial hq hc hp h)
  unfold wA_L_ducks wA_L_ducks_b0
  refine ⟨hK, ?_⟩
  rcases hL with ⟨v, h⟩ | ⟨c, ex, hc, h⟩
  · exact Or.inl (h _ (fun S1 h3 hn1 hA => fun j ej => ⟨h3, vp_in01 hn1, fun S2 e4 => by subst ej e4; exact hQ _ _ hA⟩))
  · exact Or.inr ⟨Nat.le_refl _, Nat.le_refl _, h _ (fun S1 hA => ex1 hc (hQ _ _ hA))⟩
theorem L_harvest (hW : LW x1 x2 x3 x4 E n S) (hb : b = 0 ∨ b = 1) (hQ : ∀ r S1, AFT x1 x2 x3 x4 E (n + 1) Int32.toInt64 (w_X8_harvest x2 a b) r S1 → Q r S1) : wA_L_harvest 1 6 x1 a b x3 S Q := by
  have hK := LW_K1 hW
  obtain ⟨H, X, Z, N, e1, e2, hX, hI⟩ := hW
  have hL := HLP_mk (wC := w_X6_harvest x1 a b S) (wT := wT_X6_harvest x1 a b S) (wR := w_X8_harvest x2 a b) Int32.toInt64 e1 e2 hX (by decide) (RES_mono (m_harvest (F := fF E) (x1 := a) (x2 := b) hI rfl rfl hb) (Nat.le_succ n))
    (fun P Q Q' hs hq hc hp h => by rw [e1]; exact u_X6_harvest hs hq hc hp h)
    (fun P Q Q' hs hq hc hp h => by rw [e1]; exact uT_X6_harvest hs hq hc hp h)
    (fun S P Q Q' hs hq hc hp h => by rw [e2]; exact u_X8_harvest hs trivial hq hc hp h)
  unfold wA_L_harvest wA_L_harvest_b0
  refine ⟨hK, ?_⟩
  rcases hL with ⟨v, h⟩ | ⟨c, ex, hc, h⟩
  · exact Or.inl (h _ (fun S1 h3 hn1 hA => fun j ej => ⟨h3, vp_in01 hn1, fun S2 e4 => by subst ej e4; exact hQ _ _ hA⟩))
  · exact Or.inr ⟨Nat.le_refl _, Nat.le_refl _, h _ (fun S1 hA => ex2 xIS hc (hQ _ _ hA))⟩
theorem L_cut (hW : LW x1 x2 x3 x4 E n S) (hn : n ≤ 1000) (hQ : ∀ r S1, AFT x1 x2 x3 x4 E (n + 1) Int32.toInt64 (w_X8_cut x2 a) r S1 → Q r S1) : wA_L_cut 1 6 x1 a x3 S Q := by
  have hK := LW_K1 hW
  obtain ⟨H, X, Z, N, e1, e2, hX, hI⟩ := hW
  have hL := HLP_mk (wC := w_X6_cut x1 a S) (wT := wT_X6_cut x1 a S) (wR := w_X8_cut x2 a) Int32.toInt64 e1 e2 hX (by decide) (m_cut (F := fF E) (x1 := a) hI hn rfl)
    (fun P Q Q' hs hq hc hp h => by rw [e1]; exact u_X6_cut hs hq hc hp h)
    (fun P Q Q' hs hq hc hp h => by rw [e1]; exact uT_X6_cut hs hq hc hp h)
    (fun S P Q Q' hs hq hc hp h => by rw [e2]; exact u_X8_cut hs trivial hq hc hp h)
  unfold wA_L_cut wA_L_cut_b0
  refine ⟨hK, ?_⟩
  rcases hL with ⟨v, h⟩ | ⟨c, ex, hc, h⟩
  · exact Or.inl (h _ (fun S1 h3 hn1 hA => fun j ej => ⟨h3, vp_in01 hn1, fun S2 e4 => by subst ej e4; exact hQ _ _ hA⟩))
  · exact Or.inr ⟨Nat.le_refl _, Nat.le_refl _, h _ (fun S1 hA => ex2 xIS hc (hQ _ _ hA))⟩
theorem L_day (hW : LW x1 x2 x3 x4 E n S) (hn : n ≤ 1000) (hQ : ∀ r S1, AFT x1 x2 x3 x4 E (n + 1) Int32.toInt64 (w_X8_day x2 a b d) r S1 → Q r S1) : wA_L_day 1 6 x1 a b d x3 S Q := by
  have hK := LW_K1 hW
  obtain ⟨H, X, Z, N, e1, e2, hX, hI⟩ := hW
  have hL := HLP_mk (wC := w_X6_day x1 a b d S) (wT := wT_X6_day x1 a b d S) (wR := w_X8_day x2 a b d) Int32.toInt64 e1 e2 hX (by decide) (m_day (F := fF E) (x1 := a) (x2 := b) (x3 := d) hI hn rfl rfl)
    (fun P Q Q' hs hq hc hp h => by rw [e1]; exact u_X6_day hs hq hc hp h)
    (fun P Q Q' hs hq hc hp h => by rw [e1]; exact uT_X6_day hs hq hc hp h)
    (fun S P Q Q' hs hq hc hp h => by rw [e2]; exact u_X8_day hs trivial hq hc hp h)
  unfold wA_L_day wA_L_day_b0
  refine ⟨hK, ?_⟩
  rcases hL with ⟨v, h⟩ | ⟨c, ex, hc, h⟩
  · exact Or.inl (h _ (fun S1 h3 hn1 hA => fun j ej => ⟨h3, vp_in01 hn1, fun S2 e4 => by subst ej e4; exact hQ _ _ hA⟩))
  · exact Or.inr ⟨Nat.le_refl _, Nat.le_refl _, h _ (fun S1 hA => ex1 hc (hQ _ _ hA))⟩
theorem L_inspect (hW : LW x1 x2 x3 x4 E n S) (hQ : ∀ r S1, AFT x1 x2 x3 x4 E (n + 1) Int32.toInt64 (w_X8_inspect x2 a) r S1 → Q r S1) : wA_L_inspect 1 6 x1 a x3 S Q := by
  have hK := LW_K1 hW
  obtain ⟨H, X, Z, N, e1, e2, hX, hI⟩ := hW
  have hL := HLP_mk (wC := w_X6_inspect x1 a S) (wT := wT_X6_inspect x1 a S) (wR := w_X8_inspect x2 a) Int32.toInt64 e1 e2 hX (by decide) (RES_mono (m_inspect (F := fF E) (x1 := a) hI rfl rfl) (Nat.le_succ n))
    (fun P Q Q' hs hq hc hp h => by rw [e1]; exact u_X6_inspect hs hq hc hp h)
    (fun P Q Q' hs hq hc hp h => by rw [e1]; exact uT_X6_inspect hs hq hc hp h)
    (fun S P Q Q' hs hq hc hp h => by rw [e2]; exact u_X8_inspect hs trivial hq hc hp h)
  unfold wA_L_inspect wA_L_inspect_b0
  refine ⟨hK, ?_⟩
  rcases hL with ⟨v, h⟩ | ⟨c, ex, hc, h⟩
  · exact Or.inl (h _ (fun S1 h3 hn1 hA => fun j ej => ⟨h3, vp_in01 hn1, fun S2 e4 => by subst ej e4; exact hQ _ _ hA⟩))
  · exact Or.inr ⟨Nat.le_refl _, Nat.le_refl _, h _ (fun S1 hA => ex1 hc (hQ _ _ hA))⟩
theorem L_sell (hW : LW x1 x2 x3 x4 E n S) (hQ : ∀ r S1, AFT x1 x2 x3 x4 E (n + 1) Int32.toInt64 (w_X8_sell x2 a b) r S1 → Q r S1) : wA_L_sell 1 6 x1 a b x3 S Q := by
  have hK := LW_K1 hW
  obtain ⟨H, X, Z, N, e1, e2, hX, hI⟩ := hW
  have hL := HLP_mk (wC := w_X6_sell x1 a b S) (wT := wT_X6_sell x1 a b S) (wR := w_X8_sell x2 a b) Int32.toInt64 e1 e2 hX (by decide) (RES_mono (m_sell (F := fF E) (x1 := a) (x2 := b) hI rfl) (Nat.le_succ n))
    (fun P Q Q' hs hq hc hp h => by rw [e1]; exact u_X6_sell hs hq hc hp h)
    (fun P Q Q' hs hq hc hp h => by rw [e1]; exact uT_X6_sell hs hq hc hp h)
    (fun S P Q Q' hs hq hc hp h => by rw [e2]; exact u_X8_sell hs trivial hq hc hp h)
  unfold wA_L_sell wA_L_sell_b0
  refine ⟨hK, ?_⟩
  rcases hL with ⟨v, h⟩ | ⟨c, ex, hc, h⟩
  · exact Or.inl (h _ (fun S1 h3 hn1 hA => fun j ej => ⟨h3, vp_in01 hn1, fun S2 e4 => by subst ej e4; exact hQ _ _ hA⟩))
  · exact Or.inr ⟨Nat.le_refl _, Nat.le_refl _, h _ (fun S1 hA => ex3 xIA xIS xAS hc (hQ _ _ hA))⟩
theorem L_vote (hW : LW x1 x2 x3 x4 E n S) (hQ : ∀ r S1, AFT x1 x2 x3 x4 E (n + 1) Int32.toInt64 (w_X8_vote x2 a) r S1 → Q r S1) : wA_L_vote 1 6 x1 a x3 S Q := by
  have hK := LW_K1 hW
  obtain ⟨H, X, Z, N, e1, e2, hX, hI⟩ := hW
  have hL := HLP_mk (wC := w_X6_vote x1 a S) (wT := wT_X6_vote x1 a S) (wR := w_X8_vote x2 a) Int32.toInt64 e1 e2 hX (by decide) (RES_mono (m_vote (F := fF E) (x1 := a) hI rfl rfl) (Nat.le_succ n))
    (fun P Q Q' hs hq hc hp h => by rw [e1]; exact u_X6_vote hs hq hc hp h)
    (fun P Q Q' hs hq hc hp h => by rw [e1]; exact uT_X6_vote hs hq hc hp h)
    (fun S P Q Q' hs hq hc hp h => by rw [e2]; exact u_X8_vote hs trivial hq hc hp h)
  unfold wA_L_vote wA_L_vote_b0
  refine ⟨hK, ?_⟩
  rcases hL with ⟨v, h⟩ | ⟨c, ex, hc, h⟩
  · exact Or.inl (h _ (fun S1 h3 hn1 hA => fun j ej => ⟨h3, vp_in01 hn1, fun S2 e4 => by subst ej e4; exact hQ _ _ hA⟩))
  · exact Or.inr ⟨Nat.le_refl _, Nat.le_refl _, h _ (fun S1 hA => ex1 hc (hQ _ _ hA))⟩
theorem L_ofField (hW : LW x1 x2 x3 x4 E n S) (hQ : ∀ r S1, AFT x1 x2 x3 x4 E (n + 1) Int32.toInt64 (w_X8_ofField x2 a b) r S1 → Q r S1) : wA_L_ofField 1 6 x1 a b x3 S Q := by
  have hK := LW_K1 hW
  obtain ⟨H, X, Z, N, e1, e2, hX, hI⟩ := hW
  have hL := HLP_mk (wC := w_X6_ofField x1 a b S) (wT := wT_X6_ofField x1 a b S) (wR := w_X8_ofField x2 a b) Int32.toInt64 e1 e2 hX (by decide) (RES_mono (m_ofField (F := fF E) (x1 := a) (x2 := b) hI rfl) (Nat.le_succ n))
    (fun P Q Q' hs hq hc hp h => by rw [e1]; exact u_X6_ofField hs hq hc hp h)
    (fun P Q Q' hs hq hc hp h => by rw [e1]; exact uT_X6_ofField hs hq hc hp h)
    (fun S P Q Q' hs hq hc hp h => by rw [e2]; exact u_X8_ofField hs trivial hq hc hp h)
  unfold wA_L_ofField wA_L_ofField_b0
  refine ⟨hK, ?_⟩
  rcases hL with ⟨v, h⟩ | ⟨c, ex, hc, h⟩
  · exact Or.inl (h _ (fun S1 h3 hn1 hA => fun j ej => ⟨h3, vp_in01 hn1, fun S2 e4 => by subst ej e4; exact hQ _ _ hA⟩))
  · exact Or.inr ⟨Nat.le_refl _, Nat.le_refl _, h _ (fun S1 hA => ex2 xIA hc (hQ _ _ hA))⟩
theorem L_thought (hW : LW x1 x2 x3 x4 E n S) (hQ : ∀ r S1, AFT x1 x2 x3 x4 E (n + 1) Int32.toInt64 (w_X8_thought x2 a b) r S1 → Q r S1) : wA_L_thought 1 6 x1 a b x3 S Q := by
  have hK := LW_K1 hW
  obtain ⟨H, X, Z, N, e1, e2, hX, hI⟩ := hW
  have hL := HLP_mk (wC := w_X6_thought x1 a b S) (wT := wT_X6_thought x1 a b S) (wR := w_X8_thought x2 a b) Int32.toInt64 e1 e2 hX (by decide) (RES_mono (m_thought (F := fF E) (x1 := a) (x2 := b) hI rfl) (Nat.le_succ n))
    (fun P Q Q' hs hq hc hp h => by rw [e1]; exact u_X6_thought hs hq hc hp h)
    (fun P Q Q' hs hq hc hp h => by rw [e1]; exact uT_X6_thought hs hq hc hp h)
    (fun S P Q Q' hs hq hc hp h => by rw [e2]; exact u_X8_thought hs trivial hq hc hp h)
  unfold wA_L_thought wA_L_thought_b0
  refine ⟨hK, ?_⟩
  rcases hL with ⟨v, h⟩ | ⟨c, ex, hc, h⟩
  · exact Or.inl (h _ (fun S1 h3 hn1 hA => fun j ej => ⟨h3, vp_in01 hn1, fun S2 e4 => by subst ej e4; exact hQ _ _ hA⟩))
  · exact Or.inr ⟨Nat.le_refl _, Nat.le_refl _, h _ (fun S1 hA => ex1 hc (hQ _ _ hA))⟩
theorem L_suspect (hW : LW x1 x2 x3 x4 E n S) (hn : n ≤ 1000) (hQ : ∀ r S1, AFT x1 x2 x3 x4 E (n + 1) Int32.toInt64 (w_X8_suspect x2 a) r S1 → Q r S1) : wA_L_suspect 1 6 x1 a x3 S Q := by
  have hK := LW_K1 hW
  obtain ⟨H, X, Z, N, e1, e2, hX, hI⟩ := hW
  have hL := HLP_mk (wC := w_X6_suspect x1 a S) (wT := wT_X6_suspect x1 a S) (wR := w_X8_suspect x2 a) Int32.toInt64 e1 e2 hX (by decide) (RES_mono (m_suspect (F := fF E) (x1 := a) hI hn rfl rfl) (Nat.le_succ n))
    (fun P Q Q' hs hq hc hp h => by rw [e1]; exact u_X6_suspect hs hq hc hp h)
    (fun P Q Q' hs hq hc hp h => by rw [e1]; exact uT_X6_suspect hs hq hc hp h)
    (fun S P Q Q' hs hq hc hp h => by rw [e2]; exact u_X8_suspect hs trivial hq hc hp h)
  unfold wA_L_suspect wA_L_suspect_b0
  refine ⟨hK, ?_⟩
  rcases hL with ⟨v, h⟩ | ⟨c, ex, hc, h⟩
  · exact Or.inl (h _ (fun S1 h3 hn1 hA => fun j ej => ⟨h3, vp_in01 hn1, fun S2 e4 => by subst ej e4; exact hQ _ _ hA⟩))
  · exact Or.inr ⟨Nat.le_refl _, Nat.le_refl _, h _ (fun S1 hA => ex1 hc (hQ _ _ hA))⟩
end
