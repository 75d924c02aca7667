/-! ===== the law's loop ===== -/
theorem cap_max : ∀ a : Nat, a < 4 → ∀ b : Nat, b < 13 → 87 + 465 * (a + b) + (512 - (a + b)) * (10014 + 81 * a + 365 * b) ≤ 7293034 := by decide +kernel
/-- what the calls so far may have cost -/
def BU (E : eT) (m kc ks : Nat) : Prop := ∃ k : Nat, m = E.1 + E.2.1 + k ∧ kc ≤ 18 + 941 * m ∧ ks ≤ 87 + 465 * (E.1 + E.2.1) + k * capE E
theorem BU_max {E : eT} {m kc ks : Nat} (h : BU E m kc ks) (hm : m < 512) (hE : E.1 ≤ 3 ∧ E.2.1 ≤ 12) : kc + 941 ≤ 601024 ∧ ks + capE E ≤ 7293034 := by
  obtain ⟨k, e, h1, h2⟩ := h
  have h3 := cap_max E.1 (by omega) E.2.1 (by omega)
  have h4 : (k + 1) * capE E ≤ (512 - (E.1 + E.2.1)) * capE E := Nat.mul_le_mul_right _ (by omega)
  rw [Nat.succ_mul] at h4
  have h5 : (512 - (E.1 + E.2.1)) * capE E = (512 - (E.1 + E.2.1)) * (10014 + 81 * E.1 + 365 * E.2.1) := rfl
  exact ⟨by omega, by omega⟩
theorem bu_c {a b c k m : Nat} (h : a ≤ c + k * m) (h1 : b ≤ a + k) : b ≤ c + k * (m + 1) := by
  rw [Nat.mul_succ]
  omega
theorem bu_s {a b c g g' t q r : Nat} (h : a ≤ c + t * g + q) (h1 : b ≤ a + t) (hg : g' = g + 1) (hq : q ≤ r) : b ≤ c + t * g' + r := by
  subst hg
  rw [Nat.mul_succ]
  omega
theorem bu_k {a b c k q : Nat} (h : a ≤ c + k * q) (h1 : b ≤ a + q) : b ≤ c + (k + 1) * q := by
  rw [Nat.succ_mul k q]
  omega
theorem BU_step {E E' : eT} {m kc ks kc' ks' : Nat} (h : BU E m kc ks) (hG : GR E E') (h1 : kc' ≤ kc + 941) (h2 : E' = E ∧ ks' ≤ ks + capE E ∨ ks' ≤ ks + 465) : BU E' (m + 1) kc' ks' := by
  obtain ⟨k, e, g1, g2⟩ := h
  have hc : 465 ≤ capE E := by unfold capE; omega
  rcases hG with z | ⟨z1, z2⟩ | ⟨z1, z2⟩
  · subst z
    refine ⟨k + 1, by omega, bu_c g1 h1, bu_k g2 ?_⟩
    rcases h2 with y | y
    · exact y.2
    · exact Nat.le_trans y (Nat.add_le_add_left hc ks)
  · have hne : ¬ E' = E := fun y => by rw [y] at z1; omega
    have y : ks' ≤ ks + 465 := h2.elim (fun y => absurd y.1 hne) id
    have hcc : k * capE E ≤ k * capE E' := Nat.mul_le_mul_left _ (by unfold capE; omega)
    exact ⟨k, by omega, bu_c g1 h1, bu_s g2 y (by omega) hcc⟩
  · have hne : ¬ E' = E := fun y => by rw [y] at z2; omega
    have y : ks' ≤ ks + 465 := h2.elim (fun y => absurd y.1 hne) id
    have hcc : k * capE E ≤ k * capE E' := Nat.mul_le_mul_left _ (by unfold capE; omega)
    exact ⟨k, by omega, bu_c g1 h1, bu_s g2 y (by omega) hcc⟩
section
variable {x1 x2 x3 x4 : Nat} {sc : Nat × (Nat → Int32)}
theorem LW_E {E : eT} {m : Nat} {S : sT} (h : LW x1 x2 x3 x4 E m S) : E.1 ≤ 3 ∧ E.2.1 ≤ 12 := by
  obtain ⟨H, X, Z, N, e1, e2, hX, hI⟩ := h
  exact ⟨(LJ_EW hI).1, (LJ_EW hI).2.1⟩
theorem law_loop (hsc : sc.1 ≤ 2560) : ∀ (f m : Nat) (E : eT) (kc ks : Nat) (S : sT), sc.1 < 5 * m + 5 * (f + 1) → 5 * m ≤ sc.1 → BU E m kc ks → LW x1 x2 x3 x4 E m S → wA_L_law_b28 601024 7293034 sc (f + 1) kc ks x1 x2 x3 x4 (nI (5 * m)) S := by
  have l5 : (5 : Int32).toInt = 5 := rfl
  have e5 : (nI sc.1 - 5).toInt = (sc.1 : Int) - 5 := by
    rw [ti_sub (by rw [ti_nI (by omega), l5]; omega) (by rw [ti_nI (by omega), l5]; omega), ti_nI (by omega), l5]
  intro f
  induction f with
  | zero =>
    intro m E kc ks S hf hm0 hB hW
    unfold wA_L_law_b28
    intro y1 e1 y2 e2
    refine ⟨fun _ => trivial, fun c => absurd ?_ c⟩
    rw [e2, e1, ti_lt, e5, ti_nI (by omega)]
    omega
  | succ f ih =>
    intro m E kc ks S hf hm0 hB hW
    unfold wA_L_law_b28
    intro y1 e1 y2 e2
    refine ⟨fun _ => trivial, fun c => ?_⟩
    have hm : 5 * m + 5 ≤ sc.1 := by
      rw [e2, e1, ti_lt, e5, ti_nI (by omega)] at c
      omega
    have hE := LW_E hW
    have hM := BU_max hB (by omega) hE
    have a5 : ∀ j : Nat, j < 6 → nI (5 * m) + nI j = nI (5 * m + j) := fun j hj => nI_add _ _
    have hv : ∀ j : Nat, 0 < j → j < 5 → vp_in (nI (5 * m) + nI j) sc.1 := fun j h0 hj => by rw [a5 j (by omega), nI_vp (by omega)]; omega
    have hL : LH x1 x2 x3 x4 E m kc ks (nI (5 * m)) S sc 601024 7293034 (f + 1) := by
      refine ⟨hW, by omega, hM.1, hM.2, hE, ⟨hv 1 (by decide) (by decide), hv 2 (by decide) (by decide), hv 3 (by decide) (by decide), hv 4 (by decide) (by decide)⟩, fun S' E' kc' ks' hG hW' h1 h2 => ?_⟩
      unfold wA_L_law_b2022
      intro y ey
      have e9 : y = nI (5 * (m + 1)) := by rw [ey]; exact a5 5 (by decide)
      rw [e9]
      exact ih (m + 1) E' kc' ks' S' (by omega) (by omega) (BU_step hB hG h1 h2) hW'
    refine ⟨by rw [nI_vp (by omega)]; omega, fun y3 e3 y4 e4 => ⟨fun _ => lb_0 hL, fun _ => lb_1 hL, fun _ => lb_2 hL, fun _ => lb_3 hL, fun _ => lb_4 hL, fun _ => lb_5 hL, fun _ => lb_6 hL, fun _ => lb_7 hL, fun _ => lb_8 hL, fun _ => lb_9 hL, fun _ => lb_10 hL, fun _ => lb_11 hL, fun _ => lb_12 hL, fun _ => lb_13 hL, fun _ => lb_14 hL, fun _ => lb_15 hL, fun _ => lb_16 hL, fun _ => lb_17 hL, fun _ => lb_18 hL, fun _ => lb_19 hL, fun _ => lb_20 hL, fun _ => lb_21 hL, fun _ => lb_22 hL, fun _ => lb_23 hL, fun _ => lb_24 hL, fun _ => lb_25 hL, fun _ => lb_26 hL, fun _ => lb_27 hL, fun _ => ?_⟩⟩
    exact hL.2.2.2.2.2.2 S E kc ks (Or.inl rfl) (LW_mono hW (Nat.le_succ m)) (by omega) (Or.inl ⟨rfl, by omega⟩)
end
