/-! ===== a new world of the model, whole ===== -/
section
variable {D T D2 : Nat → Prop} {S S' S0 S1 : sT} {a b q m x y W : Nat} {X X' : Nat → Nat → Nat} {F F' : fT} {N M M' : yT}
theorem FRM.ar (h : FRM D T S S') {c : Nat} (hk : s_K S y = c) (h0 : c ≠ 0) (hd : ¬ D y) : s_K S' y = c ∧ s_N S' y = s_N S y ∧ (∀ j, s_B S' y j = s_B S y j) ∧ (∀ j, s_P S' y j = s_P S y j) := by
  obtain ⟨e, h2⟩ := h.2 y (by rw [hk]; exact h0)
  obtain ⟨i1, -, -, i4, i5, -⟩ := h2 hd
  exact ⟨e.trans hk, i1, i4, i5⟩
theorem FRM.Rn (h : FRM D T S S') {g : Nat} (hk : s_K S y ≠ 0) (hd : ¬ D y) (hg : g ≠ 70) : s_R S' g y = s_R S g y := ((h.2 y hk).2 hd).2.2.1 g (fun z => absurd z hg)
/-- the kinds of the model's objects are not touched -/
def nD (D : Nat → Prop) (S : sT) : Prop := ∀ y : Nat, (s_K S y = 9 ∨ s_K S y = 10 ∨ s_K S y = 11 ∨ s_K S y = 13 ∨ s_K S y = 14 ∨ s_K S y = 15) → ¬ D y
theorem RS_keep (h : RS X F S) (G : FRM D T S S') (hd : nD D S) : RS X F S' := by
  obtain ⟨h1, h2, ⟨a1, a2, a3, a4, a5, a6⟩, ⟨b1, b2, b3, b4⟩, b5, b6, ⟨c1, c2, c3, c4, c5, c6⟩, c7⟩ := h
  have hW : s_K S (X 1 0) ≠ 0 := by rw [a1]; decide
  have dW := hd _ (Or.inl a1)
  have d2 := hd _ (Or.inr (Or.inr (Or.inr (Or.inl b1))))
  have d3 := hd _ (Or.inr (Or.inr (Or.inr (Or.inl b3))))
  have d6 := hd _ (Or.inr (Or.inr (Or.inl c1)))
  have d7 := hd _ (Or.inr (Or.inr (Or.inl c3)))
  have d8 := hd _ (Or.inr (Or.inr (Or.inl c5)))
  have g2 := G.ar b1 (by decide) d2
  have g3 := G.ar b3 (by decide) d3
  have g6 := G.ar c1 (by decide) d6
  have g7 := G.ar c3 (by decide) d7
  have g8 := G.ar c5 (by decide) d8
  refine ⟨h1, h2, ⟨(G.2 _ hW).1.trans a1, (G.Rn hW dW (by decide)).trans a2, (G.Rn hW dW (by decide)).trans a3, (G.Rn hW dW (by decide)).trans a4, (G.Rn hW dW (by decide)).trans a5, (G.Rn hW dW (by decide)).trans a6⟩, ⟨g2.1, g2.2.1.trans b2, g3.1, g3.2.1.trans b4⟩, fun i hi => ?_, fun k hk => ?_, ⟨g6.1, g6.2.1.trans c2, g7.1, g7.2.1.trans c4, g8.1, g8.2.1.trans c6⟩, fun z => ?_⟩
  · obtain ⟨e1, e2, e3⟩ := b5 i hi
    have g := G.ar e2 (by decide) (hd _ (Or.inr (Or.inr (Or.inl e2))))
    exact ⟨(g2.2.2.2 i).trans e1, g.1, g.2.1.trans e3⟩
  · obtain ⟨e1, e2, e3⟩ := b6 k hk
    have g := G.ar e2 (by decide) (hd _ (Or.inr (Or.inr (Or.inl e2))))
    exact ⟨(g3.2.2.2 k).trans e1, g.1, g.2.1.trans e3⟩
  · obtain ⟨e1, e2⟩ := c7 z
    have hM : s_K S (X 0 0) ≠ 0 := by rw [e1]; decide
    exact ⟨(G.2 _ hM).1.trans e1, (G.Rn hM (hd _ (Or.inr (Or.inl e1))) (by decide)).trans e2⟩
theorem RS_k11 (h : RS X F S) {f k : Nat} (ho : r_ok F f k) : s_K S (X f k) = 11 := by
  obtain ⟨h1, h2, -, -, b5, b6, ⟨c1, c2, c3, c4, c5, c6⟩, -⟩ := h
  rcases ho with ⟨rfl, hk⟩ | ⟨rfl, hk⟩ | ⟨l1, l2, rfl⟩
  · exact (b5 k hk).2.1
  · exact (b6 k hk).2.1
  · rcases (show f = 6 ∨ f = 7 ∨ f = 8 by omega) with rfl | rfl | rfl
    · exact c1
    · exact c3
    · exact c5
theorem RV_keep (h : RV X F (s_B S) N) (hS : RS X F S) (G : FRM D T S S') (hd : nD D S) : RV X F (s_B S') N :=
  RV_mk (fun f k j ho hj => by
    have hk := RS_k11 hS ho
    rw [(G.ar hk (by decide) (hd _ (Or.inr (Or.inr (Or.inl hk))))).2.2.1 j]
    exact RV_get h ho hj)
theorem RC_keep (h : RC X F S N) (G : FRM D T S S') (hd : nD D S) : RC X F S' N := by
  refine ⟨RS_keep h.1 G hd, RV_keep h.2.1 h.1 G hd, fun z => ?_⟩
  obtain ⟨e1, -⟩ := h.1.2.2.2.2.2.2.2 z
  have hM : s_K S (X 0 0) ≠ 0 := by rw [e1]; decide
  rw [← h.2.2 z]
  exact ((G.2 _ hM).2 (hd _ (Or.inr (Or.inl e1)))).2.1 288
theorem nD_no : nD no_ S := fun _ _ z => z
theorem nD_ls (hA : AL S) (ha : s_K S a = 1) : nD (ls_D S a) S := fun y hy => by
  rcases hy with h | h | h | h | h | h <;> exact ls_Dk hA ha h (by decide) (by decide) (by decide)
theorem wi_with {Q : Nat → sT → Prop} {x1 x2 : Int32} {mc ms d1 d2 : Nat} (hR : RS X F S) (hV : RV X F (s_B S) N) (e1 : x1 = nI d1) (e2 : x2 = nI d2) (h3 : F.1 + d1 ≤ 3) (h12 : F.2.1 + d2 ≤ 12) (hmc : 6 + (F.1 + d1) + (F.2.1 + d2) ≤ mc) (hms : 40 + 11 * (F.1 + d1) + 23 * (F.2.1 + d2) ≤ ms)
    (hQ : ∀ S' X', FRM no_ no_ S S' → (AL S → AL S') → (∀ f k, r_ok (F.1 + d1, F.2.1 + d2, False) f k ∨ (f = 1 ∨ f = 2 ∨ f = 3) ∧ k = 0 → s_K S (X' f k) = 0) → RS X' (F.1 + d1, F.2.1 + d2, False) S' → RV X' (F.1 + d1, F.2.1 + d2, False) (s_B S') (wE N F.1 F.2.1) → Q (X' 1 0) S') : wA_X7_with mc ms (X 1 0) x1 x2 S Q := by
  unfold wA_X7_with wA_X7_with_b0
  refine ⟨by omega, by omega, fun W hW S1 eS => ?_⟩
  have G1 : FRM no_ no_ S S1 := by rw [eS]; exact FRM.refl.nw hW
  have A1 : AL S → AL S1 := fun h => by rw [eS]; exact AL_nw h hW
  have kW : s_K S1 W = 9 := by rw [eS]; exact s_nw_K
  clear eS
  have hR1 := RS_keep hR G1 nD_no
  have hV1 := RV_keep hV hR G1 nD_no
  obtain ⟨-, -, ⟨a1, a2, a3, a4, a5, a6⟩, ⟨b1, b2, b3, b4⟩, -⟩ := id hR1
  refine ⟨a1, X 2 0, a2, b1, fun y1 f1 z1 g1 => ⟨X 3 0, a3, b3, fun y2 f2 z2 g2 => ⟨5 + (F.1 + d1) + (F.2.1 + d2), 35 + 11 * (F.1 + d1) + 23 * (F.2.1 + d2), by omega, by omega, ?_⟩⟩⟩
  refine s7_init (n1 := F.1 + d1) (n2 := F.2.1 + d2) kW (by rw [g1, f1, b2, e1, nI_add]) (by rw [g2, f2, b4, e2, nI_add]) h3 h12 (by omega) (by omega) (fun S2 X' G2 A2 eW hz hR2 hV2 => ⟨F.1 + 1, ?_⟩)
  have G : FRM no_ no_ S S2 := G1.trans G2 (fun y hy z => hy (z ▸ hW.1)) (fun _ _ z => z)
  have hz0 : ∀ f k, r_ok (F.1 + d1, F.2.1 + d2, False) f k ∨ (f = 2 ∨ f = 3) ∧ k = 0 → s_K S (X' f k) = 0 := fun f k h => G1.fz (hz f k h)
  rw [← eW, show (0 : Int32) = nI 0 from rfl]
  refine l25 (F := F) (F' := (F.1 + d1, F.2.1 + d2, False)) (S0 := S) (N := N) (Nat.le_add_right _ _) (Nat.le_add_right _ _) h12 h3 (fun f k _ g j hf hg e => ?_) (fun g j hg => hz0 g j (Or.inl hg)) (fun S' hW' => hQ S' X' hW'.1 hW'.2.2.2.2.2 (fun f k h => ?_) hW'.2.2.2.1 hW'.2.2.2.2.1) F.1 0 S2 (by omega) ⟨G, RS_keep hR G nD_no, RV_keep hV hR G nD_no, hR2, ?_, fun h => A2 (A1 h)⟩
  · have k1 := RS_k11 hR hf
    have k2 := hz0 g j (Or.inl hg)
    rw [← e, k1] at k2
    cases k2
  · rcases h with h | ⟨rfl | h, h0⟩
    · exact hz0 f k (Or.inl h)
    · rw [h0, eW]; exact hW.1
    · exact hz0 f k (Or.inr ⟨h, h0⟩)
  · have e9 : wS N 0 = fun _ _ => 0 := by
      funext c k
      exact if_neg (fun z => absurd z.2.2 (Nat.not_lt_zero k))
    rw [e9]; exact hV2
end
