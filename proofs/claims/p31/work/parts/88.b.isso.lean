/-! ===== p31: the law's isSo ===== -/
/-- a field's facts, as isSo asks them; b its bund -/
def FK (M : yT) (b : Int32) (k : Nat) : Prop :=
  (¬ M 1 k < 0 ∧ ¬ b < M 1 k) ∧ (¬ M 2 k < 0 ∧ ¬ (3 : Int32) < M 2 k) ∧ (M 1 k ≤ 0 ∨ M 3 k = 0) ∧ M 4 k ≤ 5 ∧ (¬ M 7 k < 0 ∧ ¬ (100 : Int32) < M 7 k) ∧ (¬ M 8 k < 0 ∧ ¬ (99 : Int32) < M 8 k) ∧ (¬ M 9 k < 0 ∧ ¬ (50 : Int32) < M 9 k) ∧
  ((0 : Int32) ≤ M 5 k ↔ (2 : Int32) ≤ M 4 k) ∧ ((5 : Int32) ≤ M 4 k ∨ ryC M k = 0) ∧ ryC M k ≤ 80 ∧ ¬ M 21 k < M 20 k ∧ ¬ M 11 k < 0
/-- a society's -/
def FC (M : yT) (i : Nat) : Prop := ¬ M 37 i < 0 ∧ (0 : Int32) ≤ M 41 i
/-- of all together; s sold -/
def FG (E : eT) (M : yT) (s : Int32) : Prop := cloC E M = 1 ∧ sm (M 18) E.2.1 = 0 ∧ ¬ 0 < sm (M 17) E.2.1 - 20 * nI E.2.1 - s ∧ ¬ sm (M 36) E.1 < -(sm (M 17) E.2.1 - 20 * nI E.2.1 - s) ∧ ¬ M 68 0 < 0 ∧ ¬ (27 : Int32) ≤ M 68 0
section
variable {H : Nat → Nat → Nat → Nat} {E : eT} {P : sT → Prop} {S : sT} {Z : zT} {M : yT} {k i : Nat} {x : Int32} {Q : Int32 → sT → Prop} {x1 x2 x4 x5 x6 x7 x8 x9 b : Int32} {x3 : Nat}
theorem is_266 {kk : Nat → Int32 → Int32 → Nat → Int32 → Int32 → Int32 → Int32 → Int32 → Int32 → sT → Prop} (hs : cSt P) (hC : CC H E S Z) (hP : P S) (hk : k < E.2.1) (hF : FK (Z 0) b k)
    (hK : ∀ S1, CC H E S1 Z → P S1 → kk (H 0 9 0) x1 x2 x3 x4 x5 x6 x7 x8 (nI (k + 1)) S1) : w_L_isSo_b266 (H 0 9 0) x1 x2 x3 x4 x5 x6 x7 x8 (nI k) S kk Q := by
  obtain ⟨-, -, -, -, -, -, -, -, -, f1, f2, f3⟩ := hF
  unfold w_L_isSo_b266
  refine ⟨rK_Sub hC, G_f10 hs hC hP hk (fun S1 c1 p1 => ⟨fun _ => ⟨rK_Sub c1, ?_⟩, fun z => absurd f1 z⟩)⟩
  refine G_t0 hs c1 p1 hk (fun S2 c2 p2 => ⟨rK_Sub c2, G_t1 hs c2 p2 hk (fun S3 c3 p3 => ⟨fun z => absurd z f2, fun _ => ⟨rK_Sub c3, ?_⟩⟩)⟩)
  refine G_f12 hs c3 p3 hk (fun S4 c4 p4 => ⟨fun z => absurd z f3, fun _ => ⟨rK_Sub c4, ?_⟩⟩)
  refine G_o0 hs c4 p4 hk (fun S5 c5 p5 => ⟨fun z => ?_, fun z => ?_⟩)
  · unfold w_L_isSo_b324
    refine ⟨rK_Sub c5, G_o3 hs c5 p5 hk (fun S6 c6 p6 => ⟨fun _ => ?_, fun y => ?_⟩)⟩
    · unfold w_L_isSo_b340
      exact ⟨fun _ y ey => by rw [ey, ← nI_succ]; exact hK S6 c6 p6, fun y => absurd rfl y⟩
    · unfold exC at y
      rw [if_pos z] at y
      exact absurd y (by decide)
  · unfold w_L_isSo_b324
    refine ⟨rK_Sub c5, G_o3 hs c5 p5 hk (fun S6 c6 p6 => ⟨fun y => ?_, fun _ => ?_⟩)⟩
    · unfold exC at y
      rw [if_neg z] at y
      exact absurd rfl y
    · unfold w_L_isSo_b340
      exact ⟨fun _ y ey => by rw [ey, ← nI_succ]; exact hK S6 c6 p6, fun y => absurd rfl y⟩
theorem is_140 {kk : Nat → Int32 → Int32 → Nat → Int32 → Int32 → Int32 → Int32 → Int32 → Int32 → sT → Prop} (hs : cSt P) (hC : CC H E S Z) (hP : P S) (hk : k < E.2.1) (hF : FK (Z 0) b k)
    (hK : ∀ S1, CC H E S1 Z → P S1 → kk (H 0 9 0) x1 x2 x3 x4 x5 x6 x7 x8 (nI (k + 1)) S1) : w_L_isSo_b140 (H 0 9 0) x1 x2 x3 x4 x5 x6 x7 x8 (nI k) (Z 0 4 k) S kk Q := by
  obtain ⟨-, -, -, f4, ⟨f7, f7b⟩, ⟨f8, f8b⟩, ⟨f9, f9b⟩, f5, fy, f10, f11, f12⟩ := id hF
  have end246 : ∀ (y0 y1 : Int32) (S1 : sT), y1 = y0 → CC H E S1 Z → P S1 → w_L_isSo_b246 (H 0 9 0) x1 x2 x3 x4 x5 x6 x7 x8 (nI k) (Z 0 4 k) y0 y1 S1 kk Q := by
    intro y0 y1 S1 ey c1 p1
    unfold w_L_isSo_b246
    refine ⟨fun z => absurd ey z, fun _ => ⟨fun _ => is_266 hs c1 p1 hk hF hK, fun z => ⟨rK_Sub c1, ?_⟩⟩⟩
    refine G_f10 hs c1 p1 hk (fun S2 c2 p2 => ⟨fun y => absurd (fy.resolve_left z) y, fun _ => is_266 hs c2 p2 hk hF hK⟩)
  unfold w_L_isSo_b140
  refine ⟨fun _ => ⟨rK_Sub hC, ?_⟩, fun z => absurd f4 z⟩
  refine G_f7 hs hC hP hk (fun S1 c1 p1 => ⟨fun z => absurd z f7, fun _ => ⟨rK_Sub c1, ?_⟩⟩)
  refine G_f7 hs c1 p1 hk (fun S2 c2 p2 => ⟨fun z => absurd z f7b, fun _ => ⟨rK_Sub c2, ?_⟩⟩)
  refine G_f8 hs c2 p2 hk (fun S3 c3 p3 => ⟨fun z => absurd z f8, fun _ => ⟨rK_Sub c3, ?_⟩⟩)
  refine G_f8 hs c3 p3 hk (fun S4 c4 p4 => ⟨fun z => absurd z f8b, fun _ => ⟨rK_Sub c4, ?_⟩⟩)
  refine G_f9 hs c4 p4 hk (fun S5 c5 p5 => ⟨fun z => absurd z f9, fun _ => ⟨rK_Sub c5, ?_⟩⟩)
  refine G_f9 hs c5 p5 hk (fun S6 c6 p6 => ⟨fun z => absurd z f9b, fun _ => ⟨rK_Sub c6, ?_⟩⟩)
  refine G_f5 hs c6 p6 hk (fun S7 c7 p7 => ⟨fun z => ?_, fun z => ?_⟩)
  · unfold w_L_isSo_b235
    exact ⟨fun _ => end246 _ _ _ rfl c7 p7, fun y => absurd (f5.mp z) y⟩
  · unfold w_L_isSo_b235
    exact ⟨fun y => absurd (f5.mpr y) z, fun _ => end246 _ _ _ rfl c7 p7⟩
theorem sm_s' {f : Nat → Int32} {n : Nat} {x : Int32} (h : x = sm f n + f n) : x = sm f (n + 1) := by rw [sm_s]; exact h
theorem is_f {bu : Nat → Int32} (hs : cSt P) (ha : ∀ S, P S → s_K S x3 = 11 ∧ s_N S x3 = 9 ∧ ∀ j, s_B S x3 j = bu j) (h9 : E.2.1 ≤ 9) (hF : ∀ k, k < E.2.1 → FK (Z 0) (bu k) k)
    (hK : ∀ S1, CC H E S1 Z → P S1 → ∃ n9 : Nat, w_L_isSo_b357 Q n9 (H 0 9 0) x1 (nI E.2.1) x4 (sm (Z 0 1) E.2.1) (sm (Z 0 18) E.2.1) (sm (Z 0 17) E.2.1) (sm (exC (Z 0)) E.2.1) 0 0 S1) :
    ∀ (d j : Nat) (S : sT), j + d = E.2.1 → CC H E S Z → P S → w_L_isSo_b15 Q (d + 1) (H 0 9 0) x1 (nI E.2.1) x3 x4 (sm (Z 0 1) j) (sm (Z 0 18) j) (sm (Z 0 17) j) (sm (exC (Z 0)) j) (nI j) S := by
  intro d
  induction d with
  | zero =>
    intro j S hj hC hP
    have hj : j = E.2.1 := hj
    subst hj
    unfold w_L_isSo_b15
    exact ⟨fun _ => hK S hC hP, fun z => absurd (by rw [nI_lei (by omega) (by omega)]; exact Nat.le_refl _) z⟩
  | succ d ih =>
    intro j S hj hC hP
    have hk : j < E.2.1 := by omega
    obtain ⟨⟨f1, f1b⟩, ⟨f2, f2b⟩, f3, -⟩ := id (hF j hk)
    have ecl : Int32.toNatClampNeg (nI j) = j := nI_cl (by omega)
    unfold w_L_isSo_b15
    refine ⟨fun z => absurd z (by rw [nI_lei (by omega) (by omega)]; omega), fun _ => ⟨rK_Sub hC, ?_⟩⟩
    refine G_f4 hs hC hP hk (fun S1 c1 p1 => ⟨rK_Sub c1, G_f1 hs c1 p1 hk (fun S2 c2 p2 y2 e2 => ⟨rK_Sub c2, ?_⟩)⟩)
    refine G_o1 hs c2 p2 hk (fun S3 c3 p3 y3 e3 => ⟨rK_Sub c3, ?_⟩)
    refine G_o0 hs c3 p3 hk (fun S4 c4 p4 y4 e4 => ⟨rK_Sub c4, ?_⟩)
    refine G_o3 hs c4 p4 hk (fun S5 c5 p5 y5 e5 => ⟨fun z => absurd z f1, fun _ => ?_⟩)
    have e2 := sm_s' e2
    have e3 := sm_s' e3
    have e4 := sm_s' e4
    have e5 := sm_s' e5
    subst e2 e3 e4 e5
    obtain ⟨a1, a2, a3⟩ := ha S5 p5
    refine ⟨a1, by rw [a2, nI_vp (by omega)]; omega, fun y6 e6 => ?_⟩
    rw [ecl, a3] at e6
    subst e6
    have go : ∀ S1, CC H E S1 Z → P S1 → w_L_isSo_b140 (H 0 9 0) x1 (nI E.2.1) x3 x4 (sm (Z 0 1) (j + 1)) (sm (Z 0 18) (j + 1)) (sm (Z 0 17) (j + 1)) (sm (exC (Z 0)) (j + 1)) (nI j) (Z 0 4 j) S1 (fun x0 x1 x2 x3 x4 x5 x6 x7 x8 x9 S => w_L_isSo_b15 Q (d + 1) x0 x1 x2 x3 x4 x5 x6 x7 x8 x9 S) Q := fun S1 c p =>
      is_140 hs c p hk (hF j hk) (fun S2 c2 p2 => ih (j + 1) S2 (by omega) c2 p2)
    refine ⟨fun z => absurd z f1b, fun _ => ⟨rK_Sub c5, ?_⟩⟩
    refine G_f2 hs c5 p5 hk (fun S6 c6 p6 => ⟨fun z => absurd z f2, fun _ => ⟨rK_Sub c6, ?_⟩⟩)
    refine G_f2 hs c6 p6 hk (fun S7 c7 p7 => ⟨fun z => absurd z f2b, fun _ => ⟨fun _ => go S7 c7 p7, fun z => ⟨rK_Sub c7, ?_⟩⟩⟩)
    refine G_f3 hs c7 p7 hk (fun S8 c8 p8 => ⟨fun _ => go S8 c8 p8, fun y => absurd (f3.resolve_left z) y⟩)
theorem tk_some {a : Nat} (h : ¬ tkI M a = 0) : ¬ M 12 a = 0 ∧ (0 : Int32) ≤ M 17 a := by
  unfold tkI at h
  by_cases c : M 12 a = 0
  · rw [if_pos c] at h; exact absurd rfl h
  · rw [if_neg c] at h
    by_cases c2 : M 17 a < 0
    · rw [if_pos c2] at h; exact absurd rfl h
    · refine ⟨c, ?_⟩
      rw [ti_lt] at c2
      rw [ti_le]; omega
theorem is_424 {kk : Nat → Int32 → Int32 → Int32 → Int32 → Int32 → Int32 → Int32 → Int32 → Int32 → sT → Prop} (hs : cSt P) (hC : CC H E S Z) (hP : P S) (hi : i < E.1) (hF : FC (Z 0) i) (hsus : ∀ a, susC E (Z 0) i = some a → a < E.2.1 ∧ E.2.2 a = i ∧ ¬ Z 0 11 a = 0)
    (hK : ∀ S1, CC H E S1 Z → P S1 → kk (H 0 9 0) x1 x2 x4 x5 x6 x7 x8 x9 (nI (i + 1)) S1) : w_L_isSo_b424 (H 0 9 0) x1 x2 x4 x5 x6 x7 x8 x9 (nI i) S kk Q := by
  obtain ⟨f1, f2⟩ := hF
  have h12 := hC.1.1.2.1
  have hn : ∀ S1, CC H E S1 Z → P S1 → w_L_isSo_b485 (H 0 9 0) x1 x2 x4 x5 x6 x7 x8 x9 (nI i) S1 kk Q := fun S1 c p => by
    unfold w_L_isSo_b485
    intro y ey
    rw [ey, ← nI_succ]
    exact hK S1 c p
  unfold w_L_isSo_b424
  refine ⟨rK_Sub hC, G_s3 hs hC hP hi (fun S1 c1 p1 => ⟨fun z => absurd z f1, fun _ => ⟨rK_Sub c1, ?_⟩⟩)⟩
  refine G_s7 hs c1 p1 hi (fun S2 c2 p2 => ⟨fun _ => ⟨rK_Sub c2, ?_⟩, fun z => absurd f2 z⟩)
  refine G_sus hs c2 p2 hi (fun S3 c3 p3 => ?_)
  cases hx : susC E (Z 0) i with
  | none => exact ⟨fun _ => hn S3 c3 p3, fun z => absurd (show onI none < 0 by decide) z⟩
  | some a =>
    obtain ⟨a1, a2, a3⟩ := hsus a hx
    show (nI a < 0 → _) ∧ (¬ nI a < 0 → _)
    refine ⟨fun z => absurd z (by rw [nI_neg (by omega)]; exact id), fun _ => ⟨rK_Sub c3, ?_⟩⟩
    show w_X6_ofField (H 0 9 0) (nI a) 0 S3 _
    refine G_f0 hs c3 p3 a1 (fun S4 c4 p4 => ⟨fun z => absurd (by rw [a2]) z, fun _ => ⟨rK_Sub c4, ?_⟩⟩)
    show w_X6_ofField (H 0 9 0) (nI a) 12 S4 _
    exact G_f12 hs c4 p4 a1 (fun S5 c5 p5 => ⟨fun _ => hn S5 c5 p5, fun z => absurd z a3⟩)
theorem is_s (hs : cSt P) (hF : ∀ i, i < E.1 → FC (Z 0) i) (hsus : ∀ i a, i < E.1 → susC E (Z 0) i = some a → a < E.2.1 ∧ E.2.2 a = i ∧ ¬ Z 0 11 a = 0) (hG : FG E (Z 0) x4) (hQ : ∀ S1, CC H E S1 Z → P S1 → Q 1 S1) :
    ∀ (d j : Nat) (S : sT), j + d = E.1 → CC H E S Z → P S → w_L_isSo_b357 Q (d + 1) (H 0 9 0) (nI E.1) (nI E.2.1) x4 (sm (Z 0 1) E.2.1) (sm (Z 0 18) E.2.1) (sm (Z 0 17) E.2.1) (sm (exC (Z 0)) E.2.1) (sm (Z 0 36) j) (nI j) S := by
  obtain ⟨g1, g2, g3, g4, g5, g6⟩ := hG
  intro d
  induction d with
  | zero =>
    intro j S hj hC hP
    have h3 := hC.1.1.1
    have hj : j = E.1 := hj
    subst hj
    unfold w_L_isSo_b357
    refine ⟨fun _ => ⟨rK_Sub hC, ?_⟩, fun z => absurd (by rw [nI_lei (by omega) (by omega)]; exact Nat.le_refl _) z⟩
    refine G_clo hs hC hP (fun S1 c1 p1 => ⟨fun z => absurd z (by rw [g1]; decide), fun _ => ⟨rK_Sub c1, ?_⟩⟩)
    refine G_w1 hs c1 p1 (fun S2 c2 p2 => ⟨fun z => absurd rfl z, fun _ => ⟨fun z => absurd g2 z, fun _ => ⟨rK_Sub c2, ?_⟩⟩⟩)
    refine G_m6 hs c2 p2 (fun S3 c3 p3 => ⟨fun z => absurd rfl z, fun _ => ⟨rK_Sub c3, ?_⟩⟩)
    refine G_m7 hs c3 p3 (fun S4 c4 p4 => ⟨fun z => absurd rfl z, fun _ => ⟨rK_Sub c4, ?_⟩⟩)
    refine G_m8 hs c4 p4 (fun S5 c5 p5 => ⟨fun z => absurd rfl z, fun _ y1 e1 y2 e2 y3 e3 => ?_⟩)
    subst e1 e2 e3
    refine ⟨fun z => absurd z g3, fun _ y4 e4 y5 e5 y6 e6 y7 e7 => ?_⟩
    subst e4 e5 e6 e7
    refine ⟨fun z => absurd z g4, fun _ => ⟨rK_Sub c5, ?_⟩⟩
    refine G_w2 hs c5 p5 (fun S6 c6 p6 => ⟨fun z => absurd z g5, fun _ => ⟨rK_Sub c6, ?_⟩⟩)
    refine G_w2 hs c6 p6 (fun S7 c7 p7 => ⟨fun z => absurd z g6, fun _ => ?_⟩)
    unfold w_L_isSo_b598
    exact ⟨Or.inr rfl, hQ S7 c7 p7⟩
  | succ d ih =>
    intro j S hj hC hP
    have h3 := hC.1.1.1
    have h12 := hC.1.1.2.1
    have hi : j < E.1 := by omega
    unfold w_L_isSo_b357
    refine ⟨fun z => absurd z (by rw [nI_lei (by omega) (by omega)]; omega), fun _ => ⟨rK_Sub hC, ?_⟩⟩
    refine G_s8 hs hC hP hi (fun S1 c1 p1 => ⟨rK_Sub c1, G_s2 hs c1 p1 hi (fun S2 c2 p2 y e => ?_)⟩)
    have e := sm_s' e
    subst e
    have go : ∀ S1, CC H E S1 Z → P S1 → w_L_isSo_b424 (H 0 9 0) (nI E.1) (nI E.2.1) x4 (sm (Z 0 1) E.2.1) (sm (Z 0 18) E.2.1) (sm (Z 0 17) E.2.1) (sm (exC (Z 0)) E.2.1) (sm (Z 0 36) (j + 1)) (nI j) S1 (fun x0 x1 x2 x4 x5 x6 x7 x8 x9 x10 S => w_L_isSo_b357 Q (d + 1) x0 x1 x2 x4 x5 x6 x7 x8 x9 x10 S) Q := fun S1 c p =>
      is_424 hs c p hi (hF j hi) (fun a => hsus j a hi) (fun S2 c2 p2 => ih (j + 1) S2 (by omega) c2 p2)
    cases hx : nxC E (Z 0) j with
    | none => exact ⟨fun _ => go S2 c2 p2, fun z => absurd (show onI none < 0 by decide) z⟩
    | some a =>
      obtain ⟨a1, a2, a3⟩ := nx_some hx
      obtain ⟨a4, a5⟩ := tk_some a3
      show (nI a < 0 → _) ∧ (¬ nI a < 0 → _)
      refine ⟨fun z => absurd z (by rw [nI_neg (by omega)]; exact id), fun _ => ⟨rK_Sub c2, ?_⟩⟩
      show w_X6_ofField (H 0 9 0) (nI a) 0 S2 _
      refine G_f0 hs c2 p2 a1 (fun S4 c4 p4 => ⟨fun z => absurd (by rw [a2]) z, fun _ => ⟨rK_Sub c4, ?_⟩⟩)
      show w_X6_ofField (H 0 9 0) (nI a) 13 S4 _
      refine G_f13 hs c4 p4 a1 (fun S5 c5 p5 => ⟨fun z => absurd z (by rw [if_neg a4]; decide), fun _ => ⟨rK_Sub c5, ?_⟩⟩)
      show w_X6_ofOwner (H 0 9 0) (nI a) 3 S5 _
      exact G_o3 hs c5 p5 a1 (fun S6 c6 p6 => ⟨fun z => absurd z (by unfold exC; rw [if_pos a5]; decide), fun _ => go S6 c6 p6⟩)
/-- isSo answers true -/
theorem is_ok {bu : Nat → Int32} (hs : cSt P) (ha : ∀ S, P S → s_K S x3 = 11 ∧ s_N S x3 = 9 ∧ ∀ j, s_B S x3 j = bu j) (h9 : E.2.1 ≤ 9) (hC : CC H E S Z) (hP : P S) (hF : ∀ k, k < E.2.1 → FK (Z 0) (bu k) k) (hFC : ∀ i, i < E.1 → FC (Z 0) i) (hsus : ∀ i a, i < E.1 → susC E (Z 0) i = some a → a < E.2.1 ∧ E.2.2 a = i ∧ ¬ Z 0 11 a = 0) (hG : FG E (Z 0) x4)
    (hQ : ∀ S1, CC H E S1 Z → P S1 → Q 1 S1) : w_L_isSo (H 0 9 0) (nI E.1) (nI E.2.1) x3 x4 S Q := by
  unfold w_L_isSo w_L_isSo_b0
  refine ⟨E.2.1 + 1, ?_⟩
  have := is_f (Q := Q) (x1 := nI E.1) (x4 := x4) hs ha h9 hF (fun S1 c1 p1 => ⟨E.1 + 1, by
    have := is_s hs hFC hsus hG hQ E.1 0 S1 (by omega) c1 p1
    rw [sm_0, ← nI_z] at this
    exact this⟩) E.2.1 0 S (by omega) hC hP
  rw [sm_0, sm_0, sm_0, sm_0, ← nI_z] at this
  exact this
end
