/-! ===== the reference's side: one world (and, where E.2.2, its model), at the addresses X family number ===== -/
abbrev fT : Type := Nat × Nat × Prop
def r_ok (E : fT) (f k : Nat) : Prop := (f = 4 ∧ k < E.1) ∨ (f = 5 ∧ k < E.2.1) ∨ (6 ≤ f ∧ f ≤ 8 ∧ k = 0)
def r_inj (X : Nat → Nat → Nat) (E : fT) : Prop := ∀ f k g j : Nat, r_ok E f k → r_ok E g j → X f k = X g j → f = g ∧ k = j
def RS (X : Nat → Nat → Nat) (E : fT) (S : sT) : Prop :=
  (E.1 ≤ 3 ∧ E.2.1 ≤ 12) ∧ r_inj X E ∧
  (s_K S (X 1 0) = 9 ∧ s_R S 256 (X 1 0) = some (X 2 0) ∧ s_R S 257 (X 1 0) = some (X 3 0) ∧ s_R S 258 (X 1 0) = some (X 6 0) ∧ s_R S 259 (X 1 0) = some (X 7 0) ∧ s_R S 260 (X 1 0) = some (X 8 0)) ∧
  (s_K S (X 2 0) = 13 ∧ s_N S (X 2 0) = E.1 ∧ s_K S (X 3 0) = 13 ∧ s_N S (X 3 0) = E.2.1) ∧
  (∀ i : Nat, i < E.1 → s_P S (X 2 0) i = some (X 4 i) ∧ s_K S (X 4 i) = 11 ∧ s_N S (X 4 i) = 10) ∧
  (∀ k : Nat, k < E.2.1 → s_P S (X 3 0) k = some (X 5 k) ∧ s_K S (X 5 k) = 11 ∧ s_N S (X 5 k) = 22) ∧
  (s_K S (X 6 0) = 11 ∧ s_N S (X 6 0) = 11 ∧ s_K S (X 7 0) = 11 ∧ s_N S (X 7 0) = 12 ∧ s_K S (X 8 0) = 11 ∧ s_N S (X 8 0) = 12) ∧
  (E.2.2 → s_K S (X 0 0) = 10 ∧ s_R S 289 (X 0 0) = some (X 1 0))
def RV (X : Nat → Nat → Nat) (E : fT) (B : Nat → Nat → Int32) (Z : yT) : Prop :=
  (∀ k : Nat, k < E.2.1 → ∀ c : Nat, c < 22 → B (X 5 k) c = Z c k) ∧
  (∀ i : Nat, i < E.1 → ∀ c : Nat, c < 10 → B (X 4 i) c = Z (32 + c) i) ∧
  (∀ c : Nat, c < 11 → B (X 6 0) c = Z (64 + c) 0) ∧
  (∀ k : Nat, k < 12 → B (X 7 0) k = Z 22 k) ∧ (∀ k : Nat, k < 12 → B (X 8 0) k = Z 23 k)
def RC (X : Nat → Nat → Nat) (E : fT) (S : sT) (Z : yT) : Prop := RS X E S ∧ RV X E (s_B S) Z ∧ (E.2.2 → s_I S 288 (X 0 0) = Z 80 0)
def rSt (X : Nat → Nat → Nat) (E : fT) (P : sT → Prop) : Prop := (∀ (S : sT) (f k j : Nat) (v : Int32), r_ok E f k → P S → P (s_sB S (X f k) j v)) ∧ (∀ (S : sT) (v : Int32), P S → P (s_sI S 288 (X 0 0) v))
/-- the cell of a column and number: array family, array number, place -/
def r_c (f k j : Nat) : Nat × Nat := if f = 5 then (j, k) else if f = 4 then (32 + j, k) else if f = 6 then (64 + j, 0) else if f = 7 then (22, j) else (23, j)
def r_w (f : Nat) : Nat := if f = 5 then 22 else if f = 4 then 10 else if f = 6 then 11 else 12
theorem RV_get {X : Nat → Nat → Nat} {E : fT} {B : Nat → Nat → Int32} {Z : yT} (h : RV X E B Z) {f k j : Nat} (ho : r_ok E f k) (hj : j < r_w f) : B (X f k) j = Z (r_c f k j).1 (r_c f k j).2 := by
  obtain ⟨h5, h4, h6, h7, h8⟩ := h
  rcases ho with ⟨e, hk⟩ | ⟨e, hk⟩ | ⟨a, b, e⟩
  · subst e; exact h4 k hk j hj
  · subst e; exact h5 k hk j hj
  · subst e
    have : f = 6 ∨ f = 7 ∨ f = 8 := by omega
    rcases this with e | e | e
    · subst e; exact h6 j hj
    · subst e; exact h7 j hj
    · subst e; exact h8 j hj
theorem RV_mk {X : Nat → Nat → Nat} {E : fT} {B : Nat → Nat → Int32} {Z : yT} (h : ∀ f k j : Nat, r_ok E f k → j < r_w f → B (X f k) j = Z (r_c f k j).1 (r_c f k j).2) : RV X E B Z :=
  ⟨fun k hk c hc => h 5 k c (Or.inr (Or.inl ⟨rfl, hk⟩)) hc, fun i hi c hc => h 4 i c (Or.inl ⟨rfl, hi⟩) hc, fun c hc => h 6 0 c (Or.inr (Or.inr ⟨by decide, by decide, rfl⟩)) hc, fun k hk => h 7 0 k (Or.inr (Or.inr ⟨by decide, by decide, rfl⟩)) hk, fun k hk => h 8 0 k (Or.inr (Or.inr ⟨by decide, by decide, rfl⟩)) hk⟩
theorem r_ci {E : fT} {f k j g l i : Nat} (ho : r_ok E f k) (hj : j < r_w f) (hp : r_ok E g l) (hi : i < r_w g) (e : r_c f k j = r_c g l i) : f = g ∧ k = l ∧ j = i := by
  have hf : f = 4 ∨ f = 5 ∨ f = 6 ∨ f = 7 ∨ f = 8 := by rcases ho with ⟨h, _⟩ | ⟨h, _⟩ | ⟨_, _, _⟩ <;> omega
  have hg : g = 4 ∨ g = 5 ∨ g = 6 ∨ g = 7 ∨ g = 8 := by rcases hp with ⟨h, _⟩ | ⟨h, _⟩ | ⟨_, _, _⟩ <;> omega
  have k0 : 6 ≤ f → k = 0 := by intro h; rcases ho with ⟨h1, _⟩ | ⟨h1, _⟩ | ⟨_, _, h1⟩ <;> omega
  have l0 : 6 ≤ g → l = 0 := by intro h; rcases hp with ⟨h1, _⟩ | ⟨h1, _⟩ | ⟨_, _, h1⟩ <;> omega
  rcases hf with e1 | e1 | e1 | e1 | e1 <;> rcases hg with e2 | e2 | e2 | e2 | e2 <;> subst e1 <;> subst e2 <;> simp [r_c, r_w] at e hj hi <;> first | (simp at k0 l0; omega) | omega
theorem wB {X : Nat → Nat → Nat} {E : fT} {S S1 : sT} {Z Z1 : yT} {f k j : Nat} {v : Int32} (ho : r_ok E f k) (hj : j < r_w f) (hC : RC X E S Z) (eS : S1 = s_sB S (X f k) j v) (eZ : Z1 = s_up2 Z (r_c f k j).1 (r_c f k j).2 v) (h80 : (r_c f k j).1 ≠ 80) : RC X E S1 Z1 := by
  subst eS eZ
  refine ⟨hC.1, RV_mk (fun g l i hp hi => ?_), fun hb => (hC.2.2 hb).trans (if_neg (fun z => h80 z.1.symm)).symm⟩
  by_cases e : g = f ∧ l = k ∧ i = j
  · obtain ⟨e1, e2, e3⟩ := e
    subst e1 e2 e3
    exact (if_pos ⟨rfl, rfl⟩).trans (if_pos ⟨rfl, rfl⟩).symm
  · refine (if_neg (fun z => ?_)).trans ((RV_get hC.2.1 hp hi).trans (if_neg (fun z => ?_)).symm)
    · obtain ⟨e1, e2⟩ := hC.1.2.1 g l f k hp ho z.1
      exact e ⟨e1, e2, z.2⟩
    · exact e (r_ci hp hi ho hj (Prod.ext z.1 z.2))
section
variable {X : Nat → Nat → Nat} {E : fT} {S S1 : sT} {Z Z1 : yT} {k i j e : Nat} {v : Int32}
theorem st_All : r_ok E 6 0 := Or.inr (Or.inr ⟨by decide, by decide, rfl⟩)
theorem st_Came : r_ok E 7 0 := Or.inr (Or.inr ⟨by decide, by decide, rfl⟩)
theorem st_More : r_ok E 8 0 := Or.inr (Or.inr ⟨by decide, by decide, rfl⟩)
theorem rK_Wld (hC : RC X E S Z) : s_K S (X 1 0) = 9 := hC.1.2.2.1.1
theorem rF_256 (hC : RC X E S Z) : s_R S 256 (X 1 0) = some (X 2 0) := hC.1.2.2.1.2.1
theorem rF_257 (hC : RC X E S Z) : s_R S 257 (X 1 0) = some (X 3 0) := hC.1.2.2.1.2.2.1
theorem rF_258 (hC : RC X E S Z) : s_R S 258 (X 1 0) = some (X 6 0) := hC.1.2.2.1.2.2.2.1
theorem rF_259 (hC : RC X E S Z) : s_R S 259 (X 1 0) = some (X 7 0) := hC.1.2.2.1.2.2.2.2.1
theorem rF_260 (hC : RC X E S Z) : s_R S 260 (X 1 0) = some (X 8 0) := hC.1.2.2.1.2.2.2.2.2
theorem rK_SArr (hC : RC X E S Z) : s_K S (X 2 0) = 13 := hC.1.2.2.2.1.1
theorem rN_SArr (hC : RC X E S Z) : s_N S (X 2 0) = E.1 := hC.1.2.2.2.1.2.1
theorem rK_FArr (hC : RC X E S Z) : s_K S (X 3 0) = 13 := hC.1.2.2.2.1.2.2.1
theorem rN_FArr (hC : RC X E S Z) : s_N S (X 3 0) = E.2.1 := hC.1.2.2.2.1.2.2.2
theorem rP_SArr (hC : RC X E S Z) (hi : i < E.1) : s_P S (X 2 0) i = some (X 4 i) := (hC.1.2.2.2.2.1 i hi).1
theorem rK_SR (hC : RC X E S Z) (hi : i < E.1) : s_K S (X 4 i) = 11 := (hC.1.2.2.2.2.1 i hi).2.1
theorem rN_SR (hC : RC X E S Z) (hi : i < E.1) : s_N S (X 4 i) = 10 := (hC.1.2.2.2.2.1 i hi).2.2
theorem rP_FArr (hC : RC X E S Z) (hk : k < E.2.1) : s_P S (X 3 0) k = some (X 5 k) := (hC.1.2.2.2.2.2.1 k hk).1
theorem rK_FR (hC : RC X E S Z) (hk : k < E.2.1) : s_K S (X 5 k) = 11 := (hC.1.2.2.2.2.2.1 k hk).2.1
theorem rN_FR (hC : RC X E S Z) (hk : k < E.2.1) : s_N S (X 5 k) = 22 := (hC.1.2.2.2.2.2.1 k hk).2.2
theorem rK_All (hC : RC X E S Z) : s_K S (X 6 0) = 11 := hC.1.2.2.2.2.2.2.1.1
theorem rN_All (hC : RC X E S Z) : s_N S (X 6 0) = 11 := hC.1.2.2.2.2.2.2.1.2.1
theorem rK_Came (hC : RC X E S Z) : s_K S (X 7 0) = 11 := hC.1.2.2.2.2.2.2.1.2.2.1
theorem rN_Came (hC : RC X E S Z) : s_N S (X 7 0) = 12 := hC.1.2.2.2.2.2.2.1.2.2.2.1
theorem rK_More (hC : RC X E S Z) : s_K S (X 8 0) = 11 := hC.1.2.2.2.2.2.2.1.2.2.2.2.1
theorem rN_More (hC : RC X E S Z) : s_N S (X 8 0) = 12 := hC.1.2.2.2.2.2.2.1.2.2.2.2.2
theorem rK_Mod (hC : RC X E S Z) (hB : E.2.2) : s_K S (X 0 0) = 10 := (hC.1.2.2.2.2.2.2.2 hB).1
theorem rF_289 (hC : RC X E S Z) (hB : E.2.2) : s_R S 289 (X 0 0) = some (X 1 0) := (hC.1.2.2.2.2.2.2.2 hB).2
theorem rI_80 (hC : RC X E S Z) (hB : E.2.2) : s_I S 288 (X 0 0) = Z 80 0 := hC.2.2 hB
theorem wI_80 (hC : RC X E S Z) (hB : E.2.2) (eS : S1 = s_sI S 288 (X 0 0) v) (eZ : Z1 = s_up2 Z 80 0 v) : RC X E S1 Z1 := by
  subst eS eZ
  exact ⟨hC.1, ⟨fun k hk c hc => (hC.2.1.1 k hk c hc).trans (if_neg (fun z => absurd z.1 (by omega))).symm, fun i hi c hc => (hC.2.1.2.1 i hi c hc).trans (if_neg (fun z => absurd z.1 (by omega))).symm, fun c hc => (hC.2.1.2.2.1 c hc).trans (if_neg (fun z => absurd z.1 (by omega))).symm, fun k hk => (hC.2.1.2.2.2.1 k hk).trans (if_neg (fun z => absurd z.1 (by omega))).symm, fun k hk => (hC.2.1.2.2.2.2 k hk).trans (if_neg (fun z => absurd z.1 (by omega))).symm⟩, fun _ => (if_pos ⟨rfl, rfl⟩).trans (if_pos ⟨rfl, rfl⟩).symm⟩
theorem rB_FR (hC : RC X E S Z) (hk : k < E.2.1) (he : e = j) (hj : j < 22) : s_B S (X 5 k) e = Z j k := he ▸ hC.2.1.1 k hk j hj
theorem rB_SR (hC : RC X E S Z) (hi : i < E.1) (he : e = j) (hj : j < 10) : s_B S (X 4 i) e = Z (32 + j) i := he ▸ hC.2.1.2.1 i hi j hj
theorem rB_All (hC : RC X E S Z) (he : e = j) (hj : j < 11) : s_B S (X 6 0) e = Z (64 + j) 0 := he ▸ hC.2.1.2.2.1 j hj
theorem rB_Came (hC : RC X E S Z) (he : e = j) (hj : j < 12) : s_B S (X 7 0) e = Z 22 j := he ▸ hC.2.1.2.2.2.1 j hj
theorem rB_More (hC : RC X E S Z) (he : e = j) (hj : j < 12) : s_B S (X 8 0) e = Z 23 j := he ▸ hC.2.1.2.2.2.2 j hj
theorem wB_FR (hC : RC X E S Z) (hk : k < E.2.1) (he : e = j) (hj : j < 22) (eS : S1 = s_sB S (X 5 k) e v) (eZ : Z1 = s_up2 Z j k v) : RC X E S1 Z1 := by
  subst he; exact wB (f := 5) (Or.inr (Or.inl ⟨rfl, hk⟩)) hj hC eS eZ (by show e ≠ 80; omega)
theorem wB_SR (hC : RC X E S Z) (hi : i < E.1) (he : e = j) (hj : j < 10) (eS : S1 = s_sB S (X 4 i) e v) (eZ : Z1 = s_up2 Z (32 + j) i v) : RC X E S1 Z1 := by
  subst he; exact wB (f := 4) (Or.inl ⟨rfl, hi⟩) hj hC eS eZ (by show 32 + e ≠ 80; omega)
theorem wB_All (hC : RC X E S Z) (he : e = j) (hj : j < 11) (eS : S1 = s_sB S (X 6 0) e v) (eZ : Z1 = s_up2 Z (64 + j) 0 v) : RC X E S1 Z1 := by
  subst he; exact wB (f := 6) (k := 0) st_All hj hC eS eZ (by show 64 + e ≠ 80; omega)
theorem wB_Came (hC : RC X E S Z) (he : e = j) (hj : j < 12) (eS : S1 = s_sB S (X 7 0) e v) (eZ : Z1 = s_up2 Z 22 j v) : RC X E S1 Z1 := by
  subst he; exact wB (f := 7) (k := 0) st_Came hj hC eS eZ (by show 22 ≠ 80; decide)
theorem wB_More (hC : RC X E S Z) (he : e = j) (hj : j < 12) (eS : S1 = s_sB S (X 8 0) e v) (eZ : Z1 = s_up2 Z 23 j v) : RC X E S1 Z1 := by
  subst he; exact wB (f := 8) (k := 0) st_More hj hC eS eZ (by show 23 ≠ 80; decide)
theorem q_lit0 : Int32.toNatClampNeg (0 : Int32) = 0 := by decide
theorem q_lit1 : Int32.toNatClampNeg (1 : Int32) = 1 := by decide
theorem q_lit2 : Int32.toNatClampNeg (2 : Int32) = 2 := by decide
theorem q_lit3 : Int32.toNatClampNeg (3 : Int32) = 3 := by decide
theorem q_lit4 : Int32.toNatClampNeg (4 : Int32) = 4 := by decide
theorem q_lit5 : Int32.toNatClampNeg (5 : Int32) = 5 := by decide
theorem q_lit6 : Int32.toNatClampNeg (6 : Int32) = 6 := by decide
theorem q_lit7 : Int32.toNatClampNeg (7 : Int32) = 7 := by decide
theorem q_lit8 : Int32.toNatClampNeg (8 : Int32) = 8 := by decide
theorem q_lit9 : Int32.toNatClampNeg (9 : Int32) = 9 := by decide
theorem q_lit10 : Int32.toNatClampNeg (10 : Int32) = 10 := by decide
theorem q_lit11 : Int32.toNatClampNeg (11 : Int32) = 11 := by decide
theorem q_lit12 : Int32.toNatClampNeg (12 : Int32) = 12 := by decide
theorem q_lit13 : Int32.toNatClampNeg (13 : Int32) = 13 := by decide
theorem q_lit14 : Int32.toNatClampNeg (14 : Int32) = 14 := by decide
theorem q_lit15 : Int32.toNatClampNeg (15 : Int32) = 15 := by decide
theorem q_lit16 : Int32.toNatClampNeg (16 : Int32) = 16 := by decide
theorem q_lit17 : Int32.toNatClampNeg (17 : Int32) = 17 := by decide
theorem q_lit18 : Int32.toNatClampNeg (18 : Int32) = 18 := by decide
theorem q_lit19 : Int32.toNatClampNeg (19 : Int32) = 19 := by decide
theorem q_lit20 : Int32.toNatClampNeg (20 : Int32) = 20 := by decide
theorem q_lit21 : Int32.toNatClampNeg (21 : Int32) = 21 := by decide
theorem q_lit22 : Int32.toNatClampNeg (22 : Int32) = 22 := by decide
theorem vp_lit0_10 : vp_in (0 : Int32) 10 := by unfold vp_in; decide
theorem vp_lit1_10 : vp_in (1 : Int32) 10 := by unfold vp_in; decide
theorem vp_lit2_10 : vp_in (2 : Int32) 10 := by unfold vp_in; decide
theorem vp_lit3_10 : vp_in (3 : Int32) 10 := by unfold vp_in; decide
theorem vp_lit4_10 : vp_in (4 : Int32) 10 := by unfold vp_in; decide
theorem vp_lit5_10 : vp_in (5 : Int32) 10 := by unfold vp_in; decide
theorem vp_lit6_10 : vp_in (6 : Int32) 10 := by unfold vp_in; decide
theorem vp_lit7_10 : vp_in (7 : Int32) 10 := by unfold vp_in; decide
theorem vp_lit8_10 : vp_in (8 : Int32) 10 := by unfold vp_in; decide
theorem vp_lit9_10 : vp_in (9 : Int32) 10 := by unfold vp_in; decide
theorem vp_lit0_11 : vp_in (0 : Int32) 11 := by unfold vp_in; decide
theorem vp_lit1_11 : vp_in (1 : Int32) 11 := by unfold vp_in; decide
theorem vp_lit2_11 : vp_in (2 : Int32) 11 := by unfold vp_in; decide
theorem vp_lit3_11 : vp_in (3 : Int32) 11 := by unfold vp_in; decide
theorem vp_lit4_11 : vp_in (4 : Int32) 11 := by unfold vp_in; decide
theorem vp_lit5_11 : vp_in (5 : Int32) 11 := by unfold vp_in; decide
theorem vp_lit6_11 : vp_in (6 : Int32) 11 := by unfold vp_in; decide
theorem vp_lit7_11 : vp_in (7 : Int32) 11 := by unfold vp_in; decide
theorem vp_lit8_11 : vp_in (8 : Int32) 11 := by unfold vp_in; decide
theorem vp_lit9_11 : vp_in (9 : Int32) 11 := by unfold vp_in; decide
theorem vp_lit10_11 : vp_in (10 : Int32) 11 := by unfold vp_in; decide
theorem vp_lit0_12 : vp_in (0 : Int32) 12 := by unfold vp_in; decide
theorem vp_lit1_12 : vp_in (1 : Int32) 12 := by unfold vp_in; decide
theorem vp_lit2_12 : vp_in (2 : Int32) 12 := by unfold vp_in; decide
theorem vp_lit3_12 : vp_in (3 : Int32) 12 := by unfold vp_in; decide
theorem vp_lit4_12 : vp_in (4 : Int32) 12 := by unfold vp_in; decide
theorem vp_lit5_12 : vp_in (5 : Int32) 12 := by unfold vp_in; decide
theorem vp_lit6_12 : vp_in (6 : Int32) 12 := by unfold vp_in; decide
theorem vp_lit7_12 : vp_in (7 : Int32) 12 := by unfold vp_in; decide
theorem vp_lit8_12 : vp_in (8 : Int32) 12 := by unfold vp_in; decide
theorem vp_lit9_12 : vp_in (9 : Int32) 12 := by unfold vp_in; decide
theorem vp_lit10_12 : vp_in (10 : Int32) 12 := by unfold vp_in; decide
theorem vp_lit11_12 : vp_in (11 : Int32) 12 := by unfold vp_in; decide
theorem vp_lit0_22 : vp_in (0 : Int32) 22 := by unfold vp_in; decide
theorem vp_lit1_22 : vp_in (1 : Int32) 22 := by unfold vp_in; decide
theorem vp_lit2_22 : vp_in (2 : Int32) 22 := by unfold vp_in; decide
theorem vp_lit3_22 : vp_in (3 : Int32) 22 := by unfold vp_in; decide
theorem vp_lit4_22 : vp_in (4 : Int32) 22 := by unfold vp_in; decide
theorem vp_lit5_22 : vp_in (5 : Int32) 22 := by unfold vp_in; decide
theorem vp_lit6_22 : vp_in (6 : Int32) 22 := by unfold vp_in; decide
theorem vp_lit7_22 : vp_in (7 : Int32) 22 := by unfold vp_in; decide
theorem vp_lit8_22 : vp_in (8 : Int32) 22 := by unfold vp_in; decide
theorem vp_lit9_22 : vp_in (9 : Int32) 22 := by unfold vp_in; decide
theorem vp_lit10_22 : vp_in (10 : Int32) 22 := by unfold vp_in; decide
theorem vp_lit11_22 : vp_in (11 : Int32) 22 := by unfold vp_in; decide
theorem vp_lit12_22 : vp_in (12 : Int32) 22 := by unfold vp_in; decide
theorem vp_lit13_22 : vp_in (13 : Int32) 22 := by unfold vp_in; decide
theorem vp_lit14_22 : vp_in (14 : Int32) 22 := by unfold vp_in; decide
theorem vp_lit15_22 : vp_in (15 : Int32) 22 := by unfold vp_in; decide
theorem vp_lit16_22 : vp_in (16 : Int32) 22 := by unfold vp_in; decide
theorem vp_lit17_22 : vp_in (17 : Int32) 22 := by unfold vp_in; decide
theorem vp_lit18_22 : vp_in (18 : Int32) 22 := by unfold vp_in; decide
theorem vp_lit19_22 : vp_in (19 : Int32) 22 := by unfold vp_in; decide
theorem vp_lit20_22 : vp_in (20 : Int32) 22 := by unfold vp_in; decide
theorem vp_lit21_22 : vp_in (21 : Int32) 22 := by unfold vp_in; decide
end
