/-! ===== a new world of the model: the copying ===== -/
section
variable {D T D2 : Nat → Prop} {S S' S0 S1 : sT} {a b q m x y W : Nat} {X X' : Nat → Nat → Nat} {F F' : fT} {N M M' : yT}
theorem FRM.cB {i j n : Nat} (h : FRM D T S0 S) (ha : s_K S0 b = 0 ∨ D b) : FRM D T S0 (s_cB S a b i j n) := by
  refine ⟨h.1, fun y hy => ⟨(h.2 y hy).1, fun hd => ?_⟩⟩
  have hne : y ≠ b := fun z => ha.elim (fun z2 => hy (z ▸ z2)) (fun z2 => hd (z ▸ z2))
  obtain ⟨a1, a2, a3, a4, a5⟩ := (h.2 y hy).2 hd
  exact ⟨a1, a2, a3, fun j => (congrFun (if_neg hne) j).trans (a4 j), a5⟩
theorem cB_in {n j : Nat} (hj : j < n) : s_B (s_cB S a b 0 0 n) b j = s_B S a j := by
  show (if b = b then va_cpy (s_B S a) (s_B S b) 0 0 n else s_B S b) j = _
  rw [if_pos rfl, pk_cpy_in (Nat.zero_le j) (by omega), Nat.zero_add, Nat.sub_zero]
theorem cB_out {n : Nat} (hne : y ≠ b) : s_B (s_cB S a b 0 0 n) y = s_B S y := if_neg hne
theorem cB_RV {f k : Nat} (hI : r_inj X F) (h : RV X F (s_B S) M) (ho : r_ok F f k) (hs : ∀ j, j < r_w f → s_B S a j = M' (r_c f k j).1 (r_c f k j).2) (hk : ∀ g l j, r_ok F g l → j < r_w g → ¬ (g = f ∧ l = k) → M' (r_c g l j).1 (r_c g l j).2 = M (r_c g l j).1 (r_c g l j).2) : RV X F (s_B (s_cB S a (X f k) 0 0 (r_w f))) M' := by
  refine RV_mk (fun g l j hp hj => ?_)
  by_cases e : g = f ∧ l = k
  · obtain ⟨rfl, rfl⟩ := e
    rw [cB_in hj]; exact hs j hj
  · rw [cB_out (fun z => e (hI g l f k hp ho z)), RV_get h hp hj]
    exact (hk g l j hp hj e).symm
theorem cB_RVo {n : Nat} (h : RV X F (s_B S) M) (hb : ∀ f k, r_ok F f k → X f k ≠ b) : RV X F (s_B (s_cB S a b 0 0 n)) M :=
  RV_mk (fun g l j hp hj => by rw [cB_out (hb g l hp)]; exact RV_get h hp hj)
/-- the copying of a world, on its way -/
def WI (S0 : sT) (X X' : Nat → Nat → Nat) (F F' : fT) (N : yT) (S : sT) (M : yT) : Prop := FRM no_ no_ S0 S ∧ RS X F S ∧ RV X F (s_B S) N ∧ RS X' F' S ∧ RV X' F' (s_B S) M ∧ (AL S0 → AL S)
def wS (N : yT) (i : Nat) : yT := fun c k => if 32 ≤ c ∧ c < 42 ∧ k < i then N c k else 0
def wF (N : yT) (nS k0 : Nat) : yT := fun c k => if c < 22 ∧ k < k0 then N c k else wS N nS c k
def wE (N : yT) (nS nF : Nat) : yT := fun c k => if 64 ≤ c ∧ c < 75 ∧ k = 0 then N c k else wF N nS nF c k
theorem WI_cp {f k : Nat} (h : WI S0 X X' F F' N S M) (hsep : ∀ f k, r_ok F f k ∨ True → ∀ g j, r_ok F f k → r_ok F' g j → X f k ≠ X' g j) (h0 : s_K S0 (X' f k) = 0) (ho : r_ok F f k) (ho' : r_ok F' f k) (hs : ∀ j, j < r_w f → N (r_c f k j).1 (r_c f k j).2 = M' (r_c f k j).1 (r_c f k j).2) (hk : ∀ g l j, r_ok F' g l → j < r_w g → ¬ (g = f ∧ l = k) → M' (r_c g l j).1 (r_c g l j).2 = M (r_c g l j).1 (r_c g l j).2) : WI S0 X X' F F' N (s_cB S (X f k) (X' f k) 0 0 (r_w f)) M' :=
  ⟨h.1.cB (Or.inl h0), h.2.1, cB_RVo h.2.2.1 (fun g l hp => hsep g l (Or.inr trivial) f k hp ho'), h.2.2.2.1, cB_RV h.2.2.2.1.2.1 h.2.2.2.2.1 ho' (fun j hj => (RV_get h.2.2.1 ho hj).trans (hs j hj)) hk, h.2.2.2.2.2⟩
theorem l65 {Q : Nat → sT → Prop} {mc ms kc ks : Nat} (hF1 : F.1 ≤ F'.1) (hF2 : F.2.1 ≤ F'.2.1) (h12 : F'.2.1 ≤ 12) (hsep : ∀ f k, r_ok F f k ∨ True → ∀ g j, r_ok F f k → r_ok F' g j → X f k ≠ X' g j) (h0 : ∀ g j, r_ok F' g j → s_K S0 (X' g j) = 0) (hQ : ∀ S', WI S0 X X' F F' N S' (wE N F.1 F.2.1) → Q (X' 1 0) S') : ∀ (d k : Nat) (S : sT), k + d = F.2.1 → WI S0 X X' F F' N S (wF N F.1 k) → wA_X7_with_b65 mc ms Q (d + 1) kc ks (X 1 0) (X' 1 0) (nI k) S := by
  intro d
  induction d with
  | zero =>
    intro k S hk h
    obtain ⟨h1, h2, h3, h4, h5⟩ := id h
    obtain ⟨-, -, ⟨a1, a2, a3, a4, a5, a6⟩, ⟨b1, b2, b3, b4⟩, b5, b6, ⟨c1, c2, -⟩, -⟩ := h2
    obtain ⟨-, -, ⟨a1', a2', a3', a4', a5', a6'⟩, ⟨b1', b2', b3', b4'⟩, b5', b6', ⟨c1', c2', -⟩, -⟩ := h4
    unfold wA_X7_with_b65
    refine ⟨a1, X 3 0, a3, b3, fun x ex => ⟨fun _ => ?_, fun c => absurd ?_ c⟩⟩
    · have e0 : Int32.toNatClampNeg (0 : Int32) = 0 := by decide
      have e11 : Int32.toNatClampNeg (11 : Int32) = 11 := by decide
      refine ⟨X 6 0, a4, a1', X' 6 0, a4', c1, c1', by decide, by decide, by decide, by rw [e0, e11, c2]; decide, by rw [e0, e11, c2']; decide, fun S1 e1 => ?_⟩
      rw [e0, e11] at e1
      subst e1
      refine hQ _ (WI_cp (f := 6) (k := 0) h hsep (h0 6 0 st_All) st_All st_All (fun j hj => ?_) (fun g l j hp hj hne => ?_))
      · have hj : j < 11 := hj
        show N (64 + j) 0 = wE N F.1 F.2.1 (64 + j) 0
        exact (if_pos ⟨by omega, by omega, rfl⟩).symm
      · rw [show k = F.2.1 by omega]
        refine if_neg (fun z => hne ?_)
        obtain ⟨z1, z2, z3⟩ := z
        unfold r_c at z1
        rcases hp with ⟨rfl, hl⟩ | ⟨rfl, hl⟩ | ⟨l1, l2, rfl⟩
        · have : j < 10 := hj
          simp at z1
          omega
        · have : j < 22 := hj
          simp at z1
          omega
        · rcases (show g = 6 ∨ g = 7 ∨ g = 8 by omega) with rfl | rfl | rfl
          · exact ⟨rfl, rfl⟩
          · simp at z1
          · simp at z1
    · rw [ex, b4, show k = F.2.1 by omega]
      exact Int32.le_refl _
  | succ d ih =>
    intro k S hk h
    obtain ⟨h1, h2, h3, h4, h5⟩ := id h
    obtain ⟨-, -, ⟨a1, a2, a3, a4, a5, a6⟩, ⟨b1, b2, b3, b4⟩, b5, b6, ⟨c1, c2, -⟩, -⟩ := h2
    obtain ⟨-, -, ⟨a1', a2', a3', a4', a5', a6'⟩, ⟨b1', b2', b3', b4'⟩, b5', b6', ⟨c1', c2', -⟩, -⟩ := h4
    have hkF : k < F.2.1 := by omega
    have hkF' : k < F'.2.1 := by omega
    have e0 : Int32.toNatClampNeg (0 : Int32) = 0 := by decide
    have e22 : Int32.toNatClampNeg (22 : Int32) = 22 := by decide
    unfold wA_X7_with_b65
    refine ⟨a1, X 3 0, a3, b3, fun x ex => ⟨fun c => ?_, fun c => ⟨X 3 0, a3, b3, by rw [b4]; exact ls_vp (by omega) hkF, X 5 k, by rw [nI_cl (by omega)]; exact (b6 k hkF).1, a1', X' 3 0, a3', b3', by rw [b4']; exact ls_vp (by omega) hkF', X' 5 k, by rw [nI_cl (by omega)]; exact (b6' k hkF').1, (b6 k hkF).2.1, (b6' k hkF').2.1, by decide, by decide, by decide, by rw [e0, e22, (b6 k hkF).2.2]; decide, by rw [e0, e22, (b6' k hkF').2.2]; decide, fun S1 e1 u eu => ?_⟩⟩⟩
    · rw [ex, b4, Int32.le_iff_toInt_le, nI_toInt (by omega), nI_toInt (by omega)] at c
      omega
    · rw [e0, e22] at e1
      subst e1
      have eu2 : u = nI (k + 1) := by rw [eu, nI_succ]
      subst eu2
      refine ih (k + 1) _ (by omega) (WI_cp (f := 5) (k := k) h hsep (h0 5 k (Or.inr (Or.inl ⟨rfl, hkF'⟩))) (Or.inr (Or.inl ⟨rfl, hkF⟩)) (Or.inr (Or.inl ⟨rfl, hkF'⟩)) (fun j hj => ?_) (fun g l j hp hj hne => ?_))
      · have hj : j < 22 := hj
        show N j k = if j < 22 ∧ k < k + 1 then N j k else _
        rw [if_pos ⟨hj, by omega⟩]
      · unfold wF
        by_cases z : (r_c g l j).1 < 22
        · have hg : g = 5 := by
            unfold r_c at z
            rcases hp with ⟨rfl, hl⟩ | ⟨rfl, hl⟩ | ⟨l1, l2, rfl⟩
            · simp at z; omega
            · rfl
            · rcases (show g = 6 ∨ g = 7 ∨ g = 8 by omega) with rfl | rfl | rfl <;> simp at z <;> omega
          subst hg
          have hl : l ≠ k := fun z => hne ⟨rfl, z⟩
          have e5 : (r_c 5 l j).2 = l := rfl
          rw [e5]
          by_cases y : l < k
          · rw [if_pos ⟨z, by omega⟩, if_pos ⟨z, y⟩]
          · rw [if_neg (fun w => by omega), if_neg (fun w => y w.2)]
        · rw [if_neg (fun w => z w.1), if_neg (fun w => z w.1)]
theorem l25 {Q : Nat → sT → Prop} {mc ms kc ks : Nat} (hF1 : F.1 ≤ F'.1) (hF2 : F.2.1 ≤ F'.2.1) (h12 : F'.2.1 ≤ 12) (h3 : F'.1 ≤ 3) (hsep : ∀ f k, r_ok F f k ∨ True → ∀ g j, r_ok F f k → r_ok F' g j → X f k ≠ X' g j) (h0 : ∀ g j, r_ok F' g j → s_K S0 (X' g j) = 0) (hQ : ∀ S', WI S0 X X' F F' N S' (wE N F.1 F.2.1) → Q (X' 1 0) S') : ∀ (d k : Nat) (S : sT), k + d = F.1 → WI S0 X X' F F' N S (wS N k) → wA_X7_with_b25 mc ms Q (d + 1) kc ks (X 1 0) (X' 1 0) (nI k) S := by
  intro d
  induction d with
  | zero =>
    intro k S hk h
    obtain ⟨h1, h2, h3, h4, h5⟩ := id h
    obtain ⟨-, -, ⟨a1, a2, a3, a4, a5, a6⟩, ⟨b1, b2, b3, b4⟩, -⟩ := h2
    unfold wA_X7_with_b25
    refine ⟨a1, X 2 0, a2, b1, fun x ex => ⟨fun _ => ⟨F.2.1 + 1, l65 hF1 hF2 h12 hsep h0 hQ F.2.1 0 S (by omega) ⟨h.1, h.2.1, h.2.2.1, h.2.2.2.1, ?_, h.2.2.2.2.2⟩⟩, fun c => absurd ?_ c⟩⟩
    · have e9 : wF N F.1 0 = wS N k := by
        funext c j
        unfold wF
        rw [if_neg (fun z => by omega), show k = F.1 by omega]
      rw [e9]; exact h5.1
    · rw [ex, b2, show k = F.1 by omega]
      exact Int32.le_refl _
  | succ d ih =>
    intro k S hk h
    obtain ⟨h1, h2, h3, h4, h5⟩ := id h
    obtain ⟨-, -, ⟨a1, a2, a3, a4, a5, a6⟩, ⟨b1, b2, b3, b4⟩, b5, b6, ⟨c1, c2, -⟩, -⟩ := h2
    obtain ⟨-, -, ⟨a1', a2', a3', a4', a5', a6'⟩, ⟨b1', b2', b3', b4'⟩, b5', b6', ⟨c1', c2', -⟩, -⟩ := h4
    have hkF : k < F.1 := by omega
    have hkF' : k < F'.1 := by omega
    have e0 : Int32.toNatClampNeg (0 : Int32) = 0 := by decide
    have e10 : Int32.toNatClampNeg (10 : Int32) = 10 := by decide
    unfold wA_X7_with_b25
    refine ⟨a1, X 2 0, a2, b1, fun x ex => ⟨fun c => ?_, fun c => ⟨X 2 0, a2, b1, by rw [b2]; exact ls_vp (by omega) hkF, X 4 k, by rw [nI_cl (by omega)]; exact (b5 k hkF).1, a1', X' 2 0, a2', b1', by rw [b2']; exact ls_vp (by omega) hkF', X' 4 k, by rw [nI_cl (by omega)]; exact (b5' k hkF').1, (b5 k hkF).2.1, (b5' k hkF').2.1, by decide, by decide, by decide, by rw [e0, e10, (b5 k hkF).2.2]; decide, by rw [e0, e10, (b5' k hkF').2.2]; decide, fun S1 e1 u eu => ?_⟩⟩⟩
    · rw [ex, b2, Int32.le_iff_toInt_le, nI_toInt (by omega), nI_toInt (by omega)] at c
      omega
    · rw [e0, e10] at e1
      subst e1
      have eu2 : u = nI (k + 1) := by rw [eu, nI_succ]
      subst eu2
      refine ih (k + 1) _ (by omega) (WI_cp (f := 4) (k := k) h hsep (h0 4 k (Or.inl ⟨rfl, hkF'⟩)) (Or.inl ⟨rfl, hkF⟩) (Or.inl ⟨rfl, hkF'⟩) (fun j hj => ?_) (fun g l j hp hj hne => ?_))
      · have hj : j < 10 := hj
        show N (32 + j) k = if 32 ≤ 32 + j ∧ 32 + j < 42 ∧ k < k + 1 then N (32 + j) k else _
        rw [if_pos ⟨by omega, by omega, by omega⟩]
      · unfold wS
        by_cases z : 32 ≤ (r_c g l j).1 ∧ (r_c g l j).1 < 42
        · have hg : g = 4 := by
            unfold r_c at z
            rcases hp with ⟨rfl, hl⟩ | ⟨rfl, hl⟩ | ⟨l1, l2, rfl⟩
            · rfl
            · have : j < 22 := hj
              simp at z; omega
            · rcases (show g = 6 ∨ g = 7 ∨ g = 8 by omega) with rfl | rfl | rfl <;> simp at z <;> omega
          subst hg
          have hl : l ≠ k := fun z => hne ⟨rfl, z⟩
          have e5 : (r_c 4 l j).2 = l := rfl
          rw [e5]
          by_cases y : l < k
          · rw [if_pos ⟨z.1, z.2, by omega⟩, if_pos ⟨z.1, z.2, y⟩]
          · rw [if_neg (fun w => by omega), if_neg (fun w => y w.2.2)]
        · rw [if_neg (fun w => z ⟨w.1, w.2.1⟩), if_neg (fun w => z ⟨w.1, w.2.1⟩)]
end
