/-! ===== p31: a day's water, all of it ===== -/
theorem wg_1 (a b c d : Int32) : a + b + (c + d) = a + c + (b + d) := by grind
theorem wg_2 (a b : Int32) : a - b + b = a := by grind
theorem sm_add (f g : Nat → Int32) (n : Nat) : sm (fun k => f k + g k) n = sm f n + sm g n := by
  induction n with
  | zero => rfl
  | succ n ih => rw [sm_s, sm_s, sm_s, ih]; exact wg_1 _ _ _ _
theorem wg_3 (n c : Int32) : (n + 1) * c = n * c + c := by grind
theorem sm_k (c : Int32) (n : Nat) : sm (fun _ => c) n = nI n * c := by
  induction n with
  | zero => rw [sm_0, show nI 0 = 0 from rfl, Int32.zero_mul]
  | succ n ih => rw [sm_s, ih, nI_succ]; exact (wg_3 _ _).symm
theorem sm_z {f : Nat → Int32} {n : Nat} (h : ∀ k, k < n → f k = 0) : sm f n = 0 := by
  induction n with
  | zero => rfl
  | succ n ih => rw [sm_s, ih (fun k hk => h k (by omega)), h n (by omega)]; rfl
section
variable {E : eT} {M M' X Y : yT} {n t s k j i a : Nat} {x y r wa fl th v : Int32}
/-- what stands, is left, sank, was drunk, or ran out -/
def TW (E : eT) (M : yT) : Int32 := sm (M 1) E.2.1 + sm (M 22) E.2.1 + sm (M 37) E.1 + (M 68 0 + (M 70 0 + (M 71 0 + M 72 0)))
theorem TW_c (h1 : ∀ c j, c = 1 ∨ c = 22 ∨ c = 37 ∨ c = 68 ∨ c = 70 ∨ c = 71 ∨ c = 72 → M' c j = M c j) : TW E M' = TW E M := by
  unfold TW
  rw [sm_c (f := M' 1) (g := M 1) (fun k _ => h1 1 k (by omega)), sm_c (f := M' 22) (g := M 22) (fun k _ => h1 22 k (by omega)), sm_c (f := M' 37) (g := M 37) (fun k _ => h1 37 k (by omega)), h1 68 0 (by omega), h1 70 0 (by omega), h1 71 0 (by omega), h1 72 0 (by omega)]
theorem wg_a (p q u a b c d v w : Int32) : p + q + u + (a + (b + (c + (v)))) = p + q + u + (a + (b + (c + w))) + (v - w) := by grind
theorem wg_b (p q u a b c d v w : Int32) : p + q + u + (a + (v + (c + (d)))) = p + q + u + (a + (w + (c + d))) + (v - w) := by grind
theorem wg_c (p q u a b c d v w : Int32) : p + q + u + (a + (b + (v + (d)))) = p + q + u + (a + (b + (w + d))) + (v - w) := by grind
theorem wg_d (p q u a b c d v w : Int32) : p + q + u + (v + (b + (c + (d)))) = p + q + u + (w + (b + (c + d))) + (v - w) := by grind
theorem wg_e (p q u z w : Int32) : p + w + q + u + z = p + q + u + z + w := by grind
theorem wg_f (p q u z w : Int32) : p + (q + w) + u + z = p + q + u + z + w := by grind
theorem wg_g (p q u z w : Int32) : p + q + (u + w) + z = p + q + u + z + w := by grind
theorem TW_72 : TW E (s_up2 M 72 0 v) = TW E M + (v - M 72 0) := by
  unfold TW
  rw [sm_o (by decide), sm_o (by decide), sm_o (by decide)]
  simp only [up_rd, Nat.reduceEqDiff, false_and, and_self, if_true, if_false]
  exact wg_a _ _ _ _ _ _ 0 _ _
theorem TW_70 : TW E (s_up2 M 70 0 v) = TW E M + (v - M 70 0) := by
  unfold TW
  rw [sm_o (by decide), sm_o (by decide), sm_o (by decide)]
  simp only [up_rd, Nat.reduceEqDiff, false_and, and_self, if_true, if_false]
  exact wg_b _ _ _ _ 0 _ _ _ _
theorem TW_71 : TW E (s_up2 M 71 0 v) = TW E M + (v - M 71 0) := by
  unfold TW
  rw [sm_o (by decide), sm_o (by decide), sm_o (by decide)]
  simp only [up_rd, Nat.reduceEqDiff, false_and, and_self, if_true, if_false]
  exact wg_c _ _ _ _ _ 0 _ _ _
theorem TW_68 : TW E (s_up2 M 68 0 v) = TW E M + (v - M 68 0) := by
  unfold TW
  rw [sm_o (by decide), sm_o (by decide), sm_o (by decide)]
  simp only [up_rd, Nat.reduceEqDiff, false_and, and_self, if_true, if_false]
  exact wg_d _ _ _ 0 _ _ _ _ _
theorem TW_1 (hk : k < E.2.1) : TW E (s_up2 M 1 k v) = TW E M + (v - M 1 k) := by
  unfold TW
  rw [sm_w hk, sm_o (by decide), sm_o (by decide)]
  simp only [up_rd, Nat.reduceEqDiff, false_and, if_false]
  exact wg_e _ _ _ _ _
theorem TW_22 (hk : k < E.2.1) : TW E (s_up2 M 22 k v) = TW E M + (v - M 22 k) := by
  unfold TW
  rw [sm_o (by decide), sm_w hk, sm_o (by decide)]
  simp only [up_rd, Nat.reduceEqDiff, false_and, if_false]
  exact wg_f _ _ _ _ _
theorem TW_37 (hi : i < E.1) : TW E (s_up2 M 37 i v) = TW E M + (v - M 37 i) := by
  unfold TW
  rw [sm_o (by decide), sm_o (by decide), sm_w hi]
  simp only [up_rd, Nat.reduceEqDiff, false_and, if_false]
  exact wg_g _ _ _ _ _
theorem TW_o {c : Nat} (h : c ≠ 1 ∧ c ≠ 22 ∧ c ≠ 37 ∧ c ≠ 68 ∧ c ≠ 70 ∧ c ≠ 71 ∧ c ≠ 72) : TW E (s_up2 M c a v) = TW E M := TW_c (fun c' j hc => if_neg (fun z => by omega))
/-! the weir -/
theorem weir_w (h68 : M 68 0 = th) : (fun X : yT => X 68 0 = th - sm (X 41) E.1) (itd (weirS th y) 0 E.1 M) := by
  have := itd_inv (f := weirS th y) (R := fun j (X : yT) => X 68 0 = th - sm (X 41) j) E.1 0 M (fun j X _ _ hx => by
    unfold weirS
    have e1 : s_up2 (s_up2 X 41 j (th * X 32 j / y)) 68 0 (X 68 0 - th * X 32 j / y) 68 0 = X 68 0 - th * X 32 j / y := if_pos ⟨rfl, rfl⟩
    rw [e1, sm_s, sm_c (g := X 41) (fun k hk => (if_neg (fun z => by omega)).trans (if_neg (fun z => by omega))), hx]
    have e2 : s_up2 (s_up2 X 41 j (th * X 32 j / y)) 68 0 (X 68 0 - th * X 32 j / y) 41 j = th * X 32 j / y := (if_neg (fun z => by omega)).trans (if_pos ⟨rfl, rfl⟩)
    rw [hx] at e2
    rw [e2]
    exact rg_4 _ _ _) (by rw [sm_0, Int32.sub_zero]; exact h68)
  simp only [Nat.zero_add] at this
  exact this
theorem hd_rd {c : Nat} (h : c ≠ 64 ∧ c ≠ 65 ∧ c ≠ 66 ∧ c ≠ 67 ∧ c ≠ 69) : headM E fl wa r M c j = M c j := by
  unfold headM
  rw [up_rd, up_rd, up_rd, up_rd, up_rd, if_neg (by omega), if_neg (by omega), if_neg (by omega), if_neg (by omega), if_neg (by omega)]
theorem wg_h (a b c : Int32) : a + (b + c - c) = a + b := by grind
theorem wg_i (p f z q : Int32) : p + (f + z - q - z) + q = p + f := by grind
theorem split_w (h1 : 1 ≤ E.1) (h3 : E.1 ≤ 3) (hS : ∀ i, i < E.1 → iS M i) : TW E (splitM E fl (headM E fl wa r M)) + sm (splitM E fl (headM E fl wa r M) 41) E.1 = TW E M + fl ∧ splitM E fl (headM E fl wa r M) 69 0 = M 69 0 + (fl + r * nI E.2.1) := by
  have hT : TW E (headM E fl wa r M) = TW E M := TW_c (fun c j hc => hd_rd (by omega))
  have e68 : headM E fl wa r M 68 0 = M 68 0 := hd_rd (by decide)
  have e69 : headM E fl wa r M 69 0 = M 69 0 + (fl + r * nI E.2.1) := by unfold headM; rw [up_rd, if_pos ⟨rfl, rfl⟩]
  have hn : ∀ i, i < E.1 → 1 ≤ (headM E fl wa r M 32 i).toInt ∧ (headM E fl wa r M 32 i).toInt ≤ 9 := fun i hi => by
    rw [hd_rd (by decide)]; exact ⟨(hS i hi).1, (hS i hi).2.1⟩
  have hpos := notP_b (M := headM E fl wa r M) hn h3 E.1 (Nat.le_refl _)
  unfold splitM
  rw [if_pos (by rw [ti_lt]; have l0 : (0 : Int32).toInt = 0 := rfl; omega)]
  generalize itd (notF (headM E fl wa r M)) 0 E.1 0 = nn
  have hw := weir_w (E := E) (M := s_up2 (headM E fl wa r M) 68 0 (fl + headM E fl wa r M 68 0)) (th := fl + headM E fl wa r M 68 0) (y := nn) (if_pos ⟨rfl, rfl⟩)
  have hf : ∀ c j, c ≠ 41 → c ≠ 68 → itd (weirS (fl + headM E fl wa r M 68 0) nn) 0 E.1 (s_up2 (headM E fl wa r M) 68 0 (fl + headM E fl wa r M 68 0)) c j = headM E fl wa r M c j := fun c j k1 k2 => (fr_itd (fun k Y => fr_weir ⟨k1, k2⟩) _ _ _).trans (if_neg (fun z => k2 z.1))
  generalize itd (weirS (fl + headM E fl wa r M 68 0) nn) 0 E.1 (s_up2 (headM E fl wa r M) 68 0 (fl + headM E fl wa r M 68 0)) = X at hw hf
  refine ⟨?_, by rw [hf 69 0 (by decide) (by decide)]; exact e69⟩
  have hX : TW E X = TW E (s_up2 (headM E fl wa r M) 68 0 (X 68 0)) := TW_c (fun c j hc => by
    by_cases c68 : c = 68 ∧ j = 0
    · rw [c68.1, c68.2]; exact (if_pos ⟨rfl, rfl⟩).symm
    · by_cases c6 : c = 68
      · subst c6
        have q : ∀ d (Y : yT), itd (weirS (fl + headM E fl wa r M 68 0) nn) 0 d Y 68 j = Y 68 j := fun d Y => fr_itd (fun k Z => by
          unfold weirS
          rw [up_rd, if_neg c68, up_rd, if_neg (by omega)]) d 0 Y
        sorry
      · rw [up_rd, if_neg (fun z => c6 z.1)]; exact hf c j (by omega) c6)
  sorry
end
