/-! ===== p31: a day's water, all of it ===== -/
theorem wg_1 (a b c d : Int32) : a + b + (c + d) = a + c + (b + d) := by grind
theorem wg_2 (a b : Int32) : a - b + b = a := by grind
theorem sm_add (f g : Nat → Int32) (n : Nat) : sm (fun k => f k + g k) n = sm f n + sm g n := by
  induction n with
  | zero => rfl
  | succ n ih => rw [sm_s, sm_s, sm_s, ih]; exact wg_1 _ _ _ _
theorem wg_3 (n c : Int32) : (n + 1) * c = n * c + c := by grind
theorem sm_k (c : Int32) (n : Nat) : sm (fun _ => c) n = nI n * c := by
  induction n with
  | zero => rw [sm_0, show nI 0 = 0 from rfl, Int32.zero_mul]
  | succ n ih => rw [sm_s, ih, nI_succ]; exact (wg_3 _ _).symm
theorem sm_z {f : Nat → Int32} {n : Nat} (h : ∀ k, k < n → f k = 0) : sm f n = 0 := by
  induction n with
  | zero => rfl
  | succ n ih => rw [sm_s, ih (fun k hk => h k (by omega)), h n (by omega)]; rfl
section
variable {E : eT} {M M' X Y : yT} {n t s k j i a : Nat} {x y r wa fl th v : Int32}
/-- what stands, is left, sank, was drunk, or ran out -/
def TW (E : eT) (M : yT) : Int32 := sm (M 1) E.2.1 + sm (M 22) E.2.1 + sm (M 37) E.1 + (M 68 0 + (M 70 0 + (M 71 0 + M 72 0)))
theorem TW_c (h1 : ∀ c j, c = 1 ∨ c = 22 ∨ c = 37 → M' c j = M c j) (h2 : ∀ c, c = 68 ∨ c = 70 ∨ c = 71 ∨ c = 72 → M' c 0 = M c 0) : TW E M' = TW E M := by
  unfold TW
  rw [sm_c (f := M' 1) (g := M 1) (fun k _ => h1 1 k (by omega)), sm_c (f := M' 22) (g := M 22) (fun k _ => h1 22 k (by omega)), sm_c (f := M' 37) (g := M 37) (fun k _ => h1 37 k (by omega)), h2 68 (by omega), h2 70 (by omega), h2 71 (by omega), h2 72 (by omega)]
theorem wg_a (p q u a b c d v w : Int32) : p + q + u + (a + (b + (c + (v)))) = p + q + u + (a + (b + (c + w))) + (v - w) := by grind
theorem wg_b (p q u a b c d v w : Int32) : p + q + u + (a + (v + (c + (d)))) = p + q + u + (a + (w + (c + d))) + (v - w) := by grind
theorem wg_c (p q u a b c d v w : Int32) : p + q + u + (a + (b + (v + (d)))) = p + q + u + (a + (b + (w + d))) + (v - w) := by grind
theorem wg_d (p q u a b c d v w : Int32) : p + q + u + (v + (b + (c + (d)))) = p + q + u + (w + (b + (c + d))) + (v - w) := by grind
theorem wg_e (p q u z w : Int32) : p + w + q + u + z = p + q + u + z + w := by grind
theorem wg_f (p q u z w : Int32) : p + (q + w) + u + z = p + q + u + z + w := by grind
theorem wg_g (p q u z w : Int32) : p + q + (u + w) + z = p + q + u + z + w := by grind
theorem TW_72 : TW E (s_up2 M 72 0 v) = TW E M + (v - M 72 0) := by
  unfold TW
  rw [sm_o (by decide), sm_o (by decide), sm_o (by decide)]
  simp only [up_rd, Nat.reduceEqDiff, false_and, and_self, if_true, if_false]
  exact wg_a _ _ _ _ _ _ 0 _ _
theorem TW_70 : TW E (s_up2 M 70 0 v) = TW E M + (v - M 70 0) := by
  unfold TW
  rw [sm_o (by decide), sm_o (by decide), sm_o (by decide)]
  simp only [up_rd, Nat.reduceEqDiff, false_and, and_self, if_true, if_false]
  exact wg_b _ _ _ _ 0 _ _ _ _
theorem TW_71 : TW E (s_up2 M 71 0 v) = TW E M + (v - M 71 0) := by
  unfold TW
  rw [sm_o (by decide), sm_o (by decide), sm_o (by decide)]
  simp only [up_rd, Nat.reduceEqDiff, false_and, and_self, if_true, if_false]
  exact wg_c _ _ _ _ _ 0 _ _ _
theorem TW_68 : TW E (s_up2 M 68 0 v) = TW E M + (v - M 68 0) := by
  unfold TW
  rw [sm_o (by decide), sm_o (by decide), sm_o (by decide)]
  simp only [up_rd, Nat.reduceEqDiff, false_and, and_self, if_true, if_false]
  exact wg_d _ _ _ 0 _ _ _ _ _
theorem TW_1 (hk : k < E.2.1) : TW E (s_up2 M 1 k v) = TW E M + (v - M 1 k) := by
  unfold TW
  rw [sm_w hk, sm_o (by decide), sm_o (by decide)]
  simp only [up_rd, Nat.reduceEqDiff, false_and, if_false]
  exact wg_e _ _ _ _ _
theorem TW_22 (hk : k < E.2.1) : TW E (s_up2 M 22 k v) = TW E M + (v - M 22 k) := by
  unfold TW
  rw [sm_o (by decide), sm_w hk, sm_o (by decide)]
  simp only [up_rd, Nat.reduceEqDiff, false_and, if_false]
  exact wg_f _ _ _ _ _
theorem TW_37 (hi : i < E.1) : TW E (s_up2 M 37 i v) = TW E M + (v - M 37 i) := by
  unfold TW
  rw [sm_o (by decide), sm_o (by decide), sm_w hi]
  simp only [up_rd, Nat.reduceEqDiff, false_and, if_false]
  exact wg_g _ _ _ _ _
theorem TW_o {c : Nat} (h : c ≠ 1 ∧ c ≠ 22 ∧ c ≠ 37 ∧ c ≠ 68 ∧ c ≠ 70 ∧ c ≠ 71 ∧ c ≠ 72) : TW E (s_up2 M c a v) = TW E M := TW_c (fun c' j hc => if_neg (fun z => by omega)) (fun c' hc => if_neg (fun z => by omega))
/-! the weir -/
theorem weir_w (h68 : M 68 0 = th) : (fun X : yT => X 68 0 = th - sm (X 41) E.1) (itd (weirS th y) 0 E.1 M) := by
  have := itd_inv (f := weirS th y) (R := fun j (X : yT) => X 68 0 = th - sm (X 41) j) E.1 0 M (fun j X _ _ hx => by
    unfold weirS
    generalize th * X 32 j / y = q
    have e1 : s_up2 (s_up2 X 41 j q) 68 0 (X 68 0 - q) 68 0 = X 68 0 - q := by rw [up_rd, if_pos ⟨rfl, rfl⟩]
    have e2 : s_up2 (s_up2 X 41 j q) 68 0 (X 68 0 - q) 41 j = q := by rw [up_rd, if_neg (by omega), up_rd, if_pos ⟨rfl, rfl⟩]
    have e3 : ∀ k, k < j → s_up2 (s_up2 X 41 j q) 68 0 (X 68 0 - q) 41 k = X 41 k := fun k hk => by rw [up_rd, if_neg (by omega), up_rd, if_neg (by omega)]
    rw [e1, sm_s, sm_c (f := s_up2 (s_up2 X 41 j q) 68 0 (X 68 0 - q) 41) e3, e2, hx]
    exact rg_4 _ _ _) (by rw [sm_0, Int32.sub_zero]; exact h68)
  simp only [Nat.zero_add] at this
  exact this
theorem hd_rd {c : Nat} (h : c ≠ 64 ∧ c ≠ 65 ∧ c ≠ 66 ∧ c ≠ 67 ∧ c ≠ 69) : headM E fl wa r M c j = M c j := by
  unfold headM
  rw [up_rd, up_rd, up_rd, up_rd, up_rd, if_neg (by omega), if_neg (by omega), if_neg (by omega), if_neg (by omega), if_neg (by omega)]
theorem wg_h (a b c : Int32) : a + (b + c - c) = a + b := by grind
theorem wg_i (p f z q : Int32) : p + (f + z - q - z) + q = p + f := by grind
theorem split_w (h1 : 1 ≤ E.1) (h3 : E.1 ≤ 3) (hS : ∀ i, i < E.1 → iS M i) : TW E (splitM E fl (headM E fl wa r M)) + sm (splitM E fl (headM E fl wa r M) 41) E.1 = TW E M + fl ∧ splitM E fl (headM E fl wa r M) 69 0 = M 69 0 + (fl + r * nI E.2.1) := by
  have hT : TW E (headM E fl wa r M) = TW E M := TW_c (fun c j hc => hd_rd (by omega)) (fun c hc => hd_rd (by omega))
  have e68 : headM E fl wa r M 68 0 = M 68 0 := hd_rd (by decide)
  have e69 : headM E fl wa r M 69 0 = M 69 0 + (fl + r * nI E.2.1) := by unfold headM; rw [up_rd, if_pos ⟨rfl, rfl⟩]
  have hn : ∀ i, i < E.1 → 1 ≤ (headM E fl wa r M 32 i).toInt ∧ (headM E fl wa r M 32 i).toInt ≤ 9 := fun i hi => by
    rw [hd_rd (by decide)]; exact ⟨(hS i hi).1, (hS i hi).2.1⟩
  have hpos := notP_b (M := headM E fl wa r M) hn h3 E.1 (Nat.le_refl _)
  unfold splitM
  rw [if_pos (by rw [ti_lt]; have l0 : (0 : Int32).toInt = 0 := rfl; omega)]
  generalize itd (notF (headM E fl wa r M)) 0 E.1 0 = nn
  have hw := weir_w (E := E) (M := s_up2 (headM E fl wa r M) 68 0 (fl + headM E fl wa r M 68 0)) (th := fl + headM E fl wa r M 68 0) (y := nn) (if_pos ⟨rfl, rfl⟩)
  have hf : ∀ c j, c ≠ 41 → c ≠ 68 → itd (weirS (fl + headM E fl wa r M 68 0) nn) 0 E.1 (s_up2 (headM E fl wa r M) 68 0 (fl + headM E fl wa r M 68 0)) c j = headM E fl wa r M c j := fun c j k1 k2 => (fr_itd (fun k Y => fr_weir ⟨k1, k2⟩) _ _ _).trans (if_neg (fun z => k2 z.1))
  generalize itd (weirS (fl + headM E fl wa r M 68 0) nn) 0 E.1 (s_up2 (headM E fl wa r M) 68 0 (fl + headM E fl wa r M 68 0)) = X at hw hf
  refine ⟨?_, by rw [hf 69 0 (by decide) (by decide)]; exact e69⟩
  have hX : TW E X = TW E (s_up2 (headM E fl wa r M) 68 0 (X 68 0)) := TW_c (fun c j hc => by rw [up_rd, if_neg (by omega)]; exact hf c j (by omega) (by omega)) (fun c hc => by
    by_cases c68 : c = 68
    · rw [c68, up_rd, if_pos ⟨rfl, rfl⟩]
    · rw [up_rd, if_neg (by omega)]; exact hf c 0 (by omega) c68)
  rw [hX, TW_68, hT, hw, e68]
  exact wg_i _ _ _ _
/-! the shares -/
/-- what the fields of a society got -/
def GI (E : eT) (i : Nat) (M : yT) : Int32 := sm (fun k => if E.2.2 k = i then M 11 k else 0) E.2.1
theorem GI_0 (h : ∀ k, k < E.2.1 → E.2.2 k = i → M 11 k = 0) : GI E i M = 0 := sm_z (fun k hk => by
  by_cases c : E.2.2 k = i
  · rw [if_pos c]; exact h k hk c
  · rw [if_neg c])
theorem GI_up (ha : a < E.2.1) (he : E.2.2 a = i) (h : ∀ k, X 11 k = if k = a then v else M 11 k) : GI E i X = GI E i M + (v - M 11 a) := by
  unfold GI
  rw [sm_up (f := fun k => if E.2.2 k = i then M 11 k else 0) (g := fun k => if E.2.2 k = i then X 11 k else 0) ha (fun k _ hk => by rw [h k, if_neg hk])]
  rw [if_pos he, if_pos he, h a, if_pos rfl]
theorem GI_c (h : ∀ k, X 11 k = M 11 k) : GI E i X = GI E i M := sm_c (fun k _ => by rw [h k])
theorem ws_1 (t g p q : Int32) : t + (p - q - p) + (g + (q - 0)) = t + g := by grind
theorem giv_w (hi : i < E.1) (h0 : ∀ k, k < E.2.1 → E.2.2 k = i → M 11 k = 0) : TW E (givL i th y (ce_mem E i) M) + GI E i (givL i th y (ce_mem E i) M) = TW E M + GI E i M ∧ ∀ k, E.2.2 k ≠ i → givL i th y (ce_mem E i) M 11 k = M 11 k := by
  rw [givL_f, mem_foldl]
  have := itd_inv (f := fun k X => if E.2.2 k = i then givS i th y k X else X) (R := fun j X => TW E X + GI E i X = TW E M + GI E i M ∧ (∀ k, j ≤ k → k < E.2.1 → E.2.2 k = i → X 11 k = 0) ∧ ∀ k, E.2.2 k ≠ i → X 11 k = M 11 k) E.2.1 0 M (fun j X _ hj hx => by
    obtain ⟨x1, x2, x3⟩ := hx
    by_cases c : E.2.2 j = i
    · rw [if_pos c]
      unfold givS
      by_cases c2 : tkI X j = 0
      · rw [if_pos c2]
        exact ⟨x1, fun k h1 h2 h3 => x2 k (by omega) h2 h3, x3⟩
      · rw [if_neg c2]
        generalize th * (X 13 j + X 15 j) / y = q
        have e37 : s_up2 X 11 j q 37 i = X 37 i := if_neg (fun z => by omega)
        have r11 : ∀ k, s_up2 (s_up2 X 11 j q) 37 i (X 37 i - q) 11 k = if k = j then q else X 11 k := fun k => by simp only [up_rd, Nat.reduceEqDiff, false_and, if_false, true_and]
        refine ⟨?_, fun k h1 h2 h3 => ?_, fun k hk => ?_⟩
        · rw [TW_37 hi, TW_o (by decide), e37, GI_up (show j < E.2.1 by omega) c r11, x2 j (Nat.le_refl _) (by omega) c, ← x1]
          exact ws_1 _ _ _ _
        · rw [r11, if_neg (by omega)]; exact x2 k (by omega) h2 h3
        · rw [r11, if_neg (fun z : k = j => hk (z ▸ c))]; exact x3 k hk
    · rw [if_neg c]
      exact ⟨x1, fun k h1 h2 h3 => x2 k (by omega) h2 h3, x3⟩) ⟨rfl, fun k _ h1 h2 => h0 k h1 h2, fun _ _ => rfl⟩
  simp only [Nat.zero_add] at this
  exact ⟨this.1, this.2.2⟩
theorem ws_A (t p su l u y4 : Int32) : t + (p + su - p) + (0 - l) + (u + (y4 - su + l) - u) + 0 = t + y4 := by grind
theorem ws_B (t p su l y4 : Int32) : t + (p + su - p) + (0 - l) + (y4 - su + l - 0) + 0 = t + y4 := by grind
theorem ws_C (t p su l y4 : Int32) : t + (p + su - p) + (0 - l) + (0 + (y4 - su + l - 0)) = t + y4 := by grind
theorem share_w {td : Int32} (hi : i < E.1) : TW E (shareF E td i M) + GI E i (shareF E td i M) = TW E M + M 41 i ∧ ∀ k, k < E.2.1 → E.2.2 k ≠ i → shareF E td i M 11 k = M 11 k := by
  unfold shareF
  have z1 : ∀ c j, c ≠ 11 → zeroL (ce_mem E i) M c j = M c j := fun c j hc => fr_zero hc _ _
  have z2 : ∀ j, j < E.2.1 → E.2.2 j = i → zeroL (ce_mem E i) M 11 j = 0 := fun j h1 h2 => (zeroL_0 _ _).1 (mem_iff.mpr ⟨h1, h2⟩)
  have z3 : ∀ j, E.2.2 j ≠ i → zeroL (ce_mem E i) M 11 j = M 11 j := fun j h2 => (zeroL_0 _ _).2 (fun z => h2 (mem_iff.mp z).2)
  have hY : TW E (zeroL (ce_mem E i) M) = TW E M := TW_c (fun c j hc => z1 c j (by omega)) (fun c hc => z1 c 0 (by omega))
  have e41 := z1 41 i (by decide)
  generalize zeroL (ce_mem E i) M = Y at z2 z3 hY e41
  clear z1
  unfold shareB
  have e37 : s_up2 Y 70 0 (Y 70 0 + sunkF Y i) 37 i = Y 37 i := if_neg (fun z => by omega)
  have hN : TW E (s_up2 (s_up2 Y 70 0 (Y 70 0 + sunkF Y i)) 37 i 0) = TW E Y + (Y 70 0 + sunkF Y i - Y 70 0) + (0 - Y 37 i) := by rw [TW_37 hi, TW_70, e37]
  have n11 : ∀ k, s_up2 (s_up2 Y 70 0 (Y 70 0 + sunkF Y i)) 37 i 0 11 k = Y 11 k := fun k => (if_neg (fun z => by omega)).trans (if_neg (fun z => by omega))
  have n37 : s_up2 (s_up2 Y 70 0 (Y 70 0 + sunkF Y i)) 37 i 0 37 i = 0 := if_pos ⟨rfl, rfl⟩
  have hth : thF Y i = Y 41 i - sunkF Y i + Y 37 i := rfl
  generalize thF Y i = th at hth
  generalize sunkF Y i = su at hth hN n11 n37
  generalize s_up2 (s_up2 Y 70 0 (Y 70 0 + su)) 37 i 0 = N at hN n11 n37
  have f72 : TW E (s_up2 N 72 0 (N 72 0 + th)) + GI E i (s_up2 N 72 0 (N 72 0 + th)) = TW E M + M 41 i ∧ ∀ k, k < E.2.1 → E.2.2 k ≠ i → s_up2 N 72 0 (N 72 0 + th) 11 k = M 11 k := by
    have q : ∀ k, s_up2 N 72 0 (N 72 0 + th) 11 k = Y 11 k := fun k => (if_neg (fun z => by omega)).trans (n11 k)
    refine ⟨?_, fun k _ hk => (q k).trans (z3 k hk)⟩
    rw [GI_0 (fun k h1 h2 => (q k).trans (z2 k h1 h2)), TW_72, hN, hth, ← hY, ← e41]
    exact ws_A _ _ _ _ _ _
  dsimp only
  split
  · exact f72
  · split
    · unfold shareN
      split
      · have q : ∀ k, s_up2 N 37 i th 11 k = Y 11 k := fun k => (if_neg (fun z => by omega)).trans (n11 k)
        have g := giv_w (E := E) (M := s_up2 N 37 i th) (th := th) (y := parL N (ce_mem E i) 0) hi (fun k h1 h2 => (q k).trans (z2 k h1 h2))
        refine ⟨?_, fun k _ hk => (g.2 k hk).trans ((q k).trans (z3 k hk))⟩
        rw [g.1, GI_0 (fun k h1 h2 => (q k).trans (z2 k h1 h2)), TW_37 hi, hN, n37, hth, ← hY, ← e41]
        exact ws_B _ _ _ _ _
      · exact f72
    · unfold shareT
      cases hx : nxC E N i with
      | none => exact f72
      | some a =>
        obtain ⟨a1, a2, a3⟩ := nx_some hx
        have r11 : ∀ j, s_up2 (s_up2 N 11 a th) 39 i (nI a) 11 j = if j = a then th else N 11 j := fun j => by simp only [up_rd, Nat.reduceEqDiff, false_and, if_false, true_and]
        show TW E (s_up2 (s_up2 N 11 a th) 39 i (nI a)) + GI E i (s_up2 (s_up2 N 11 a th) 39 i (nI a)) = TW E M + M 41 i ∧ ∀ k, k < E.2.1 → E.2.2 k ≠ i → s_up2 (s_up2 N 11 a th) 39 i (nI a) 11 k = M 11 k
        refine ⟨?_, fun k _ hk => ?_⟩
        · rw [TW_o (by decide), TW_o (by decide), GI_up a1 a2 r11, GI_0 (fun k h1 h2 => (n11 k).trans (z2 k h1 h2)), n11 a, z2 a a1 a2, hN, hth, ← hY, ← e41]
          exact ws_C _ _ _ _ _
        · rw [r11, if_neg (fun z : k = a => hk (z ▸ a2)), n11]; exact z3 k hk
theorem ws_2 (t g s p : Int32) (h : t + g = s + p) (u : Int32) : t + (u + g) = s + u + p := by grind
theorem shares_w {td : Int32} (hE : ∀ k, k < E.2.1 → E.2.2 k < E.1) : TW E (itd (shareF E td) 0 E.1 M) + sm (itd (shareF E td) 0 E.1 M 11) E.2.1 = TW E M + sm (M 41) E.1 := by
  have := itd_inv (f := shareF E td) (R := fun j X => TW E X + sm (fun k => if E.2.2 k < j then X 11 k else 0) E.2.1 = TW E M + sm (M 41) j ∧ ∀ i, X 41 i = M 41 i) E.1 0 M (fun j X _ hj hx => by
    obtain ⟨x1, x2⟩ := hx
    have g := share_w (E := E) (M := X) (td := td) (show j < E.1 by omega)
    have e1 : sm (fun k => if E.2.2 k < j + 1 then shareF E td j X 11 k else 0) E.2.1 = sm (fun k => if E.2.2 k < j then X 11 k else 0) E.2.1 + GI E j (shareF E td j X) := by
      unfold GI
      rw [← sm_add]
      refine sm_c (fun k hk => ?_)
      by_cases c : E.2.2 k = j
      · rw [if_pos (by omega), if_neg (by omega), if_pos c, Int32.zero_add]
      · rw [if_neg c, Int32.add_zero]
        by_cases c2 : E.2.2 k < j
        · rw [if_pos (by omega), if_pos c2]; exact g.2 k hk c
        · rw [if_neg (by omega), if_neg c2]
    refine ⟨?_, fun i => (fr_share (by decide)).trans (x2 i)⟩
    rw [e1, sm_s, ws_2 _ _ _ _ g.1, x1, x2 j]
    exact Int32.add_assoc _ _ _) ⟨by rw [sm_0, sm_z (fun k _ => if_neg (by omega))], fun _ => rfl⟩
  simp only [Nat.zero_add] at this
  rw [← this.1]
  congr 1
  refine sm_c (fun k hk => ?_)
  rw [if_pos (hE k hk)]
/-! standing -/
theorem send_w (hk : k < E.2.1) : TW E (sendM E k x M) = TW E M + x := by
  unfold sendM
  cases hn : ce_nxt E k with
  | none =>
    show TW E (s_up2 M 72 0 (M 72 0 + x)) = _
    rw [TW_72, rg_1]
  | some j =>
    show TW E (s_up2 M 22 j (M 22 j + x)) = _
    rw [TW_22 (nxt_lt hn.symm j rfl), rg_1]
theorem ws_p (t c m g r sp se h d s7 s1 : Int32) : t + (0 - c) + (m + (g + r + c) - sp - se - m) + (s7 + (se - h) - s7) + (sp + h) + (m + (g + r + c) - sp - se - d - (m + (g + r + c) - sp - se)) + (s1 + d - s1) = t + (g + r) := by grind
theorem pW_w (hk : k < E.2.1) : TW E (pW E k r (M 22 k) (s_up2 M 22 k 0)) = TW E M + (M 11 k + r) := by
  have z : ∀ c j, c ≠ 22 → s_up2 M 22 k 0 c j = M c j := fun c j hc => if_neg (fun z => hc z.1)
  have hT : TW E (s_up2 M 22 k 0) = TW E M + (0 - M 22 k) := TW_22 hk
  have w3 : wa3 r (M 22 k) (s_up2 M 22 k 0) k = M 1 k + (M 11 k + r + M 22 k) - spl r (M 22 k) (s_up2 M 22 k 0) k - sep r (M 22 k) (s_up2 M 22 k 0) k := by
    unfold wa3 wa2 wa1
    rw [z 1 k (by decide), z 11 k (by decide)]
  unfold pW
  rw [w3]
  generalize spl r (M 22 k) (s_up2 M 22 k 0) k = sp
  generalize sep r (M 22 k) (s_up2 M 22 k 0) k = se
  generalize drk r (M 22 k) (s_up2 M 22 k 0) k = d
  generalize se / 2 = h
  have z1 := z 1 k (by decide)
  have z70 := z 70 0 (by decide)
  have z71 := z 71 0 (by decide)
  generalize s_up2 M 22 k 0 = M0 at hT z1 z70 z71 ⊢
  generalize hv : M 1 k + (M 11 k + r + M 22 k) - sp - se = w
  have q1 : sendM E k (sp + h) (s_up2 (s_up2 M0 1 k w) 70 0 (M0 70 0 + (se - h))) 1 k = w := by
    rw [send_rd (by decide) (by decide), up_rd, if_neg (by omega), up_rd, if_pos ⟨rfl, rfl⟩]
  have q71 : s_up2 (sendM E k (sp + h) (s_up2 (s_up2 M0 1 k w) 70 0 (M0 70 0 + (se - h)))) 1 k (w - d) 71 0 = M0 71 0 := by
    rw [up_rd, if_neg (by omega), send_rd (by decide) (by decide), up_rd, if_neg (by omega), up_rd, if_neg (by omega)]
  have q70 : s_up2 M0 1 k w 70 0 = M0 70 0 := if_neg (fun z => by omega)
  rw [TW_71, TW_1 hk, send_w hk, TW_70, TW_1 hk, hT, q1, q71, q70, z1, ← hv]
  exact ws_p _ _ _ _ _ _ _ _ _ _ _
theorem stand_w (hk : k < E.2.1) : TW E (standM E r wa k M) = TW E M + (M 11 k + r) := by
  rw [← pW_w hk]
  unfold standM
  dsimp only
  generalize pW E k r (M 22 k) (s_up2 M 22 k 0) = P
  refine TW_c (fun c j hc => ?_) (fun c hc => ?_)
  · rw [up_rd, if_neg (by omega), gr_rd (Or.inl (by omega)), up_rd, if_neg (by omega), up_rd, if_neg (by omega)]
  · rw [up_rd, if_neg (by omega), gr_rd (Or.inl (by omega)), up_rd, if_neg (by omega), up_rd, if_neg (by omega)]
theorem stands_w : TW E (itd (standM E r wa) 0 E.2.1 M) = TW E M + (sm (M 11) E.2.1 + nI E.2.1 * r) := by
  have := itd_inv (f := standM E r wa) (R := fun j X => TW E X = TW E M + sm (fun k => M 11 k + r) j ∧ ∀ k, X 11 k = M 11 k) E.2.1 0 M (fun j X _ hj hx => by
    obtain ⟨x1, x2⟩ := hx
    refine ⟨?_, fun k => (fr_stand (by decide)).trans (x2 k)⟩
    rw [stand_w (show j < E.2.1 by omega), x1, sm_s, x2 j]
    exact Int32.add_assoc _ _ _) ⟨by rw [sm_0, Int32.add_zero], fun _ => rfl⟩
  simp only [Nat.zero_add] at this
  rw [this.1, sm_add, sm_k]
theorem ws_3 (a g s f : Int32) (h : a + g = s + f) (n : Int32) : a + (g + n) = s + f + n := by grind
/-- the day's water -/
theorem pass_w (h1 : 1 ≤ E.1) (h3 : E.1 ≤ 3) (hE : ∀ k, k < E.2.1 → E.2.2 k < E.1) (hS : ∀ i, i < E.1 → iS M i) : TW E (passF E fl wa r M) = TW E M + fl + nI E.2.1 * r ∧ passF E fl wa r M 69 0 = M 69 0 + (fl + r * nI E.2.1) := by
  have hs := split_w (M := M) (fl := fl) (wa := wa) (r := r) h1 h3 hS
  unfold passF
  dsimp only
  generalize splitM E fl (headM E fl wa r M) = X at hs
  have ha := shares_w (E := E) (M := X) (td := fmod (X 64 0) 210) hE
  have e69 : itd (shareF E (fmod (X 64 0) 210)) 0 E.1 X 69 0 = X 69 0 := fr_itd (fun k X => fr_share (by decide)) _ _ _
  generalize itd (shareF E (fmod (X 64 0) 210)) 0 E.1 X = Y at ha e69
  have hb := stands_w (E := E) (M := Y) (r := r) (wa := wa)
  refine ⟨?_, by rw [fr_flyF (by decide), fr_itd (fun k X => fr_stand (by decide)), e69]; exact hs.2⟩
  have hf : TW E (flyF E (itd (standM E r wa) 0 E.2.1 Y)) = TW E (itd (standM E r wa) 0 E.2.1 Y) := TW_c (fun c j hc => fr_flyF (by omega)) (fun c hc => fr_flyF (by omega))
  rw [hf, hb]
  exact ws_3 _ _ _ _ (ha.trans hs.1) _
theorem ws_4 (c fl r n a u v p q o : Int32) (h : c = a + p + v + (q + u + o)) (a' u' v' p' q' o' : Int32) (h2 : a' + 0 + v' + (p' + (q' + (u' + o'))) = a + 0 + v + (p + (q + (u + o))) + fl + n * r) : c + (fl + r * n) = a' + p' + v' + (q' + u' + o') := by grind
theorem CLO_day (h1 : 1 ≤ E.1) (h3 : E.1 ≤ 3) (hE : ∀ k, k < E.2.1 → E.2.2 k < E.1) (hS : ∀ i, i < E.1 → iS M i) (z : ∀ k, k < E.2.1 → M 22 k = 0) (z' : ∀ k, k < E.2.1 → passF E fl wa r M 22 k = 0) (h : CLO E M) : CLO E (passF E fl wa r M) := by
  obtain ⟨g1, g2⟩ := pass_w (M := M) (fl := fl) (wa := wa) (r := r) h1 h3 hE hS
  unfold TW at g1
  rw [sm_z z, sm_z z'] at g1
  unfold CLO at h ⊢
  rw [g2]
  exact ws_4 _ _ _ _ _ _ _ _ _ _ h _ _ _ _ _ _ g1
end
