/-! ===== what a day leaves alone, and the bounds of its water ===== -/
section
variable {E : eT} {V : yT} {M M1 N : yT} {F : fT} {Z : zT} {i k n : Nat} {x1 x2 x3 : Int32}
theorem fr_zero {c j : Nat} (h : c ≠ 11) : ∀ (l : List Nat) (M : yT), zeroL l M c j = M c j := by
  intro l
  induction l with
  | nil => intro M; rfl
  | cons a l ih => intro M; exact (ih _).trans (if_neg (fun z => h z.1))
theorem fr_giv {c j : Nat} {th pa : Int32} (h : c ≠ 11 ∧ c ≠ 37) : ∀ (l : List Nat) (M : yT), givL i th pa l M c j = M c j := by
  intro l
  induction l with
  | nil => intro M; rfl
  | cons a l ih =>
    intro M
    refine (ih _).trans ?_
    unfold givS
    split
    · rfl
    · rw [up_rd, up_rd, if_neg (by omega), if_neg (by omega)]
theorem fr_share {c j : Nat} {td : Int32} (h : c ≠ 11 ∧ c ≠ 37 ∧ c ≠ 39 ∧ c ≠ 70 ∧ c ≠ 72) : shareF E td i M c j = M c j := by
  unfold shareF
  rw [← fr_zero (c := c) (j := j) h.1 (ce_mem E i) M]
  generalize zeroL (ce_mem E i) M = M
  unfold shareB
  have q : s_up2 (s_up2 M 70 0 (M 70 0 + sunkF M i)) 37 i 0 c j = M c j := by rw [up_rd, up_rd, if_neg (by omega), if_neg (by omega)]
  rw [← q]
  generalize thF M i = th
  generalize s_up2 (s_up2 M 70 0 (M 70 0 + sunkF M i)) 37 i 0 = N
  dsimp only
  split
  · rw [up_rd, if_neg (by omega)]
  · split
    · unfold shareN
      split
      · rw [fr_giv ⟨h.1, h.2.1⟩, up_rd, if_neg (by omega)]
      · rw [up_rd, if_neg (by omega)]
    · unfold shareT
      cases nxC E N i with
      | none => show s_up2 _ _ _ _ _ _ = _; rw [up_rd, if_neg (by omega)]
      | some a => show s_up2 _ _ _ _ _ _ = _; rw [up_rd, up_rd, if_neg (by omega), if_neg (by omega)]
theorem fr_itd {f : Nat → yT → yT} {c j : Nat} (h : ∀ k X, f k X c j = X c j) : ∀ (d a : Nat) (X : yT), itd f a d X c j = X c j := by
  intro d
  induction d with
  | zero => intro a X; rfl
  | succ d ih => intro a X; rw [itd_s, ih, h]
theorem fr_weir {c j : Nat} {a b : Int32} (h : c ≠ 41 ∧ c ≠ 68) : weirS a b k M c j = M c j := by
  unfold weirS
  rw [up_rd, up_rd, if_neg (by omega), if_neg (by omega)]
theorem fr_hs {c j : Nat} {fl wa ra : Int32} (h : c ≠ 41 ∧ c ≠ 68 ∧ c ≠ 64 ∧ c ≠ 65 ∧ c ≠ 66 ∧ c ≠ 67 ∧ c ≠ 69) : splitM E fl (headM E fl wa ra M) c j = M c j := by
  have q : headM E fl wa ra M c j = M c j := by
    unfold headM
    rw [up_rd, up_rd, up_rd, up_rd, up_rd, if_neg (by omega), if_neg (by omega), if_neg (by omega), if_neg (by omega), if_neg (by omega)]
  rw [← q]
  generalize headM E fl wa ra M = N
  unfold splitM
  split
  · rw [fr_itd (fun k X => fr_weir ⟨h.1, h.2.1⟩), up_rd, if_neg (by omega)]
  · rw [up_rd, if_neg (by omega)]
theorem fr_pW {c j : Nat} {r x : Int32} (h : c ≠ 1 ∧ c ≠ 22 ∧ c ≠ 70 ∧ c ≠ 71 ∧ c ≠ 72) : pW E k r x M c j = M c j := by
  unfold pW
  rw [up_rd, up_rd, if_neg (by omega), if_neg (by omega), send_rd h.2.1 h.2.2.2.2, up_rd, up_rd, if_neg (by omega), if_neg (by omega)]
theorem gr_rd {c j : Nat} {x y t : Int32} (h : (c ≠ 4 ∧ c ≠ 6 ∧ c ≠ 7 ∧ c ≠ 9) ∨ j ≠ k) : growM k x y t M c j = M c j := by
  unfold growM
  split
  · rfl
  · have q : ∀ a b d : Int32, s_up2 (s_up2 (s_up2 M 7 k a) 6 k b) 4 k d c j = M c j := fun a b d => by rw [up_rd, up_rd, up_rd, if_neg (by omega), if_neg (by omega), if_neg (by omega)]
    dsimp only
    split
    · exact q _ _ _
    · split
      · exact q _ _ _
      · rw [up_rd, if_neg (by omega)]; exact q _ _ _
theorem gr_4 {x y t : Int32} (h : ¬ isw (M 4 k) 2 4 = 0) : 2 ≤ (growM k x y t M 4 k).toInt := by
  have hs := h
  rw [isw_ti] at hs
  have l2 : (2 : Int32).toInt = 2 := rfl
  have q : 2 ≤ (ripC (s_up2 (s_up2 M 7 k (s_max 0 (M 7 k - hurtC M k x y))) 6 k (M 6 k + t)) k).toInt := by
    unfold ripC
    have e : s_up2 (s_up2 M 7 k (s_max 0 (M 7 k - hurtC M k x y))) 6 k (M 6 k + t) 4 k = M 4 k := by simp only [up_rd, Nat.reduceEqDiff, false_and, if_false]
    rw [e]
    split
    · split
      · split
        · omega
        · decide
      · decide
    · decide
  unfold growM
  rw [if_neg h]
  dsimp only
  split
  · rw [up_rd, if_pos ⟨rfl, rfl⟩]; exact q
  · split
    · rw [up_rd, if_pos ⟨rfl, rfl⟩]; exact q
    · rw [up_rd, if_neg (by omega), up_rd, if_pos ⟨rfl, rfl⟩]; exact q
theorem lowK_grow {x y t : Int32} {j : Nat} (h : lowK M j) : lowK (growM k x y t M) j := by
  by_cases e : j = k
  · subst e
    by_cases s : isw (M 4 j) 2 4 = 0
    · unfold growM
      rw [if_pos s]; exact h
    · intro z
      have := gr_4 (x := x) (y := y) (t := t) s
      omega
  · unfold lowK
    rw [gr_rd (Or.inr e), gr_rd (Or.inr e), gr_rd (Or.inr e), gr_rd (Or.inr e)]
    exact h
theorem lowK_c {M' : yT} {j : Nat} (h4 : M' 4 j = M 4 j) (h5 : M' 5 j = M 5 j) (h6 : M' 6 j = M 6 j) (h7 : M' 7 j = M 7 j) (h : lowK M j) : lowK M' j := by
  unfold lowK at h ⊢
  rw [h4, h5, h6, h7]; exact h
theorem fr_stand {c j : Nat} {r t : Int32} (h : c ≠ 1 ∧ c ≠ 2 ∧ c ≠ 3 ∧ c ≠ 4 ∧ c ≠ 6 ∧ c ≠ 7 ∧ c ≠ 8 ∧ c ≠ 9 ∧ c ≠ 22 ∧ c ≠ 70 ∧ c ≠ 71 ∧ c ≠ 72) : standM E r t k M c j = M c j := by
  unfold standM
  dsimp only
  rw [up_rd, if_neg (by omega), gr_rd (Or.inl (by omega)), up_rd, if_neg (by omega), up_rd, if_neg (by omega), fr_pW (by omega), up_rd, if_neg (by omega)]
theorem lowK_stand {j : Nat} {r t : Int32} (h : lowK M j) : lowK (standM E r t k M) j := by
  unfold standM
  dsimp only
  refine lowK_c (M := growM k _ _ t _) (by rw [up_rd, if_neg (by omega)]) (by rw [up_rd, if_neg (by omega)]) (by rw [up_rd, if_neg (by omega)]) (by rw [up_rd, if_neg (by omega)]) (lowK_grow (lowK_c (M := M) ?_ ?_ ?_ ?_ h)) <;>
    rw [up_rd, if_neg (by omega), up_rd, if_neg (by omega), fr_pW (by omega), up_rd, if_neg (by omega)]
theorem fr_flyF {c j : Nat} (h : c ≠ 8 ∧ c ≠ 23) : flyF E M c j = M c j := by
  unfold flyF
  rw [fr_itd (fun k X => ?_), fr_itd (fun k X => ?_)]
  · unfold flyS
    split
    · rfl
    · rw [fly_rd h.2, fly_rd h.2]
  · unfold setS
    rw [up_rd, up_rd, if_neg (by omega), if_neg (by omega)]
theorem fr_pass {c j : Nat} {fl wa ra : Int32} (h : c ≠ 41 ∧ c ≠ 68 ∧ c ≠ 64 ∧ c ≠ 65 ∧ c ≠ 66 ∧ c ≠ 67 ∧ c ≠ 69 ∧ c ≠ 11 ∧ c ≠ 37 ∧ c ≠ 39) (h2 : c ≠ 1 ∧ c ≠ 2 ∧ c ≠ 3 ∧ c ≠ 4 ∧ c ≠ 6 ∧ c ≠ 7 ∧ c ≠ 8 ∧ c ≠ 9 ∧ c ≠ 22 ∧ c ≠ 23 ∧ c ≠ 70 ∧ c ≠ 71 ∧ c ≠ 72) : passF E fl wa ra M c j = M c j := by
  unfold passF
  dsimp only
  rw [fr_flyF (by omega), fr_itd (fun k X => fr_stand (by omega)), fr_itd (fun k X => fr_share (by omega)), fr_hs (by omega)]
theorem lowK_pass {fl wa ra : Int32} (h : ∀ j, j < E.2.1 → lowK M j) : ∀ j, j < E.2.1 → lowK (passF E fl wa ra M) j := by
  intro j hj
  unfold passF
  dsimp only
  refine lowK_c (M := itd (standM E ra wa) 0 E.2.1 _) (fr_flyF (by omega)) (fr_flyF (by omega)) (fr_flyF (by omega)) (fr_flyF (by omega)) ?_
  refine itd_inv (R := fun _ X => lowK X j) E.2.1 0 _ (fun k X _ _ hx => lowK_stand hx) ?_
  refine lowK_c (M := M) ?_ ?_ ?_ ?_ (h j hj) <;> rw [fr_itd (fun k X => fr_share (by omega)), fr_hs (by omega)]
theorem pass_3 {fl wa ra a b d : Int32} : passF E fl wa ra (s_up2 (s_up2 (s_up2 M 65 0 a) 66 0 b) 67 0 d) = passF E fl wa ra M := by
  have : headM E fl wa ra (s_up2 (s_up2 (s_up2 M 65 0 a) 66 0 b) 67 0 d) = headM E fl wa ra M := by
    unfold headM
    funext c j
    simp only [up_rd, Nat.reduceEqDiff, false_and, and_self, if_true, if_false, reduceIte]
    by_cases c69 : c = 69 ∧ j = 0
    · simp only [c69, and_self, if_true]
    · by_cases c67 : c = 67 ∧ j = 0
      · simp only [c67, and_self, if_true]
      · by_cases c66 : c = 66 ∧ j = 0
        · simp only [c66, and_self, if_true]
        · by_cases c65 : c = 65 ∧ j = 0
          · simp only [c65, and_self, if_true]
          · simp only [c69, c67, c66, c65, if_false]
  unfold passF
  rw [this]
/-! water's bounds -/
def gotP (E : eT) (M : yT) (i j : Nat) : Int := itd (fun k s => if E.2.2 k = i then s + (M 11 k).toInt else s) 0 j 0
theorem itd_last {α : Type} (f : Nat → α → α) (a : α) : ∀ (d j : Nat), itd f j (d + 1) a = f (j + d) (itd f j d a) := by
  intro d
  induction d generalizing a with
  | zero => intro j; rfl
  | succ d ih => intro j; rw [itd_s, ih, itd_s, show j + 1 + d = j + (d + 1) by omega]
theorem gotP_s {j : Nat} : gotP E M i (j + 1) = if E.2.2 j = i then gotP E M i j + (M 11 j).toInt else gotP E M i j := by
  unfold gotP
  rw [itd_last, Nat.zero_add]
theorem gotP_c {M' : yT} {j : Nat} (h : ∀ k, k < j → E.2.2 k = i → M' 11 k = M 11 k) : gotP E M' i j = gotP E M i j := by
  unfold gotP
  refine itd_rel (R := fun _ a b => a = b) j 0 0 0 (fun k a b _ hk e => ?_) rfl
  by_cases c : E.2.2 k = i
  · rw [if_pos c, if_pos c, e, h k (by omega) c]
  · rw [if_neg c, if_neg c, e]
theorem gotP_0 {j : Nat} (h : ∀ k, k < j → E.2.2 k = i → M 11 k = 0) : gotP E M i j = 0 := by
  induction j with
  | zero => rfl
  | succ j ih =>
    rw [gotP_s, ih (fun k hk => h k (by omega))]
    by_cases c : E.2.2 j = i
    · rw [if_pos c, h j (by omega) c]; rfl
    · rw [if_neg c]
theorem gotP_1 {j a : Nat} (h : ∀ k, k < j → E.2.2 k = i → k ≠ a → M 11 k = 0) (h0 : 0 ≤ (M 11 a).toInt) : 0 ≤ gotP E M i j ∧ gotP E M i j ≤ (M 11 a).toInt ∧ (j ≤ a → gotP E M i j = 0) := by
  induction j with
  | zero => exact ⟨Int.le_refl _, h0, fun _ => rfl⟩
  | succ j ih =>
    obtain ⟨i1, i2, i3⟩ := ih (fun k hk => h k (by omega))
    rw [gotP_s]
    by_cases c : E.2.2 j = i
    · rw [if_pos c]
      by_cases c2 : j = a
      · have := i3 (by omega)
        rw [this, c2]
        exact ⟨by omega, by omega, fun z => by omega⟩
      · rw [h j (by omega) c c2]
        have : (0 : Int32).toInt = 0 := rfl
        rw [this]
        exact ⟨by omega, by omega, fun z => by have := i3 (by omega); omega⟩
    · rw [if_neg c]
      exact ⟨i1, i2, fun z => i3 (by omega)⟩
theorem notP_b (hn : ∀ i, i < E.1 → 1 ≤ (M 32 i).toInt ∧ (M 32 i).toInt ≤ 9) (hS : E.1 ≤ 3) : ∀ j, j ≤ E.1 → (j : Int) ≤ (itd (notF M) 0 j 0).toInt ∧ (itd (notF M) 0 j 0).toInt ≤ 9 * (j : Int) := by
  intro j
  induction j with
  | zero => intro _; exact ⟨Int.le_refl _, Int.le_refl _⟩
  | succ j ih =>
    intro hj
    obtain ⟨a1, a2⟩ := ih (by omega)
    have a3 := hn j (by omega)
    rw [itd_last, Nat.zero_add]
    show ((j + 1 : Nat) : Int) ≤ (itd (notF M) 0 j 0 + M 32 j).toInt ∧ (itd (notF M) 0 j 0 + M 32 j).toInt ≤ 9 * ((j + 1 : Nat) : Int)
    rw [ti_add (by omega) (by omega)]
    omega
theorem notP_s (hn : ∀ i, i < E.1 → 1 ≤ (M 32 i).toInt ∧ (M 32 i).toInt ≤ 9) (hS : E.1 ≤ 3) {j : Nat} (hj : j < E.1) : (itd (notF M) 0 (j + 1) 0).toInt = (itd (notF M) 0 j 0).toInt + (M 32 j).toInt := by
  have a1 := notP_b hn hS j (by omega)
  have a3 := hn j hj
  rw [itd_last, Nat.zero_add]
  show (itd (notF M) 0 j 0 + M 32 j).toInt = _
  rw [ti_add (by omega) (by omega)]
theorem notP_m (hn : ∀ i, i < E.1 → 1 ≤ (M 32 i).toInt ∧ (M 32 i).toInt ≤ 9) (hS : E.1 ≤ 3) : ∀ (d j : Nat), j + d ≤ E.1 → (itd (notF M) 0 j 0).toInt ≤ (itd (notF M) 0 (j + d) 0).toInt := by
  intro d
  induction d with
  | zero => intro j _; exact Int.le_refl _
  | succ d ih =>
    intro j hj
    have h1 := ih j (by omega)
    have h2 := notP_s hn hS (j := j + d) (by omega)
    have h3 := hn (j + d) (by omega)
    rw [show j + (d + 1) = j + d + 1 by omega]
    omega
/-- the weir's loop: what is left is not below 0 -/
theorem weir_b {th nn : Int32} {B : Int} (hB : B ≤ 200000000) (hth : 0 ≤ th.toInt ∧ th.toInt ≤ B) (hn : ∀ i, i < E.1 → 1 ≤ (M 32 i).toInt ∧ (M 32 i).toInt ≤ 9) (hsum : itd (notF M) 0 E.1 0 = nn) (hS : E.1 ≤ 3) (h68 : M 68 0 = th) :
    (fun X : yT => (0 ≤ (X 68 0).toInt ∧ (X 68 0).toInt ≤ B) ∧ ∀ i, i < E.1 → 0 ≤ (X 41 i).toInt ∧ (X 41 i).toInt ≤ B) (itd (weirS th nn) 0 E.1 M) := by
  have e0 : (itd (notF M) 0 0 0).toInt = 0 := rfl
  have := itd_inv (f := weirS th nn) (R := fun j X => (∀ a, X 32 a = M 32 a) ∧ (0 ≤ (X 68 0).toInt ∧ (X 68 0).toInt ≤ th.toInt) ∧ (nn.toInt * th.toInt ≤ nn.toInt * (X 68 0).toInt + th.toInt * (itd (notF M) 0 j 0).toInt) ∧ ∀ a, a < j → 0 ≤ (X 41 a).toInt ∧ (X 41 a).toInt ≤ B) E.1 0 M
    (fun j X _ hj hx => by
      obtain ⟨x1, x2, x3, x4⟩ := hx
      have a3 := hn j (by omega)
      have p1 := notP_s hn hS (j := j) (by omega)
      have p3 := notP_b hn hS (j + 1) (by omega)
      have p0 := notP_b hn hS j (by omega)
      have p4 := notP_m hn hS (E.1 - (j + 1)) (j + 1) (by omega)
      rw [show j + 1 + (E.1 - (j + 1)) = E.1 by omega, hsum] at p4
      have hnn : 1 ≤ nn.toInt := by omega
      have p2 : th.toInt * (itd (notF M) 0 (j + 1) 0).toInt = th.toInt * (itd (notF M) 0 j 0).toInt + th.toInt * (M 32 j).toInt := by rw [p1, Int.mul_add]
      have p5 : th.toInt * (itd (notF M) 0 (j + 1) 0).toInt ≤ th.toInt * nn.toInt := Int.mul_le_mul_of_nonneg_left p4 hth.1
      have pc : th.toInt * nn.toInt = nn.toInt * th.toInt := Int.mul_comm _ _
      have q0 : 0 ≤ th.toInt * (M 32 j).toInt := Int.mul_nonneg hth.1 (by omega)
      have q1 : th.toInt * (M 32 j).toInt ≤ th.toInt * 9 := Int.mul_le_mul_of_nonneg_left a3.2 hth.1
      have q4 : th.toInt * (M 32 j).toInt ≤ th.toInt * nn.toInt := Int.mul_le_mul_of_nonneg_left (by omega) hth.1
      have s1 : (th * M 32 j).toInt = th.toInt * (M 32 j).toInt := ti_mul (by omega) (by omega)
      have s2 : (th * M 32 j / nn).toInt = th.toInt * (M 32 j).toInt / nn.toInt := by rw [ti_div (by rw [s1]; exact q0) (by omega), s1]
      have q2 : nn.toInt * (th.toInt * (M 32 j).toInt / nn.toInt) ≤ th.toInt * (M 32 j).toInt := Int.mul_ediv_self_le (by omega)
      have q3 : 0 ≤ th.toInt * (M 32 j).toInt / nn.toInt := Int.ediv_nonneg q0 (by omega)
      have eX : X 32 j = M 32 j := x1 j
      unfold weirS
      rw [eX]
      generalize hv : th * M 32 j / nn = v at s2
      rw [← s2] at q2 q3
      have q5 : v.toInt ≤ th.toInt := Int.le_of_mul_le_mul_left (show nn.toInt * v.toInt ≤ nn.toInt * th.toInt by omega) (by omega)
      have s3 : (X 68 0 - v).toInt = (X 68 0).toInt - v.toInt := ti_sub (by omega) (by omega)
      have q6 : nn.toInt * ((X 68 0).toInt - v.toInt) = nn.toInt * (X 68 0).toInt - nn.toInt * v.toInt := Int.mul_sub _ _ _
      have q7 : 0 ≤ (X 68 0).toInt - v.toInt := by
        refine Int.le_of_mul_le_mul_left (a := nn.toInt) ?_ (by omega)
        omega
      refine ⟨fun a => ?_, ?_, ?_, fun a ha => ?_⟩
      · simp only [up_rd, Nat.reduceEqDiff, false_and, if_false]; exact x1 a
      · simp only [up_rd, Nat.reduceEqDiff, and_self, if_true]; omega
      · simp only [up_rd, Nat.reduceEqDiff, and_self, if_true]; rw [s3]; omega
      · simp only [up_rd, Nat.reduceEqDiff, false_and, if_false, true_and]
        by_cases c : a = j
        · rw [if_pos c]; omega
        · rw [if_neg c]; exact x4 a (by omega))
    ⟨fun _ => rfl, by rw [h68]; omega, by rw [h68, e0]; omega, fun a ha => absurd ha (by omega)⟩
  simp only [Nat.zero_add] at this
  exact ⟨by have := this.2.1; omega, this.2.2.2⟩
/-- shares: between two societies -/
def WS (E : eT) (n j : Nat) (M : yT) : Prop :=
  (0 ≤ (M 68 0).toInt ∧ (M 68 0).toInt ≤ 200 * ((n + 1 : Nat) : Int)) ∧ (∀ i, i < E.1 → 0 ≤ (M 41 i).toInt ∧ (M 41 i).toInt ≤ 200 * ((n + 1 : Nat) : Int)) ∧ (∀ i, i < E.1 → 0 ≤ (M 33 i).toInt ∧ (M 33 i).toInt ≤ 50) ∧
  (∀ i, i < E.1 → 0 ≤ (M 37 i).toInt ∧ (i < j → (M 37 i).toInt ≤ 100 * ((n + 1 : Nat) : Int) * (((n + 1 : Nat) : Int) + 1)) ∧ (j ≤ i → (M 37 i).toInt ≤ 100 * (n : Int) * ((n : Int) + 1))) ∧
  (∀ k, k < E.2.1 → E.2.2 k < j → 0 ≤ (M 11 k).toInt) ∧ (∀ i, i < E.1 → i < j → gotP E M i E.2.1 ≤ 100 * ((n + 1 : Nat) : Int) * (((n + 1 : Nat) : Int) + 1)) ∧ (∀ k, k < E.2.1 → 1 ≤ (M 13 k + M 15 k).toInt ∧ (M 13 k + M 15 k).toInt ≤ 14)
theorem zeroL_0 {j : Nat} : ∀ (l : List Nat) (M : yT), (j ∈ l → zeroL l M 11 j = 0) ∧ (j ∉ l → zeroL l M 11 j = M 11 j) := by
  intro l
  induction l with
  | nil => intro M; exact ⟨fun z => (List.not_mem_nil z).elim, fun _ => rfl⟩
  | cons a l ih =>
    intro M
    show (j ∈ a :: l → zeroL l (s_up2 M 11 a 0) 11 j = 0) ∧ (j ∉ a :: l → zeroL l (s_up2 M 11 a 0) 11 j = M 11 j)
    have h := ih (s_up2 M 11 a 0)
    by_cases c : j ∈ l
    · exact ⟨fun _ => h.1 c, fun z => absurd (List.mem_cons_of_mem _ c) z⟩
    · rw [h.2 c, up_rd]
      by_cases e : j = a
      · rw [if_pos ⟨rfl, e⟩]
        exact ⟨fun _ => rfl, fun z => absurd (e ▸ List.mem_cons_self) z⟩
      · rw [if_neg (fun z => e z.2)]
        refine ⟨fun z => ?_, fun _ => rfl⟩
        rcases List.mem_cons.mp z with z | z
        · exact absurd z e
        · exact absurd z c
theorem mem_iff {j : Nat} : j ∈ ce_mem E i ↔ j < E.2.1 ∧ E.2.2 j = i := by
  unfold ce_mem
  rw [List.mem_filter, List.mem_range]
  simp only [beq_iff_eq]
/-- one society's water: what it gives adds up -/
theorem giv_b {th pa : Int32} {B : Int} (hB : B ≤ 150000000) (hth : 0 ≤ th.toInt ∧ th.toInt ≤ B) (h12 : E.2.1 ≤ 12) (hp : ∀ k, k < E.2.1 → 1 ≤ (M 13 k + M 15 k).toInt ∧ (M 13 k + M 15 k).toInt ≤ 14) (hpa : parL M (ce_mem E i) 0 = pa) (hp1 : 1 ≤ pa.toInt) (h0 : ∀ k, k < E.2.1 → E.2.2 k = i → M 11 k = 0) (h37 : M 37 i = th) :
    (fun X : yT => (0 ≤ (X 37 i).toInt ∧ (X 37 i).toInt ≤ B) ∧ (∀ k, k < E.2.1 → E.2.2 k = i → 0 ≤ (X 11 k).toInt) ∧ gotP E X i E.2.1 ≤ B ∧ (∀ k, E.2.2 k ≠ i → X 11 k = M 11 k) ∧ ∀ a, a ≠ i → X 37 a = M 37 a) (givL i th pa (ce_mem E i) M) := by
  have l0 : (0 : Int32).toInt = 0 := rfl
  rw [givL_f, mem_foldl]
  rw [parL_f, mem_foldl] at hpa
  have hpb : ∀ j, j ≤ E.2.1 → 0 ≤ (itd (fun k s => if E.2.2 k = i then s + (if tkI M k = 0 then 0 else M 13 k + M 15 k) else s) 0 j (0 : Int32)).toInt ∧ (itd (fun k s => if E.2.2 k = i then s + (if tkI M k = 0 then 0 else M 13 k + M 15 k) else s) 0 j (0 : Int32)).toInt ≤ 14 * (j : Int) := by
    intro j
    induction j with
    | zero => intro _; exact ⟨Int.le_refl _, Int.le_refl _⟩
    | succ j ih =>
      intro hj
      obtain ⟨a1, a2⟩ := ih (by omega)
      have a3 := hp j (by omega)
      rw [itd_last, Nat.zero_add]
      generalize itd (fun k s => if E.2.2 k = i then s + (if tkI M k = 0 then 0 else M 13 k + M 15 k) else s) 0 j (0 : Int32) = s at a1 a2 ⊢
      by_cases c : E.2.2 j = i
      · by_cases c2 : tkI M j = 0
        · simp only [c, c2, if_true]; rw [Int32.add_zero]; omega
        · simp only [c, c2, if_true, if_false]; rw [ti_add (by omega) (by omega)]; omega
      · simp only [c, if_false]; omega
  have hps : ∀ j, j < E.2.1 → (itd (fun k s => if E.2.2 k = i then s + (if tkI M k = 0 then 0 else M 13 k + M 15 k) else s) 0 (j + 1) (0 : Int32)).toInt = (itd (fun k s => if E.2.2 k = i then s + (if tkI M k = 0 then 0 else M 13 k + M 15 k) else s) 0 j (0 : Int32)).toInt + (if E.2.2 j = i ∧ ¬ tkI M j = 0 then (M 13 j + M 15 j).toInt else 0) := by
    intro j hj
    have a1 := hpb j (by omega)
    have a3 := hp j hj
    rw [itd_last, Nat.zero_add]
    generalize itd (fun k s => if E.2.2 k = i then s + (if tkI M k = 0 then 0 else M 13 k + M 15 k) else s) 0 j (0 : Int32) = s at a1 ⊢
    by_cases c : E.2.2 j = i
    · by_cases c2 : tkI M j = 0
      · simp only [c, c2, if_true, not_true_eq_false, and_false, if_false]; rw [Int32.add_zero]; omega
      · simp only [c, c2, if_true, if_false, not_false_eq_true, and_self]; rw [ti_add (by omega) (by omega)]
    · simp only [c, if_false, false_and]; omega
  have hpm : ∀ (d j : Nat), j + d ≤ E.2.1 → (itd (fun k s => if E.2.2 k = i then s + (if tkI M k = 0 then 0 else M 13 k + M 15 k) else s) 0 j (0 : Int32)).toInt ≤ (itd (fun k s => if E.2.2 k = i then s + (if tkI M k = 0 then 0 else M 13 k + M 15 k) else s) 0 (j + d) (0 : Int32)).toInt := by
    intro d
    induction d with
    | zero => intro j _; exact Int.le_refl _
    | succ d ih =>
      intro j hj
      have h1 := ih j (by omega)
      have h2 := hps (j + d) (by omega)
      have h3 := hp (j + d) (by omega)
      rw [show j + (d + 1) = j + d + 1 by omega]
      split at h2 <;> omega
  generalize hpp : (fun j : Nat => (itd (fun k s => if E.2.2 k = i then s + (if tkI M k = 0 then 0 else M 13 k + M 15 k) else s) 0 j (0 : Int32)).toInt) = pp
  have hb : ∀ j, j ≤ E.2.1 → 0 ≤ pp j ∧ pp j ≤ 14 * (j : Int) := by subst hpp; exact hpb
  have hs : ∀ j, j < E.2.1 → pp (j + 1) = pp j + (if E.2.2 j = i ∧ ¬ tkI M j = 0 then (M 13 j + M 15 j).toInt else 0) := by subst hpp; exact hps
  have hm : ∀ (d j : Nat), j + d ≤ E.2.1 → pp j ≤ pp (j + d) := by subst hpp; exact hpm
  have hend : pp E.2.1 = pa.toInt := by subst hpp; show (itd _ 0 E.2.1 (0 : Int32)).toInt = _; rw [hpa]
  have hbeg : pp 0 = 0 := by subst hpp; rfl
  clear hpb hps hpm hpa hpp
  have := itd_inv (f := fun k X => if E.2.2 k = i then givS i th pa k X else X) (R := fun j X => (∀ c, c ≠ 11 → c ≠ 37 → ∀ a, X c a = M c a) ∧ (0 ≤ (X 37 i).toInt ∧ (X 37 i).toInt ≤ th.toInt) ∧ ((X 37 i).toInt = th.toInt - gotP E X i j) ∧ (pa.toInt * th.toInt ≤ pa.toInt * (X 37 i).toInt + th.toInt * pp j) ∧ (∀ k, E.2.2 k = i → (k < j → k < E.2.1 → 0 ≤ (X 11 k).toInt) ∧ (j ≤ k → k < E.2.1 → X 11 k = 0)) ∧ (∀ k, E.2.2 k ≠ i → X 11 k = M 11 k) ∧ ∀ a, a ≠ i → X 37 a = M 37 a) E.2.1 0 M
    (fun j X _ hj hx => by
      obtain ⟨x0, x1, x2, x3, x4, x5, x6⟩ := hx
      have a3 := hp j (by omega)
      have p1 := hs j (by omega)
      have p4 := hm (E.2.1 - (j + 1)) (j + 1) (by omega)
      rw [show j + 1 + (E.2.1 - (j + 1)) = E.2.1 by omega, hend] at p4
      have pb := hb j (by omega)
      by_cases c : E.2.2 j = i
      · have et : tkI X j = tkI M j := by unfold tkI; rw [x0 12 (by decide) (by decide), x0 17 (by decide) (by decide)]
        by_cases c2 : tkI M j = 0
        · rw [if_neg (fun z => z.2 c2)] at p1
          simp only [givS, et, c, c2, if_true]
          refine ⟨x0, x1, ?_, by rw [p1]; simpa using x3, fun k hk => ⟨fun z z2 => ?_, fun z => (x4 k hk).2 (by omega)⟩, x5, x6⟩
          · rw [gotP_s, if_pos c, (x4 j c).2 (Nat.le_refl _) (by omega), l0, x2]; omega
          · by_cases e : k = j
            · rw [e, (x4 j c).2 (Nat.le_refl _) (by omega)]; decide
            · exact (x4 k hk).1 (by omega) z2
        · rw [if_pos ⟨c, c2⟩] at p1
          have eq : X 13 j + X 15 j = M 13 j + M 15 j := by rw [x0 13 (by decide) (by decide), x0 15 (by decide) (by decide)]
          simp only [givS, et, c, c2, if_true, if_false, eq]
          generalize M 13 j + M 15 j = q at a3 p1
          have q0 : 0 ≤ th.toInt * q.toInt := Int.mul_nonneg hth.1 (by omega)
          have q1 : th.toInt * q.toInt ≤ th.toInt * 14 := Int.mul_le_mul_of_nonneg_left a3.2 hth.1
          have q4 : th.toInt * q.toInt ≤ th.toInt * pa.toInt := Int.mul_le_mul_of_nonneg_left (by omega) hth.1
          have p2 : th.toInt * pp (j + 1) = th.toInt * pp j + th.toInt * q.toInt := by rw [p1, Int.mul_add]
          have p5 : th.toInt * pp (j + 1) ≤ th.toInt * pa.toInt := Int.mul_le_mul_of_nonneg_left p4 hth.1
          have pc : th.toInt * pa.toInt = pa.toInt * th.toInt := Int.mul_comm _ _
          have s1 : (th * q).toInt = th.toInt * q.toInt := ti_mul (by omega) (by omega)
          have s2 : (th * q / pa).toInt = th.toInt * q.toInt / pa.toInt := by rw [ti_div (by rw [s1]; exact q0) (by omega), s1]
          have q2 : pa.toInt * (th.toInt * q.toInt / pa.toInt) ≤ th.toInt * q.toInt := Int.mul_ediv_self_le (by omega)
          have q3 : 0 ≤ th.toInt * q.toInt / pa.toInt := Int.ediv_nonneg q0 (by omega)
          generalize hv : th * q / pa = v at s2
          rw [← s2] at q2 q3
          have q5 : v.toInt ≤ th.toInt := Int.le_of_mul_le_mul_left (show pa.toInt * v.toInt ≤ pa.toInt * th.toInt by omega) (by omega)
          have s3 : (X 37 i - v).toInt = (X 37 i).toInt - v.toInt := ti_sub (by omega) (by omega)
          have q6 : pa.toInt * ((X 37 i).toInt - v.toInt) = pa.toInt * (X 37 i).toInt - pa.toInt * v.toInt := Int.mul_sub _ _ _
          have q7 : 0 ≤ (X 37 i).toInt - v.toInt := by
            refine Int.le_of_mul_le_mul_left (a := pa.toInt) ?_ (by omega)
            omega
          have r11 : ∀ a, s_up2 (s_up2 X 11 j v) 37 i (X 37 i - v) 11 a = if a = j then v else X 11 a := fun a => by simp only [up_rd, Nat.reduceEqDiff, false_and, if_false, true_and]
          have r37 : ∀ a, s_up2 (s_up2 X 11 j v) 37 i (X 37 i - v) 37 a = if a = i then X 37 i - v else X 37 a := fun a => by simp only [up_rd, Nat.reduceEqDiff, false_and, if_false, true_and]
          refine ⟨fun c' h1 h2 a => ?_, ?_, ?_, ?_, fun k hk => ⟨fun z z2 => ?_, fun z z2 => ?_⟩, fun k hk => ?_, fun a ha => ?_⟩
          · rw [up_rd, up_rd, if_neg (by omega), if_neg (by omega)]; exact x0 c' h1 h2 a
          · rw [r37, if_pos rfl]; omega
          · rw [r37, if_pos rfl, gotP_s, if_pos c, r11, if_pos rfl, gotP_c (M := X) (fun k hk _ => by rw [r11, if_neg (by omega)])]; omega
          · rw [r37, if_pos rfl, s3]; omega
          · rw [r11]
            by_cases e : k = j
            · rw [if_pos e]; omega
            · rw [if_neg e]; exact (x4 k hk).1 (by omega) z2
          · rw [r11, if_neg (by omega)]; exact (x4 k hk).2 (by omega) z2
          · rw [r11, if_neg (fun z : k = j => hk (z ▸ c))]; exact x5 k hk
          · rw [r37, if_neg ha]; exact x6 a ha
      · rw [if_neg (fun z => c z.1)] at p1
        simp only [c, if_false]
        refine ⟨x0, x1, ?_, by rw [p1]; simpa using x3, fun k hk => ⟨fun z z2 => (x4 k hk).1 ?_ z2, fun z => (x4 k hk).2 (by omega)⟩, x5, x6⟩
        · rw [gotP_s, if_neg c]; exact x2
        · have : k ≠ j := fun z => c (z ▸ hk)
          omega)
    ⟨fun _ _ _ _ => rfl, by rw [h37]; omega, by rw [h37]; show _ = _ - (0 : Int); omega, by rw [h37, hbeg]; omega, fun k hk => ⟨fun z => absurd z (by omega), fun _ z2 => h0 k z2 hk⟩, fun _ _ => rfl, fun _ _ => rfl⟩
  simp only [Nat.zero_add] at this
  obtain ⟨y0, y1, y2, y3, y4, y5, y6⟩ := this
  exact ⟨by omega, fun k hk hk2 => (y4 k hk2).1 hk hk, by omega, y5, y6⟩
theorem sq_b {n : Nat} (hn : n ≤ 1000) : 100 * ((n + 1 : Nat) : Int) * (((n + 1 : Nat) : Int) + 1) = 100 * (n : Int) * ((n : Int) + 1) + 200 * ((n + 1 : Nat) : Int) ∧ 0 ≤ 100 * (n : Int) * ((n : Int) + 1) ∧ 100 * ((n + 1 : Nat) : Int) * (((n + 1 : Nat) : Int) + 1) ≤ 150000000 := by
  have e : ((n + 1 : Nat) : Int) = (n : Int) + 1 := by omega
  rw [e]
  generalize hx : (n : Int) = x
  have hx0 : 0 ≤ x := by omega
  have hx1 : x ≤ 1000 := by omega
  have e1 : 100 * (x + 1) * (x + 1 + 1) = 100 * (x * x) + 300 * x + 200 := by
    rw [Int.mul_add (100 * (x + 1)), Int.mul_one, Int.mul_assoc, Int.mul_add, Int.add_mul, Int.mul_one, Int.one_mul]; omega
  have e2 : 100 * x * (x + 1) = 100 * (x * x) + 100 * x := by
    rw [Int.mul_add (100 * x), Int.mul_one, Int.mul_assoc]
  have h1 : 0 ≤ x * x := Int.mul_nonneg hx0 hx0
  have h2 : x * x ≤ 1000 * 1000 := Int.mul_le_mul hx1 hx1 hx0 (by decide)
  rw [e1, e2]
  omega
theorem WS_step {td : Int32} (hn : n ≤ 1000) (h12 : E.2.1 ≤ 12) (hi : i < E.1) (h : WS E n i M) : WS E n (i + 1) (shareF E td i M) := by
  obtain ⟨b1, b2, b3⟩ := sq_b hn
  obtain ⟨w1, w2, w3, w4, w5, w6, w7⟩ := h
  have l0 : (0 : Int32).toInt = 0 := rfl
  have l100 : (100 : Int32).toInt = 100 := rfl
  have w41 := w2 i hi
  have w33 := w3 i hi
  have w37 := w4 i hi
  have w37b := w37.2.2 (Nat.le_refl _)
  -- what sinks
  have k1 : 0 ≤ (M 41 i).toInt * (M 33 i).toInt := Int.mul_nonneg w41.1 w33.1
  have k2 : (M 41 i).toInt * (M 33 i).toInt ≤ (M 41 i).toInt * 50 := Int.mul_le_mul_of_nonneg_left w33.2 w41.1
  have s1 : (M 41 i * M 33 i).toInt = (M 41 i).toInt * (M 33 i).toInt := ti_mul (by omega) (by omega)
  have s2 : (sunkF M i).toInt = (M 41 i).toInt * (M 33 i).toInt / 100 := by unfold sunkF; rw [ti_div (by rw [s1]; exact k1) (by rw [l100]; decide), s1, l100]
  have k3 : 0 ≤ (sunkF M i).toInt ∧ (sunkF M i).toInt ≤ (M 41 i).toInt := by omega
  have s3 : (M 41 i - sunkF M i).toInt = (M 41 i).toInt - (sunkF M i).toInt := ti_sub (by omega) (by omega)
  have s4 : (thF M i).toInt = (M 41 i).toInt - (sunkF M i).toInt + (M 37 i).toInt := by unfold thF; rw [ti_add (by omega) (by omega), s3]
  have hth : 0 ≤ (thF M i).toInt ∧ (thF M i).toInt ≤ 100 * ((n + 1 : Nat) : Int) * (((n + 1 : Nat) : Int) + 1) := by omega
  -- after the zeros
  have z1 : ∀ c j, c ≠ 11 → zeroL (ce_mem E i) M c j = M c j := fun c j hc => fr_zero hc _ _
  have z2 : ∀ j, j < E.2.1 → E.2.2 j = i → zeroL (ce_mem E i) M 11 j = 0 := fun j h1 h2 => (zeroL_0 _ _).1 (mem_iff.mpr ⟨h1, h2⟩)
  have z3 : ∀ j, E.2.2 j ≠ i → zeroL (ce_mem E i) M 11 j = M 11 j := fun j h2 => (zeroL_0 _ _).2 (fun z => h2 (mem_iff.mp z).2)
  have et : thF (zeroL (ce_mem E i) M) i = thF M i := by unfold thF sunkF; rw [z1 _ _ (by decide), z1 _ _ (by decide), z1 _ _ (by decide)]
  unfold shareF shareB
  rw [et]
  generalize thF M i = th at hth
  -- one world X with what is shown of it
  have fin : ∀ X : yT, (∀ c, c ≠ 11 → c ≠ 37 → c ≠ 39 → c ≠ 70 → c ≠ 72 → ∀ j, X c j = M c j) → (∀ a, a ≠ i → X 37 a = M 37 a) → (0 ≤ (X 37 i).toInt ∧ (X 37 i).toInt ≤ 100 * ((n + 1 : Nat) : Int) * (((n + 1 : Nat) : Int) + 1)) → (∀ j, E.2.2 j ≠ i → X 11 j = M 11 j) → (∀ j, j < E.2.1 → E.2.2 j = i → 0 ≤ (X 11 j).toInt) → gotP E X i E.2.1 ≤ 100 * ((n + 1 : Nat) : Int) * (((n + 1 : Nat) : Int) + 1) → WS E n (i + 1) X := by
    intro X x1 x2 x3 x4 x5 x6
    refine ⟨?_, fun a ha => ?_, fun a ha => ?_, fun a ha => ?_, fun a ha h2 => ?_, fun a ha h2 => ?_, fun a ha => ?_⟩
    · rw [x1 68 (by decide) (by decide) (by decide) (by decide) (by decide)]; exact w1
    · rw [x1 41 (by decide) (by decide) (by decide) (by decide) (by decide)]; exact w2 a ha
    · rw [x1 33 (by decide) (by decide) (by decide) (by decide) (by decide)]; exact w3 a ha
    · by_cases e : a = i
      · rw [e]; exact ⟨x3.1, fun _ => x3.2, fun z => by omega⟩
      · rw [x2 a e]
        have := w4 a ha
        exact ⟨this.1, fun z => this.2.1 (by omega), fun z => this.2.2 (by omega)⟩
    · by_cases e : E.2.2 a = i
      · exact x5 a ha e
      · rw [x4 a e]; exact w5 a ha (by omega)
    · by_cases e : a = i
      · rw [e]; exact x6
      · rw [gotP_c (M := M) (fun k _ hk => x4 k (by omega))]; exact w6 a ha (by omega)
    · rw [x1 13 (by decide) (by decide) (by decide) (by decide) (by decide), x1 15 (by decide) (by decide) (by decide) (by decide) (by decide)]; exact w7 a ha
  generalize hZ : zeroL (ce_mem E i) M = M1 at z1 z2 z3
  have y1 : ∀ c j, c ≠ 37 → c ≠ 70 → s_up2 (s_up2 M1 70 0 (M1 70 0 + sunkF M1 i)) 37 i 0 c j = M1 c j := fun c j h1 h2 => by rw [up_rd, up_rd, if_neg (by omega), if_neg (by omega)]
  have y2 : ∀ a, s_up2 (s_up2 M1 70 0 (M1 70 0 + sunkF M1 i)) 37 i 0 37 a = if a = i then 0 else M1 37 a := fun a => by simp only [up_rd, Nat.reduceEqDiff, false_and, if_false, true_and]
  generalize s_up2 (s_up2 M1 70 0 (M1 70 0 + sunkF M1 i)) 37 i 0 = M2 at y1 y2
  have f72 : WS E n (i + 1) (s_up2 M2 72 0 (M2 72 0 + th)) := by
    refine fin _ (fun c h1 h2 h3 h4 h5 j => ?_) (fun a ha => ?_) ?_ (fun j hj => ?_) (fun j h1 h2 => ?_) ?_
    · rw [up_rd, if_neg (by omega), y1 c j h2 h4, z1 c j h1]
    · rw [up_rd, if_neg (by omega), y2, if_neg ha, z1 37 a (by decide)]
    · rw [up_rd, if_neg (by omega), y2, if_pos rfl]; omega
    · rw [up_rd, if_neg (by omega), y1 11 j (by decide) (by decide), z3 j hj]
    · rw [up_rd, if_neg (by omega), y1 11 j (by decide) (by decide), z2 j h1 h2]; decide
    · rw [gotP_0 (fun k h1 h2 => by rw [up_rd, if_neg (by omega), y1 11 k (by decide) (by decide), z2 k h1 h2])]; omega
  dsimp only
  split
  · exact f72
  · split
    · unfold shareN
      split
      · rename_i hpp
        rw [ti_lt, l0] at hpp
        have q37 : s_up2 M2 37 i th 37 i = th := by rw [up_rd, if_pos ⟨rfl, rfl⟩]
        have qc : ∀ c j, c ≠ 37 → s_up2 M2 37 i th c j = M2 c j := fun c j hc => if_neg (fun z => hc z.1)
        have qo : ∀ a, a ≠ i → s_up2 M2 37 i th 37 a = M2 37 a := fun a ha => if_neg (fun z => ha z.2)
        have qp : parL (s_up2 M2 37 i th) (ce_mem E i) 0 = parL M2 (ce_mem E i) 0 := by
          rw [parL_f, parL_f]
          congr 1
        have gb := giv_b (E := E) (i := i) (M := s_up2 M2 37 i th) (B := 100 * ((n + 1 : Nat) : Int) * (((n + 1 : Nat) : Int) + 1)) b3 hth h12 (fun k hk => by rw [qc 13 k (by decide), qc 15 k (by decide), y1 13 k (by decide) (by decide), y1 15 k (by decide) (by decide), z1 13 k (by decide), z1 15 k (by decide)]; exact w7 k hk) qp (by omega) (fun k h1 h2 => by rw [qc 11 k (by decide), y1 11 k (by decide) (by decide), z2 k h1 h2]) q37
        obtain ⟨g1, g2, g3, g4, g5⟩ := gb
        refine fin _ (fun c h1 h2 h3 h4 h5 j => ?_) (fun a ha => ?_) g1 (fun j hj => ?_) g2 g3
        · rw [fr_giv ⟨h1, h2⟩, qc c j h2, y1 c j h2 h4, z1 c j h1]
        · rw [g5 a ha, qo a ha, y2, if_neg ha, z1 37 a (by decide)]
        · rw [g4 j hj, qc 11 j (by decide), y1 11 j (by decide) (by decide), z3 j hj]
      · exact f72
    · unfold shareT
      cases hx : nxC E M2 i with
      | none => exact f72
      | some a =>
        obtain ⟨a1, a2, a3⟩ := nx_some hx
        have r11 : ∀ j, s_up2 (s_up2 M2 11 a th) 39 i (nI a) 11 j = if j = a then th else M2 11 j := fun j => by simp only [up_rd, Nat.reduceEqDiff, false_and, if_false, true_and]
        refine fin _ (fun c h1 h2 h3 h4 h5 j => ?_) (fun b hb => ?_) ?_ (fun j hj => ?_) (fun j h1 h2 => ?_) ?_
        · show s_up2 (s_up2 M2 11 a th) 39 i (nI a) c j = _
          rw [up_rd, up_rd, if_neg (by omega), if_neg (by omega), y1 c j h2 h4, z1 c j h1]
        · show s_up2 (s_up2 M2 11 a th) 39 i (nI a) 37 b = _
          rw [up_rd, up_rd, if_neg (by omega), if_neg (by omega), y2, if_neg hb, z1 37 b (by decide)]
        · show 0 ≤ (s_up2 (s_up2 M2 11 a th) 39 i (nI a) 37 i).toInt ∧ (s_up2 (s_up2 M2 11 a th) 39 i (nI a) 37 i).toInt ≤ _
          rw [up_rd, up_rd, if_neg (by omega), if_neg (by omega), y2, if_pos rfl]; omega
        · show s_up2 (s_up2 M2 11 a th) 39 i (nI a) 11 j = _
          rw [r11, if_neg (fun z : j = a => hj (z ▸ a2)), y1 11 j (by decide) (by decide), z3 j hj]
        · show 0 ≤ (s_up2 (s_up2 M2 11 a th) 39 i (nI a) 11 j).toInt
          rw [r11]
          by_cases e : j = a
          · rw [if_pos e]; exact hth.1
          · rw [if_neg e, y1 11 j (by decide) (by decide), z2 j h1 h2]; decide
        · have := gotP_1 (E := E) (i := i) (M := s_up2 (s_up2 M2 11 a th) 39 i (nI a)) (j := E.2.1) (a := a) (fun k h1 h2 h3 => by rw [r11, if_neg h3, y1 11 k (by decide) (by decide), z2 k h1 h2]) (by rw [r11, if_pos rfl]; exact hth.1)
          rw [r11, if_pos rfl] at this
          show gotP E (s_up2 (s_up2 M2 11 a th) 39 i (nI a)) i E.2.1 ≤ _
          omega
theorem WB_pass {fl wa ra : Int32} (hn : n ≤ 1000) (hW : EW E V) (hF : ∀ k, k < E.2.1 → iF n M k) (hS : ∀ i, i < E.1 → iS M i) (hfl : 0 ≤ fl.toInt ∧ fl.toInt ≤ 200) (h : WB E n M) : WB E (n + 1) (passF E fl wa ra M) := by
  obtain ⟨b1, b2, b3⟩ := sq_b hn
  obtain ⟨w1, w2, w3, w4, w5⟩ := h
  have h12 := hW.2.1
  have h3 := hW.1
  have hH : ∀ c j, c ≠ 64 → c ≠ 65 → c ≠ 66 → c ≠ 67 → c ≠ 69 → headM E fl wa ra M c j = M c j := fun c j k1 k2 k3 k4 k5 => by
    unfold headM
    rw [up_rd, up_rd, up_rd, up_rd, up_rd, if_neg (by omega), if_neg (by omega), if_neg (by omega), if_neg (by omega), if_neg (by omega)]
  have hth : (fl + M 68 0).toInt = fl.toInt + (M 68 0).toInt := ti_add (by omega) (by omega)
  have hnn := not_b hW hS
  have e68 : headM E fl wa ra M 68 0 = M 68 0 := hH 68 0 (by decide) (by decide) (by decide) (by decide) (by decide)
  have en : itd (notF (headM E fl wa ra M)) 0 E.1 0 = itd (notF M) 0 E.1 0 := by
    refine itd_rel (R := fun _ a b => a = b) E.1 0 0 0 (fun k a b _ _ e => ?_) rfl
    unfold notF
    rw [e, hH 32 k (by decide) (by decide) (by decide) (by decide) (by decide)]
  -- after the weir
  have hw : WS E n 0 (splitM E fl (headM E fl wa ra M)) := by
    have base : ∀ X : yT, (∀ c j, c ≠ 41 → c ≠ 68 → X c j = headM E fl wa ra M c j) → (0 ≤ (X 68 0).toInt ∧ (X 68 0).toInt ≤ 200 * ((n + 1 : Nat) : Int)) → (∀ i, i < E.1 → 0 ≤ (X 41 i).toInt ∧ (X 41 i).toInt ≤ 200 * ((n + 1 : Nat) : Int)) → WS E n 0 X := by
      intro X x1 x2 x3
      have xc : ∀ c j, c ≠ 41 → c ≠ 68 → c ≠ 64 → c ≠ 65 → c ≠ 66 → c ≠ 67 → c ≠ 69 → X c j = M c j := fun c j k1 k2 k3 k4 k5 k6 k7 => (x1 c j k1 k2).trans (hH c j k3 k4 k5 k6 k7)
      refine ⟨x2, x3, fun a ha => ?_, fun a ha => ?_, fun a ha h => absurd h (by omega), fun a ha h => absurd h (by omega), fun a ha => ?_⟩
      · rw [xc 33 a (by decide) (by decide) (by decide) (by decide) (by decide) (by decide) (by decide)]; exact w5 a ha
      · rw [xc 37 a (by decide) (by decide) (by decide) (by decide) (by decide) (by decide) (by decide)]; exact ⟨(w2 a ha).1, fun z => absurd z (by omega), fun _ => (w2 a ha).2⟩
      · rw [xc 13 a (by decide) (by decide) (by decide) (by decide) (by decide) (by decide) (by decide), xc 15 a (by decide) (by decide) (by decide) (by decide) (by decide) (by decide) (by decide)]
        obtain ⟨-, p1, p2, p3, p4, -⟩ := (hF a ha).2.2.1
        rw [ti_add (by omega) (by omega)]
        omega
    unfold splitM
    rw [en, e68]
    have e0 : ∀ X : yT, (∀ c j, c ≠ 41 → c ≠ 68 → itd (weirS (fl + M 68 0) (itd (notF M) 0 E.1 0)) 0 E.1 X c j = X c j) := fun X c j k1 k2 => fr_itd (fun k Y => fr_weir ⟨k1, k2⟩) _ _ _
    have e32 : ∀ a, s_up2 (headM E fl wa ra M) 68 0 (fl + M 68 0) 32 a = M 32 a := fun a => by rw [up_rd, if_neg (by omega), hH 32 a (by decide) (by decide) (by decide) (by decide) (by decide)]
    have en2 : itd (notF (s_up2 (headM E fl wa ra M) 68 0 (fl + M 68 0))) 0 E.1 0 = itd (notF M) 0 E.1 0 := by
      refine itd_rel (R := fun _ a b => a = b) E.1 0 0 0 (fun k a b _ _ e => ?_) rfl
      unfold notF
      rw [e, e32]
    split
    · have hb := weir_b (E := E) (M := s_up2 (headM E fl wa ra M) 68 0 (fl + M 68 0)) (th := fl + M 68 0) (nn := itd (notF M) 0 E.1 0) (B := 200 * ((n + 1 : Nat) : Int)) (by omega) (by omega) (fun a ha => by rw [e32]; exact ⟨(hS a ha).1, (hS a ha).2.1⟩) en2 h3 (by rw [up_rd, if_pos ⟨rfl, rfl⟩])
      refine base _ (fun c j k1 k2 => ?_) hb.1 hb.2
      rw [e0 _ c j k1 k2, up_rd, if_neg (by omega)]
    · rename_i hneg
      have l0 : (0 : Int32).toInt = 0 := rfl
      rw [ti_lt, l0] at hneg
      have hE : E.1 = 0 := by omega
      refine base _ (fun c j k1 k2 => by rw [up_rd, if_neg (by omega)]) ?_ (fun a ha => absurd ha (by omega))
      rw [up_rd, if_pos ⟨rfl, rfl⟩]; omega
  unfold passF
  dsimp only
  generalize splitM E fl (headM E fl wa ra M) = X at hw
  have hw2 := itd_inv (f := shareF E (fmod (X 64 0) 210)) (R := fun j Y => WS E n j Y) E.1 0 X (fun j Y _ hj hy => WS_step hn h12 (by omega) hy) hw
  simp only [Nat.zero_add] at hw2
  generalize itd (shareF E (fmod (X 64 0) 210)) 0 E.1 X = Y at hw2
  have fc : ∀ c j, c = 11 ∨ c = 37 ∨ c = 68 ∨ c = 33 → flyF E (itd (standM E ra wa) 0 E.2.1 Y) c j = Y c j := fun c j hc => by rw [fr_flyF (by omega), fr_itd (fun k X => fr_stand (by omega))]
  obtain ⟨y1, y2, y3, y4, y5, y6, y7⟩ := hw2
  refine ⟨by rw [fc 68 0 (by omega)]; exact y1, fun a ha => ?_, fun k hk => ?_, fun a ha => ?_, fun a ha => ?_⟩
  · rw [fc 37 a (by omega)]; exact ⟨(y4 a ha).1, (y4 a ha).2.1 ha⟩
  · rw [fc 11 k (by omega)]; exact y5 k hk (hW.2.2.1 k hk)
  · rw [gotI_c (M := Y) (fun k _ => fc 11 k (by omega))]; exact y6 a ha ha
  · rw [fc 33 a (by omega)]; exact y3 a ha
end
