/-! ===== a day, on the reference's side ===== -/
section
variable {F : fT} {Z : yT} {k i : Nat} {x y : Int32}
theorem e_isR {a b : Int32} {Q : Int32 → yT → Prop} : v_X8_is F x a b Z Q = Q (isw x a b) Z := e_is
def tkR (M : yT) (i k : Nat) : Int32 := if M 0 k = nI i then (if M 12 k = 1 then (if M 17 k < 0 then 0 else 1) else 0) else 0
theorem r_takes (hk : k < F.2.1) (hk2 : F.2.1 ≤ 12) {Q : Int32 → yT → Prop} : v_X7_takes F (nI i) (nI k) Z Q = Q (tkR Z i k) Z := by
  have h1 : k < 2147483648 := by omega
  simp only [v_X7_takes, v_X7_takes_b0, v_X7_takes_b41, v_X7_takes_b42, forall_eq, nI_vp h1, nI_cl h1, hk, true_and, tkR]
  by_cases a : Z 0 k = nI i <;> by_cases b : Z 12 k = 1 <;> by_cases c : Z 17 k < 0 <;> simp [a, b, c]
def nxR (M : yT) (i : Nat) : Nat → Int32 → Int32 → Int32
  | 0, f, b => if b = -1 then f else b
  | k + 1, f, b => if tkR M i k = 0 then nxR M i k f b else if nI k ≤ M 39 i then nxR M i k (nI k) b else nxR M i k (nI k) (nI k)
theorem l_nxR (hF : F.2.1 ≤ 12) (hS : F.1 ≤ 3) (hi : i < F.1) {Q : Int32 → yT → Prop} : ∀ (a n : Nat) (f b : Int32), a ≤ F.2.1 → a + 1 ≤ n → Q (nxR Z i a f b) Z → v_X7_next_b13 F Q n (nI i) f b (nI a - 1) Z := by
  intro a
  induction a with
  | zero =>
    intro n f b h hn hq
    obtain ⟨n, rfl⟩ : ∃ m, n = m + 1 := ⟨n - 1, by omega⟩
    unfold v_X7_next_b13
    have h0 : nI 0 - 1 < 0 := by decide
    simp only [nxR] at hq
    simp only [h0, forall_const, not_true_eq_false, false_implies, and_true, v_X7_next_b67]
    exact ⟨fun c => by rw [if_neg c] at hq; exact hq, fun c => by rw [if_pos c] at hq; exact hq⟩
  | succ a ih =>
    intro n f b h hn hq
    obtain ⟨n, rfl⟩ : ∃ m, n = m + 1 := ⟨n - 1, by omega⟩
    unfold v_X7_next_b13
    have h1 : a < 2147483648 := by omega
    have h2 : i < 2147483648 := by omega
    have h3 : a < F.2.1 := by omega
    rw [nI_pred]
    simp only [nxR] at hq
    simp only [nI_neg h1, false_implies, true_and, not_false_eq_true, forall_const, r_takes h3 hF, v_X7_next_b51, forall_eq, nI_vp h2, nI_cl h2, hi]
    have e1 : nI a + -1 = nI a - 1 := by rw [Int32.sub_eq_add_neg]
    rw [e1]
    refine ⟨fun c => ⟨fun d => ?_, fun d => ?_⟩, fun c => ?_⟩
    · rw [if_neg c, if_pos d] at hq
      exact ih n _ _ (by omega) (by omega) hq
    · rw [if_neg c, if_neg d] at hq
      exact ih n _ _ (by omega) (by omega) hq
    · rw [if_pos c] at hq
      exact ih n _ _ (by omega) (by omega) hq
theorem s_nxR (hF : F.2.1 ≤ 12) (hS : F.1 ≤ 3) (hi : i < F.1) {Q : Int32 → yT → Prop} (h : Q (nxR Z i F.2.1 (-1) (-1)) Z) : v_X7_next F (nI i) Z Q := by
  unfold v_X7_next v_X7_next_b0
  simp only [forall_eq]
  exact ⟨F.2.1 + 1, l_nxR hF hS hi _ _ _ _ (by omega) (by omega) h⟩
def opR (M : yT) (i : Nat) : Int32 := (fun y : Int32 => if M 35 i ≤ y - y / 210 * 210 then 0 else 1) (M 64 0 - M 64 0 / 210 * 210 - M 34 i + 210)
theorem r_open (hS : F.1 ≤ 3) (hi : i < F.1) {Q : Int32 → yT → Prop} : v_X7_isOpen F (nI i) Z Q = Q (opR Z i) Z := by
  have h1 : i < 2147483648 := by omega
  simp only [v_X7_isOpen, v_X7_isOpen_b0, v_X7_isOpen_b45, forall_eq, nI_vp h1, nI_cl h1, hi, true_and, opR]
  generalize Z 64 0 - Z 64 0 / 210 * 210 - Z 34 i + 210 = y
  by_cases h : Z 35 i ≤ y - y / 210 * 210 <;> simp [h]
def parR (M : yT) (i j : Nat) (s : Int32) : Int32 := s + if tkR M i j = 0 then 0 else M 13 j + M 15 j
def givR (i : Nat) (th pa : Int32) (k : Nat) (M : yT) : yT := if tkR M i k = 0 then M else s_up2 (s_up2 M 11 k (th * (M 13 k + M 15 k) / pa)) 37 i (M 37 i - th * (M 13 k + M 15 k) / pa)
theorem l_givR (hF : F.2.1 ≤ 12) (hp : ¬ y = 0) {Q : yT → Prop} : ∀ (d j : Nat) (M : yT), j + d = F.2.1 → v_X7_divide_b177 F Q (d + 1) (nI i) i x y (nI j) M = Q (itd (givR i x y) j d M) := by
  intro d
  induction d with
  | zero =>
    intro j M h
    have hj : j = F.2.1 := h
    subst hj
    unfold v_X7_divide_b177
    simp [itd, nI_lei]
  | succ d ih =>
    intro j M h
    unfold v_X7_divide_b177
    have h1 : j < 2147483648 := by omega
    have h2 : F.2.1 < 2147483648 := by omega
    have h3 : ¬ F.2.1 ≤ j := by omega
    have h4 : j < F.2.1 := by omega
    simp only [forall_eq, nI_lei h2 h1, h3, h4, false_implies, true_and, nI_vp h1, nI_cl h1, not_false_eq_true, forall_const, ← nI_succ, r_takes h4 hF, v_X7_divide_b253, ih (j + 1) _ (by omega), hp, itd_s, givR, up_rd, Nat.reduceEqDiff, false_and, if_false, reduceIte, and_self, if_true]
    by_cases h5 : tkR M i j = 0
    · simp [h5]
    · simp [h5]
theorem l_parR (hF : F.2.1 ≤ 12) {Q : yT → Prop} {M : yT} (hp : ¬ itd (parR M i) 0 F.2.1 0 = 0) (hq : Q (itd (givR i x (itd (parR M i) 0 F.2.1 0)) 0 F.2.1 (s_up2 M 37 i x))) : ∀ (d j : Nat) (s : Int32), j + d = F.2.1 → itd (parR M i) j d s = itd (parR M i) 0 F.2.1 0 → v_X7_divide_b113 F Q (d + 1) (nI i) i x s (nI j) M := by
  intro d
  induction d with
  | zero =>
    intro j s h hs
    have hj : j = F.2.1 := h
    subst hj
    unfold v_X7_divide_b113
    rw [itd_0] at hs
    subst hs
    simp only [forall_eq, nI_lei (show F.2.1 < 2147483648 by omega) (show F.2.1 < 2147483648 by omega), Nat.le_refl, forall_const, not_true_eq_false, false_implies, and_true]
    refine ⟨F.2.1 + 1, ?_⟩
    have e := l_givR (i := i) (x := x) (Q := Q) hF hp F.2.1 0 (s_up2 M 37 i x) (by omega)
    rw [← nI_z] at e
    rw [e]
    exact hq
  | succ d ih =>
    intro j s h hs
    unfold v_X7_divide_b113
    have h1 : j < 2147483648 := by omega
    have h2 : F.2.1 < 2147483648 := by omega
    have h3 : ¬ F.2.1 ≤ j := by omega
    have h4 : j < F.2.1 := by omega
    rw [itd_s] at hs
    simp only [forall_eq, nI_lei h2 h1, h3, h4, false_implies, true_and, nI_vp h1, nI_cl h1, not_false_eq_true, forall_const, ← nI_succ, r_takes h4 hF, v_X7_divide_b160]
    refine ⟨fun c => ?_, fun c => ?_⟩
    · refine ih (j + 1) _ (by omega) ?_
      simp only [parR, c, if_true] at hs
      exact hs
    · refine ih (j + 1) _ (by omega) ?_
      simp only [parR, c, if_false] at hs
      exact hs
def divB (F : fT) (i : Nat) (th : Int32) (M : yT) : yT :=
  if nxR M i F.2.1 (-1) (-1) = -1 then s_up2 M 72 0 (M 72 0 + th) else
  if opR M i = 0 then s_up2 M 72 0 (M 72 0 + th) else
  if M 38 i = 1 then s_up2 (s_up2 M 11 (Int32.toNatClampNeg (nxR M i F.2.1 (-1) (-1))) th) 39 i (nxR M i F.2.1 (-1) (-1)) else
  itd (givR i th (itd (parR M i) 0 F.2.1 0)) 0 F.2.1 (s_up2 M 37 i th)
def divR (F : fT) (i : Nat) (M : yT) : yT := divB F i (thF M i) (s_up2 (s_up2 M 70 0 (M 70 0 + sunkF M i)) 37 i 0)
theorem s_div (hF : F.2.1 ≤ 12) (hS : F.1 ≤ 3) (hi : i < F.1) {M : yT} {Q : yT → Prop}
    (hp : ∀ N : yT, N = s_up2 (s_up2 M 70 0 (M 70 0 + sunkF M i)) 37 i 0 → ¬ nxR N i F.2.1 (-1) (-1) = -1 → ¬ itd (parR N i) 0 F.2.1 0 = 0 ∧ vp_in (nxR N i F.2.1 (-1) (-1)) F.2.1)
    (h : Q (divR F i M)) : v_X7_divide F (nI i) M Q := by
  unfold v_X7_divide v_X7_divide_b0
  have h1 : i < 2147483648 := by omega
  simp only [forall_eq, nI_vp h1, nI_cl h1, hi, true_and]
  refine s_nxR hF hS hi ?_
  unfold divR sunkF thF sunkF at h
  have hp := hp _ rfl
  unfold sunkF at hp
  generalize s_up2 (s_up2 M 70 0 (M 70 0 + M 41 i * M 33 i / 100)) 37 i 0 = N at h hp ⊢
  unfold divB at h
  simp only [v_X7_divide_b67, forall_eq, r_open hS hi]
  refine ⟨fun c => ?_, fun c => ⟨fun c2 => ⟨fun c3 => ?_, fun c3 => ?_⟩, fun c2 => ?_⟩⟩
  · rw [if_pos c] at h; exact h
  · rw [if_neg c, if_neg c2, if_neg c3] at h
    refine ⟨F.2.1 + 1, ?_⟩
    have e := l_parR (i := i) (Q := Q) hF (hp c).1 h F.2.1 0 0 (by omega) rfl
    rw [← nI_z] at e
    exact e
  · rw [if_neg c, if_neg c2, if_pos c3] at h
    exact ⟨(hp c).2, h⟩
  · rw [if_neg c, if_pos c2] at h; exact h
/-! standing -/
def blR (M : yT) (k : Nat) : Nat → Nat → Option Nat
  | _, 0 => none
  | j, d + 1 => if M 0 j = M 0 k then some j else blR M k (j + 1) d
def onI (r : Option Nat) : Int32 := match r with
  | none => -1
  | some j => nI j
theorem l_bl (hF : F.2.1 ≤ 12) (hk : k < F.2.1) {Q : Int32 → yT → Prop} : ∀ (d j : Nat), j + d = F.2.1 → Q (onI (blR Z k j d)) Z → v_X7_below_b4 F Q (d + 1) (nI k) (nI j) Z := by
  intro d
  induction d with
  | zero =>
    intro j h hq
    have hj : j = F.2.1 := h
    subst hj
    unfold v_X7_below_b4
    have h2 : F.2.1 < 2147483648 := by omega
    simp only [forall_eq, nI_lei h2 h2, Nat.le_refl, forall_const, not_true_eq_false, false_implies, and_true, v_X7_below_b38, v_X7_below_b52]
    exact hq
  | succ d ih =>
    intro j h hq
    unfold v_X7_below_b4
    have h1 : j < 2147483648 := by omega
    have h0 : k < 2147483648 := by omega
    have h2 : F.2.1 < 2147483648 := by omega
    have h3 : ¬ F.2.1 ≤ j := by omega
    have h4 : j < F.2.1 := by omega
    simp only [blR] at hq
    simp only [forall_eq, nI_lei h2 h1, h3, h4, hk, false_implies, true_and, nI_vp h1, nI_cl h1, nI_vp h0, nI_cl h0, not_false_eq_true, forall_const, ← nI_succ, v_X7_below_b38, v_X7_below_b52]
    refine ⟨fun c => ?_, fun c => ?_⟩
    · rw [if_pos c] at hq; exact hq
    · rw [if_neg c] at hq; exact ih (j + 1) (by omega) hq
def belR (F : fT) (M : yT) (k : Nat) : Option Nat := blR M k (k + 1) (F.2.1 - (k + 1))
theorem s_bl (hF : F.2.1 ≤ 12) (hk : k < F.2.1) {Q : Int32 → yT → Prop} (h : Q (onI (belR F Z k)) Z) : v_X7_below F (nI k) Z Q := by
  unfold v_X7_below v_X7_below_b0
  simp only [forall_eq, ← nI_succ]
  exact ⟨F.2.1 - (k + 1) + 1, l_bl hF hk _ (k + 1) (by omega) h⟩
theorem blR_lt {M : yT} {k a : Nat} : ∀ (d j : Nat), blR M k j d = some a → a < j + d := by
  intro d
  induction d with
  | zero => intro j h; cases h
  | succ d ih =>
    intro j h
    simp only [blR] at h
    by_cases c : M 0 j = M 0 k
    · rw [if_pos c] at h; cases h; omega
    · rw [if_neg c] at h; have := ih (j + 1) h; omega
def rip2 (M : yT) (k : Nat) : Int32 := 2 + (if M 6 k < 60 + 20 * M 5 k then 0 else 1) + (if M 6 k < 100 + 40 * M 5 k then 0 else 1) + (if M 6 k < (if M 5 k = 2 then 260 else 150 + 50 * M 5 k) then 0 else 1)
def dryG (s : Int32) : Int32 := if s = 0 then 3 else if s = 1 then 6 else 1
def deepG (s : Int32) : Int32 := if s = 0 then 2 else if s = 1 then 4 else 1
def hurtR (M : yT) (k : Nat) : Int32 := M 8 k / 20 + (if 2 ≤ M 1 k then (if M 1 k ≤ 20 then 0 else deepG (M 4 k - 2)) else dryG (M 4 k - 2))
def growR (k : Nat) (M : yT) : yT :=
  (fun N : yT => if 5 ≤ N 4 k then N else s_up2 N 9 k (s_max 0 (N 9 k - 1)))
    ((fun N : yT => s_up2 N 4 k (rip2 N k)) ((fun N : yT => s_up2 N 6 k (N 6 k + N 66 0)) (s_up2 M 7 k (s_max 0 (M 7 k - hurtR M k)))))
theorem ite_app {α β : Type} {c : Prop} [Decidable c] (f : α → β) (a b : α) : (if c then f a else f b) = f (if c then a else b) := by split <;> rfl
theorem vp_4_22 : vp_in (4 : Int32) 22 := by unfold vp_in; decide
theorem vp_3_22 : vp_in (3 : Int32) 22 := by unfold vp_in; decide
theorem cl_4 : Int32.toNatClampNeg (4 : Int32) = 4 := by decide
theorem cl_3 : Int32.toNatClampNeg (3 : Int32) = 3 := by decide
theorem r_g192 {a b : Int32} {Q : yT → Prop} : v_X7_grow_b192 F k a b 4 k Z Q = Q ((fun N : yT => if 5 ≤ N 4 k then N else s_up2 N 9 k (s_max 0 (N 9 k - 1))) (s_up2 Z 4 k (b + a))) := by
  simp only [v_X7_grow_b192, v_X7_grow_b215, forall_eq, vp_4_22, true_and, cl_4]
  exact br_eq (P := Q)
theorem r_g184 {a b c : Int32} {Q : yT → Prop} : v_X7_grow_b184 F k a b c 4 k Z Q = v_X7_grow_b192 F k (if b < a then 0 else 1) c 4 k Z Q := by
  simp only [v_X7_grow_b184]
  exact br_eq (P := fun z => v_X7_grow_b192 F k z c 4 k Z Q)
theorem r_g158 {a b : Int32} {Q : yT → Prop} : v_X7_grow_b158 F k x a b 4 k Z Q = v_X7_grow_b184 F k (if x = 2 then 260 else 150 + 50 * x) (Z 6 k) (b + a) 4 k Z Q := by
  simp only [v_X7_grow_b158, forall_eq]
  rw [and_comm]
  exact br_eq (P := fun z => v_X7_grow_b184 F k z (Z 6 k) (b + a) 4 k Z Q)
theorem r_g137 {a b : Int32} {Q : yT → Prop} : v_X7_grow_b137 F k x a b 4 k Z Q = v_X7_grow_b158 F k x (if Z 6 k < 100 + 40 * x then 0 else 1) (b + a) 4 k Z Q := by
  simp only [v_X7_grow_b137, forall_eq]
  exact br_eq (P := fun z => v_X7_grow_b158 F k x z (b + a) 4 k Z Q)
theorem r_g78 {a b : Int32} {Q : yT → Prop} : v_X7_grow_b78 F k a b Z Q = Q ((fun N : yT => if 5 ≤ N 4 k then N else s_up2 N 9 k (s_max 0 (N 9 k - 1)))
    ((fun N : yT => s_up2 N 4 k (rip2 N k)) ((fun N : yT => s_up2 N 6 k (N 6 k + N 66 0)) (s_up2 Z 7 k (s_max 0 (Z 7 k - (b + a))))))) := by
  simp only [v_X7_grow_b78, forall_eq]
  generalize s_up2 (s_up2 Z 7 k (s_max 0 (Z 7 k - (b + a)))) 6 k _ = N
  rw [br_eq (P := fun z => v_X7_grow_b137 F k (N 5 k) z 2 4 k N Q), r_g137, r_g158, r_g184, r_g192]
  rfl
theorem r_grow {Q : yT → Prop} : v_X7_grow F k Z Q = Q (growR k Z) := by
  have h44 : ∀ (c d : Int32), v_X7_grow_b44 F k c d Z Q = v_X7_grow_b78 F k (if 2 ≤ Z 1 k then (if Z 1 k ≤ 20 then 0 else d) else c) (Z 8 k / 20) Z Q := by
    intro c d
    simp only [v_X7_grow_b44, forall_eq]
    by_cases h1 : 2 ≤ Z 1 k <;> by_cases h2 : Z 1 k ≤ 20 <;> simp [h1, h2]
  have h25 : ∀ (s c : Int32), v_X7_grow_b25 F k s c Z Q = v_X7_grow_b44 F k c (deepG s) Z Q := by
    intro s c
    simp only [v_X7_grow_b25, deepG]
    by_cases h1 : s = 0 <;> by_cases h2 : s = 1 <;> simp [h1, h2]
  have h0 : v_X7_grow F k Z Q = v_X7_grow_b25 F k (Z 4 k - 2) (dryG (Z 4 k - 2)) Z Q := by
    simp only [v_X7_grow, v_X7_grow_b0, forall_eq, dryG]
    by_cases h1 : Z 4 k - 2 = 0 <;> by_cases h2 : Z 4 k - 2 = 1 <;> simp [h1, h2]
  rw [h0, h25, h44, r_g78]
  rfl
def lvR (M : yT) (k : Nat) : Int32 := (fun z : Int32 => s_max 0 (s_min 99 (if M 16 k = 1 then z + -4 else z))) (if 2 ≤ M 4 k then (if 5 ≤ M 4 k then M 8 k else M 8 k + (1 + M 8 k / 4)) else M 8 k / 2)
theorem r_live {Q : yT → Prop} : v_X7_live F k Z Q = Q (s_up2 Z 8 k (lvR Z k)) := by
  have h34 : ∀ z : Int32, v_X7_live_b34 F k z Z Q = Q (s_up2 Z 8 k (s_max 0 (s_min 99 (if Z 16 k = 1 then z + -4 else z)))) := by
    intro z
    simp only [v_X7_live_b34, v_X7_live_b45, forall_eq]
    by_cases h1 : Z 16 k = 1 <;> simp [h1]
  simp only [v_X7_live, v_X7_live_b0, forall_eq, h34, lvR]
  by_cases h1 : 2 ≤ Z 4 k <;> by_cases h2 : 5 ≤ Z 4 k <;> simp [h1, h2]
end
