section
variable {H : Nat → Nat → Nat → Nat} {E : eT} {P : sT → Prop} {w : Nat}
def v_X5_isOpenOn_b24 (E : eT) (w : Nat) (y0 : Int32) (Z : zT) (Q : Int32 → zT → Prop) : Prop :=
  (y0 = 0 ∨ y0 = 1) ∧
  Q y0 Z
set_option maxHeartbeats 1000000 in
theorem u_X5_isOpenOn_b24 {Q : Int32 → sT → Prop} {Q' : Int32 → zT → Prop} {y0 : Int32} {S : sT} {Z : zT} (hSt : cSt P) (hQ : ∀ x S Z, CC H E S Z → P S → Q' x Z → Q x S)  (hw : w < 2)  (hC : CC H E S Z) (hP : P S) (h : v_X5_isOpenOn_b24 E w y0 Z Q') : w_X5_isOpenOn_b24 y0 S Q := by
  unfold v_X5_isOpenOn_b24 at h
  unfold w_X5_isOpenOn_b24
  obtain ⟨hn, h⟩ := h
  refine ⟨hn, ?_⟩
  exact hQ _ _ _ hC hP h
def v_X5_isOpenOn_b0 (E : eT) (w : Nat) (x0 : Nat) (x1 : Int32) (Z : zT) (Q : Int32 → zT → Prop) : Prop :=
  ∀ x101 : Int32, x101 = Z w 34 x0 →
  ∀ x102 : Int32, x102 = x1 - x101 →
  v_J9_floorMod_7cf53 E x102 (210 : Int32) Z (fun x104 Z103 =>
  ∀ x105 : Int32, x105 = Z103 w 35 x0 →
  ((x105 ≤ x104 →
  v_X5_isOpenOn_b24 E w (0 : Int32) Z103 Q) ∧
  (¬ x105 ≤ x104 →
  v_X5_isOpenOn_b24 E w (1 : Int32) Z103 Q)))
set_option maxHeartbeats 1000000 in
theorem u_X5_isOpenOn_b0 {Q : Int32 → sT → Prop} {Q' : Int32 → zT → Prop} {x0 : Nat} {x1 : Int32} {S : sT} {Z : zT} (hSt : cSt P) (hQ : ∀ x S Z, CC H E S Z → P S → Q' x Z → Q x S)  (hw : w < 2) (k_x0 : x0 < E.1) (hC : CC H E S Z) (hP : P S) (h : v_X5_isOpenOn_b0 E w x0 x1 Z Q') : w_X5_isOpenOn_b0 (H w 4 x0) x1 S Q := by
  unfold v_X5_isOpenOn_b0 at h
  unfold w_X5_isOpenOn_b0
  refine ⟨rK_Soc hC hw k_x0, ?_⟩
  intro x101 ex
  replace h := h x101 (ex.trans (rI_34 hC hw k_x0))
  intro x102 ex
  replace h := h x102 ex
  refine u_J9_floorMod_7cf53 hSt (fun x104 S103 Z103 hC hP h => ?_) hC hP h
  refine ⟨rK_Soc hC hw k_x0, ?_⟩
  intro x105 ex
  replace h := h x105 (ex.trans (rI_35 hC hw k_x0))
  refine ⟨fun c => ?_, fun c => ?_⟩
  · replace h := h.1 c
    exact u_X5_isOpenOn_b24 hSt hQ hw hC hP h
  · replace h := h.2 c
    exact u_X5_isOpenOn_b24 hSt hQ hw hC hP h
def v_X5_isOpenOn (E : eT) (w : Nat) (x0 : Nat) (x1 : Int32) (Z : zT) (Q : Int32 → zT → Prop) : Prop :=
  v_X5_isOpenOn_b0 E w x0 x1 Z Q
set_option maxHeartbeats 1000000 in
theorem u_X5_isOpenOn {Q : Int32 → sT → Prop} {Q' : Int32 → zT → Prop} {x0 : Nat} {x1 : Int32} {S : sT} {Z : zT} (hSt : cSt P) (hQ : ∀ x S Z, CC H E S Z → P S → Q' x Z → Q x S)  (hw : w < 2) (k_x0 : x0 < E.1) (hC : CC H E S Z) (hP : P S) (h : v_X5_isOpenOn E w x0 x1 Z Q') : w_X5_isOpenOn (H w 4 x0) x1 S Q := by
  unfold v_X5_isOpenOn at h
  unfold w_X5_isOpenOn
  exact u_X5_isOpenOn_b0 (x0 := x0) hSt hQ hw k_x0 hC hP h
def v_X5_giveByNotch_b142 (E : eT) (w : Nat) (x0 : Nat) (x1 : Int32) (x3 : Int32) (x4 : Int32) (Z : zT) (kk80 : Nat → Int32 → Int32 → Int32 → zT → Prop) (Q : zT → Prop) : Prop :=
  ∀ x101 : Int32, x101 = x4 + 1 →
  kk80 x0 x1 x3 x101 Z
set_option maxHeartbeats 1000000 in
theorem u_X5_giveByNotch_b142 {Q : sT → Prop} {Q' : zT → Prop} {x0 : Nat} {x1 : Int32} {x3 : Int32} {x4 : Int32} {S : sT} {Z : zT} (hSt : cSt P) (hQ : ∀ S Z, CC H E S Z → P S → Q' Z → Q S) {kk80 : Nat → Int32 → Int32 → Int32 → sT → Prop} {kk80' : Nat → Int32 → Int32 → Int32 → zT → Prop} (hkk80 : ∀ (x0 : Nat) (x1 : Int32) (x3 : Int32) (x4 : Int32) S Z, (x0 < E.1) → CC H E S Z → P S → kk80' x0 x1 x3 x4 Z → kk80 (H w 4 x0) x1 x3 x4 S) (hw : w < 2) (k_x0 : x0 < E.1) (hC : CC H E S Z) (hP : P S) (h : v_X5_giveByNotch_b142 E w x0 x1 x3 x4 Z kk80' Q') : w_X5_giveByNotch_b142 (H w 4 x0) x1 x3 x4 S kk80 Q := by
  unfold v_X5_giveByNotch_b142 at h
  unfold w_X5_giveByNotch_b142
  intro x101 ex
  replace h := h x101 ex
  exact hkk80 x0 x1 x3 x101 _ _ k_x0 hC hP h
def v_X5_giveByNotch_b80 (E : eT) (w : Nat)  (Q : zT → Prop) : Nat → Nat → Int32 → Int32 → Int32 → zT → Prop
  | 0 => fun _ _ _ _ _ => False
  | n + 1 => fun x0 x1 x3 x4 Z =>
    ∀ x103 : Int32, x103 = nI (ce_mem E x0).length →
    ((x103 ≤ x4 →
    Q Z) ∧
    (¬ x103 ≤ x4 →
    vp_in x4 (ce_mem E x0).length ∧
    ∀ a107 : Nat, a107 = (ce_mem E x0).getD (Int32.toNatClampNeg x4) 0 →
    v_X1_takesWater E w a107 Z (fun x109 Z108 =>
    ((x109 = 0 →
    v_X5_giveByNotch_b142 E w x0 x1 x3 x4 Z108 (fun x0 x1 x3 x4 Z => v_X5_giveByNotch_b80 E w Q n x0 x1 x3 x4 Z) Q) ∧
    (¬ x109 = 0 →
    v_X1_part E w a107 Z108 (fun x112 Z111 =>
    ∀ x113 : Int32, x113 = x1 * x112 →
    ¬ x3 = 0 ∧
    ∀ x115 : Int32, x115 = x113 / x3 →
    ∀ Z116 : zT, Z116 = u3 Z111 w 11 a107 x115 →
    ∀ x117 : Int32, x117 = Z116 w 37 x0 →
    ∀ x118 : Int32, x118 = Z116 w 11 a107 →
    ∀ x119 : Int32, x119 = x117 - x118 →
    ∀ Z120 : zT, Z120 = u3 Z116 w 37 x0 x119 →
    v_X5_giveByNotch_b142 E w x0 x1 x3 x4 Z120 (fun x0 x1 x3 x4 Z => v_X5_giveByNotch_b80 E w Q n x0 x1 x3 x4 Z) Q))))))
set_option maxHeartbeats 1000000 in
theorem u_X5_giveByNotch_b80 {Q : sT → Prop} {Q' : zT → Prop} (hSt : cSt P) (hQ : ∀ S Z, CC H E S Z → P S → Q' Z → Q S)  (hw : w < 2) : ∀ (n : Nat) (x0 : Nat) (x1 : Int32) (x3 : Int32) (x4 : Int32) (S : sT) (Z : zT), (x0 < E.1) → CC H E S Z → P S → v_X5_giveByNotch_b80 E w  Q' n x0 x1 x3 x4 Z → w_X5_giveByNotch_b80  Q n (H w 4 x0) x1 x3 x4 S := by
  intro n
  induction n with
  | zero => intro x0 x1 x3 x4 S Z k_x0 hC hP h; exact absurd h id
  | succ n ih =>
    intro x0 x1 x3 x4 S Z k_x0 hC hP h
    unfold v_X5_giveByNotch_b80 at h
    unfold w_X5_giveByNotch_b80
    refine ⟨rK_Soc hC hw k_x0, ?_⟩
    refine ⟨_, rF_195 hC hw k_x0, ?_⟩
    refine ⟨rK_LM hC hw k_x0, ?_⟩
    refine us_size (rL_LM hC hw k_x0) ?_
    replace h := h _ rfl
    refine ⟨fun c => ?_, fun c => ?_⟩
    · replace h := h.1 c
      exact hQ _ _ hC hP h
    · replace h := h.2 c
      refine ⟨rK_Soc hC hw k_x0, ?_⟩
      refine ⟨_, rF_195 hC hw k_x0, ?_⟩
      refine ⟨rK_LM hC hw k_x0, ?_⟩
      obtain ⟨hi, h⟩ := h
      obtain ⟨a107, ea107, h⟩ := vEx h
      have k_a107 := mem_lt hi ea107
      refine us_get (rL_LM hC hw k_x0) hi (congrArg (H w 5) ea107) ?_
      refine ⟨rK_Fld hC hw k_a107, ?_⟩
      refine u_X1_takesWater (x0 := a107) hSt (fun x109 S108 Z108 hC hP h => ?_) hw k_a107 hC hP h
      refine ⟨fun c => ?_, fun c => ?_⟩
      · replace h := h.1 c
        exact u_X5_giveByNotch_b142 (x0 := x0) hSt hQ (fun x0 x1 x3 x4 S Z k_x0 hC hP h => ih x0 x1 x3 x4 _ _ k_x0 hC hP h) hw k_x0 hC hP h
      · replace h := h.2 c
        refine ⟨rK_Fld hC hw k_a107, ?_⟩
        refine u_X1_part (x0 := a107) hSt (fun x112 S111 Z111 hC hP h => ?_) hw k_a107 hC hP h
        intro x113 ex
        replace h := h x113 ex
        obtain ⟨hn, h⟩ := h
        refine ⟨hn, ?_⟩
        intro x115 ex
        replace h := h x115 ex
        refine ⟨rK_Fld hC hw k_a107, ?_⟩
        intro S116 eS
        obtain ⟨Z116, eZ, h⟩ := vEx h
        replace hC := wI_11 hC hw k_a107 eS eZ
        replace hP := eS ▸ hSt _ 78 _ _ (by decide) hP
        clear eS eZ
        refine ⟨rK_Soc hC hw k_x0, ?_⟩
        intro x117 ex
        replace h := h x117 (ex.trans (rI_37 hC hw k_x0))
        intro x118 ex
        replace h := h x118 (ex.trans (rI_11 hC hw k_a107))
        intro x119 ex
        replace h := h x119 ex
        intro S120 eS
        obtain ⟨Z120, eZ, h⟩ := vEx h
        replace hC := wI_37 hC hw k_x0 eS eZ
        replace hP := eS ▸ hSt _ 199 _ _ (by decide) hP
        clear eS eZ
        exact u_X5_giveByNotch_b142 (x0 := x0) hSt hQ (fun x0 x1 x3 x4 S Z k_x0 hC hP h => ih x0 x1 x3 x4 _ _ k_x0 hC hP h) hw k_x0 hC hP h
def v_X5_giveByNotch_b49 (E : eT) (w : Nat) (x0 : Nat) (x1 : Int32) (x4 : Int32) (y0 : Int32) (y1 : Int32) (Z : zT) (kk5 : Nat → Int32 → Int32 → Int32 → zT → Prop) (Q : zT → Prop) : Prop :=
  ∀ x101 : Int32, x101 = y1 + y0 →
  ∀ x102 : Int32, x102 = x4 + 1 →
  kk5 x0 x1 x101 x102 Z
set_option maxHeartbeats 1000000 in
theorem u_X5_giveByNotch_b49 {Q : sT → Prop} {Q' : zT → Prop} {x0 : Nat} {x1 : Int32} {x4 : Int32} {y0 : Int32} {y1 : Int32} {S : sT} {Z : zT} (hSt : cSt P) (hQ : ∀ S Z, CC H E S Z → P S → Q' Z → Q S) {kk5 : Nat → Int32 → Nat → Int32 → Int32 → sT → Prop} {kk5' : Nat → Int32 → Int32 → Int32 → zT → Prop} (hkk5 : ∀ (x0 : Nat) (x1 : Int32) (x3 : Int32) (x4 : Int32) S Z, (x0 < E.1) → CC H E S Z → P S → kk5' x0 x1 x3 x4 Z → kk5 (H w 4 x0) x1 (H w 3 0) x3 x4 S) (hw : w < 2) (k_x0 : x0 < E.1) (hC : CC H E S Z) (hP : P S) (h : v_X5_giveByNotch_b49 E w x0 x1 x4 y0 y1 Z kk5' Q') : w_X5_giveByNotch_b49 (H w 4 x0) x1 (H w 3 0) x4 y0 y1 S kk5 Q := by
  unfold v_X5_giveByNotch_b49 at h
  unfold w_X5_giveByNotch_b49
  intro x101 ex
  replace h := h x101 ex
  intro x102 ex
  replace h := h x102 ex
  exact hkk5 x0 x1 x101 x102 _ _ k_x0 hC hP h
def v_X5_giveByNotch_b5 (E : eT) (w : Nat)  (Q : zT → Prop) : Nat → Nat → Int32 → Int32 → Int32 → zT → Prop
  | 0 => fun _ _ _ _ _ => False
  | n + 1 => fun x0 x1 x3 x4 Z =>
    ∀ x103 : Int32, x103 = nI (ce_mem E x0).length →
    ((x103 ≤ x4 →
    ((0 < x3 →
    ∀ Z106 : zT, Z106 = u3 Z w 37 x0 x1 →
    ∃ n9 : Nat, 
    v_X5_giveByNotch_b80 E w Q n9 x0 x1 x3 (0 : Int32) Z106) ∧
    (¬ 0 < x3 →
    ∀ x107 : Int32, x107 = Z w 72 0 →
    ∀ x108 : Int32, x108 = x107 + x1 →
    ∀ Z109 : zT, Z109 = u3 Z w 72 0 x108 →
    Q Z109))) ∧
    (¬ x103 ≤ x4 →
    vp_in x4 (ce_mem E x0).length ∧
    ∀ a112 : Nat, a112 = (ce_mem E x0).getD (Int32.toNatClampNeg x4) 0 →
    v_X1_takesWater E w a112 Z (fun x114 Z113 =>
    ((x114 = 0 →
    v_X5_giveByNotch_b49 E w x0 x1 x4 (0 : Int32) x3 Z113 (fun x0 x1 x3 x4 Z => v_X5_giveByNotch_b5 E w Q n x0 x1 x3 x4 Z) Q) ∧
    (¬ x114 = 0 →
    v_X1_part E w a112 Z113 (fun x117 Z116 =>
    v_X5_giveByNotch_b49 E w x0 x1 x4 x117 x3 Z116 (fun x0 x1 x3 x4 Z => v_X5_giveByNotch_b5 E w Q n x0 x1 x3 x4 Z) Q))))))
set_option maxHeartbeats 1000000 in
theorem u_X5_giveByNotch_b5 {Q : sT → Prop} {Q' : zT → Prop} (hSt : cSt P) (hQ : ∀ S Z, CC H E S Z → P S → Q' Z → Q S)  (hw : w < 2) : ∀ (n : Nat) (x0 : Nat) (x1 : Int32) (x3 : Int32) (x4 : Int32) (S : sT) (Z : zT), (x0 < E.1) → CC H E S Z → P S → v_X5_giveByNotch_b5 E w  Q' n x0 x1 x3 x4 Z → w_X5_giveByNotch_b5  Q n (H w 4 x0) x1 (H w 3 0) x3 x4 S := by
  intro n
  induction n with
  | zero => intro x0 x1 x3 x4 S Z k_x0 hC hP h; exact absurd h id
  | succ n ih =>
    intro x0 x1 x3 x4 S Z k_x0 hC hP h
    unfold v_X5_giveByNotch_b5 at h
    unfold w_X5_giveByNotch_b5
    refine ⟨rK_Soc hC hw k_x0, ?_⟩
    refine ⟨_, rF_195 hC hw k_x0, ?_⟩
    refine ⟨rK_LM hC hw k_x0, ?_⟩
    refine us_size (rL_LM hC hw k_x0) ?_
    replace h := h _ rfl
    refine ⟨fun c => ?_, fun c => ?_⟩
    · replace h := h.1 c
      refine ⟨fun c => ?_, fun c => ?_⟩
      · replace h := h.1 c
        refine ⟨rK_Soc hC hw k_x0, ?_⟩
        intro S106 eS
        obtain ⟨Z106, eZ, h⟩ := vEx h
        replace hC := wI_37 hC hw k_x0 eS eZ
        replace hP := eS ▸ hSt _ 199 _ _ (by decide) hP
        clear eS eZ
        obtain ⟨n9, h⟩ := h
        refine ⟨n9, ?_⟩
        exact u_X5_giveByNotch_b80 hSt hQ hw n9 x0 x1 x3 (0 : Int32) _ _ k_x0 hC hP h
      · replace h := h.2 c
        refine ⟨rK_Led hC hw, ?_⟩
        intro x107 ex
        replace h := h x107 (ex.trans (rI_72 hC hw z01))
        intro x108 ex
        replace h := h x108 ex
        intro S109 eS
        obtain ⟨Z109, eZ, h⟩ := vEx h
        replace hC := wI_72 hC hw z01 eS eZ
        replace hP := eS ▸ hSt _ 131 _ _ (by decide) hP
        clear eS eZ
        exact hQ _ _ hC hP h
    · replace h := h.2 c
      refine ⟨rK_Soc hC hw k_x0, ?_⟩
      refine ⟨_, rF_195 hC hw k_x0, ?_⟩
      refine ⟨rK_LM hC hw k_x0, ?_⟩
      obtain ⟨hi, h⟩ := h
      obtain ⟨a112, ea112, h⟩ := vEx h
      have k_a112 := mem_lt hi ea112
      refine us_get (rL_LM hC hw k_x0) hi (congrArg (H w 5) ea112) ?_
      refine ⟨rK_Fld hC hw k_a112, ?_⟩
      refine u_X1_takesWater (x0 := a112) hSt (fun x114 S113 Z113 hC hP h => ?_) hw k_a112 hC hP h
      refine ⟨fun c => ?_, fun c => ?_⟩
      · replace h := h.1 c
        exact u_X5_giveByNotch_b49 (x0 := x0) hSt hQ (fun x0 x1 x3 x4 S Z k_x0 hC hP h => ih x0 x1 x3 x4 _ _ k_x0 hC hP h) hw k_x0 hC hP h
      · replace h := h.2 c
        refine ⟨rK_Fld hC hw k_a112, ?_⟩
        refine u_X1_part (x0 := a112) hSt (fun x117 S116 Z116 hC hP h => ?_) hw k_a112 hC hP h
        exact u_X5_giveByNotch_b49 (x0 := x0) hSt hQ (fun x0 x1 x3 x4 S Z k_x0 hC hP h => ih x0 x1 x3 x4 _ _ k_x0 hC hP h) hw k_x0 hC hP h
def v_X5_giveByNotch_b0 (E : eT) (w : Nat) (x0 : Nat) (x1 : Int32) (Z : zT) (Q : zT → Prop) : Prop :=
  ∃ n9 : Nat, 
  v_X5_giveByNotch_b5 E w Q n9 x0 x1 (0 : Int32) (0 : Int32) Z
set_option maxHeartbeats 1000000 in
theorem u_X5_giveByNotch_b0 {Q : sT → Prop} {Q' : zT → Prop} {x0 : Nat} {x1 : Int32} {S : sT} {Z : zT} (hSt : cSt P) (hQ : ∀ S Z, CC H E S Z → P S → Q' Z → Q S)  (hw : w < 2) (k_x0 : x0 < E.1) (hC : CC H E S Z) (hP : P S) (h : v_X5_giveByNotch_b0 E w x0 x1 Z Q') : w_X5_giveByNotch_b0 (H w 4 x0) x1 (H w 3 0) S Q := by
  unfold v_X5_giveByNotch_b0 at h
  unfold w_X5_giveByNotch_b0
  obtain ⟨n9, h⟩ := h
  refine ⟨n9, ?_⟩
  exact u_X5_giveByNotch_b5 hSt hQ hw n9 x0 x1 (0 : Int32) (0 : Int32) _ _ k_x0 hC hP h
def v_X5_giveByNotch (E : eT) (w : Nat) (x0 : Nat) (x1 : Int32) (Z : zT) (Q : zT → Prop) : Prop :=
  v_X5_giveByNotch_b0 E w x0 x1 Z Q
set_option maxHeartbeats 1000000 in
theorem u_X5_giveByNotch {Q : sT → Prop} {Q' : zT → Prop} {x0 : Nat} {x1 : Int32} {S : sT} {Z : zT} (hSt : cSt P) (hQ : ∀ S Z, CC H E S Z → P S → Q' Z → Q S)  (hw : w < 2) (k_x0 : x0 < E.1) (hC : CC H E S Z) (hP : P S) (h : v_X5_giveByNotch E w x0 x1 Z Q') : w_X5_giveByNotch (H w 4 x0) x1 (H w 3 0) S Q := by
  unfold v_X5_giveByNotch at h
  unfold w_X5_giveByNotch
  exact u_X5_giveByNotch_b0 (x0 := x0) hSt hQ hw k_x0 hC hP h
def v_X5_nextInTurn_b56 (E : eT) (w : Nat) (x0 : Nat) (x1 : Option Nat) (x2 : Int32) (Z : zT) (kk4 : Nat → Option Nat → Int32 → zT → Prop) (Q : Option Nat → zT → Prop) : Prop :=
  ∀ x101 : Int32, x101 = x2 + 1 →
  kk4 x0 x1 x101 Z
set_option maxHeartbeats 1000000 in
theorem u_X5_nextInTurn_b56 {Q : Option Nat → sT → Prop} {Q' : Option Nat → zT → Prop} {x0 : Nat} {x1 : Option Nat} {x2 : Int32} {S : sT} {Z : zT} (hSt : cSt P) (hQ : ∀ x S Z, (∀ k, x = some k → k < E.2.1) → CC H E S Z → P S → Q' x Z → Q (Option.map (H w 5) x) S) {kk4 : Nat → Option Nat → Int32 → sT → Prop} {kk4' : Nat → Option Nat → Int32 → zT → Prop} (hkk4 : ∀ (x0 : Nat) (x1 : Option Nat) (x2 : Int32) S Z, (x0 < E.1) → (∀ k, x1 = some k → k < E.2.1) → CC H E S Z → P S → kk4' x0 x1 x2 Z → kk4 (H w 4 x0) (Option.map (H w 5) x1) x2 S) (hw : w < 2) (k_x0 : x0 < E.1) (k_x1 : ∀ k, x1 = some k → k < E.2.1) (hC : CC H E S Z) (hP : P S) (h : v_X5_nextInTurn_b56 E w x0 x1 x2 Z kk4' Q') : w_X5_nextInTurn_b56 (H w 4 x0) (Option.map (H w 5) x1) x2 S kk4 Q := by
  unfold v_X5_nextInTurn_b56 at h
  unfold w_X5_nextInTurn_b56
  intro x101 ex
  replace h := h x101 ex
  exact hkk4 x0 x1 x101 _ _ k_x0 k_x1 hC hP h
def v_X5_nextInTurn_b4 (E : eT) (w : Nat)  (Q : Option Nat → zT → Prop) : Nat → Nat → Option Nat → Int32 → zT → Prop
  | 0 => fun _ _ _ _ => False
  | n + 1 => fun x0 x1 x2 Z =>
    ∀ x103 : Int32, x103 = nI (ce_mem E x0).length →
    ((x103 ≤ x2 →
    Q x1 Z) ∧
    (¬ x103 ≤ x2 →
    vp_in x2 (ce_mem E x0).length ∧
    ∀ a107 : Nat, a107 = (ce_mem E x0).getD (Int32.toNatClampNeg x2) 0 →
    v_X1_takesWater E w a107 Z (fun x109 Z108 =>
    ((¬ x109 = 0 →
    ∀ x111 : Int32, x111 = nI a107 →
    ∀ x112 : Int32, x112 = Z108 w 39 x0 →
    ((x111 ≤ x112 →
    ((x1 = none →
    v_X5_nextInTurn_b56 E w x0 (some a107) x2 Z108 (fun x0 x1 x2 Z => v_X5_nextInTurn_b4 E w Q n x0 x1 x2 Z) Q) ∧
    (∀ a114 : Nat, x1 = some a114 →
    v_X5_nextInTurn_b56 E w x0 (some a114) x2 Z108 (fun x0 x1 x2 Z => v_X5_nextInTurn_b4 E w Q n x0 x1 x2 Z) Q))) ∧
    (¬ x111 ≤ x112 →
    Q (some a107) Z108))) ∧
    (x109 = 0 →
    v_X5_nextInTurn_b56 E w x0 x1 x2 Z108 (fun x0 x1 x2 Z => v_X5_nextInTurn_b4 E w Q n x0 x1 x2 Z) Q)))))
set_option maxHeartbeats 1000000 in
theorem u_X5_nextInTurn_b4 {Q : Option Nat → sT → Prop} {Q' : Option Nat → zT → Prop} (hSt : cSt P) (hQ : ∀ x S Z, (∀ k, x = some k → k < E.2.1) → CC H E S Z → P S → Q' x Z → Q (Option.map (H w 5) x) S)  (hw : w < 2) : ∀ (n : Nat) (x0 : Nat) (x1 : Option Nat) (x2 : Int32) (S : sT) (Z : zT), (x0 < E.1) → (∀ k, x1 = some k → k < E.2.1) → CC H E S Z → P S → v_X5_nextInTurn_b4 E w  Q' n x0 x1 x2 Z → w_X5_nextInTurn_b4  Q n (H w 4 x0) (Option.map (H w 5) x1) x2 S := by
  intro n
  induction n with
  | zero => intro x0 x1 x2 S Z k_x0 k_x1 hC hP h; exact absurd h id
  | succ n ih =>
    intro x0 x1 x2 S Z k_x0 k_x1 hC hP h
    unfold v_X5_nextInTurn_b4 at h
    unfold w_X5_nextInTurn_b4
    refine ⟨rK_Soc hC hw k_x0, ?_⟩
    refine ⟨_, rF_195 hC hw k_x0, ?_⟩
    refine ⟨rK_LM hC hw k_x0, ?_⟩
    refine us_size (rL_LM hC hw k_x0) ?_
    replace h := h _ rfl
    refine ⟨fun c => ?_, fun c => ?_⟩
    · replace h := h.1 c
      exact hQ x1 _ _ k_x1 hC hP h
    · replace h := h.2 c
      refine ⟨rK_Soc hC hw k_x0, ?_⟩
      refine ⟨_, rF_195 hC hw k_x0, ?_⟩
      refine ⟨rK_LM hC hw k_x0, ?_⟩
      obtain ⟨hi, h⟩ := h
      obtain ⟨a107, ea107, h⟩ := vEx h
      have k_a107 := mem_lt hi ea107
      refine us_get (rL_LM hC hw k_x0) hi (congrArg (H w 5) ea107) ?_
      refine ⟨rK_Fld hC hw k_a107, ?_⟩
      refine u_X1_takesWater (x0 := a107) hSt (fun x109 S108 Z108 hC hP h => ?_) hw k_a107 hC hP h
      refine ⟨fun c => ?_, fun c => ?_⟩
      · replace h := h.1 c
        refine ⟨rK_Fld hC hw k_a107, ?_⟩
        intro x111 ex
        replace h := h x111 (ex.trans (rG_64 hC hw k_a107))
        refine ⟨rK_Soc hC hw k_x0, ?_⟩
        intro x112 ex
        replace h := h x112 (ex.trans (rI_39 hC hw k_x0))
        refine ⟨fun c => ?_, fun c => ?_⟩
        · replace h := h.1 c
          refine ⟨fun c => ?_, fun a c => ?_⟩
          · replace h := h.1 (optN c)
            exact u_X5_nextInTurn_b56 (x0 := x0) (x1 := (some a107)) hSt hQ (fun x0 x1 x2 S Z k_x0 k_x1 hC hP h => ih x0 x1 x2 _ _ k_x0 k_x1 hC hP h) hw k_x0 (optK k_a107) hC hP h
          · obtain ⟨a114, cz, ea⟩ := optS c
            clear c
            subst ea
            replace h := h.2 a114 cz
            have k_a114 := k_x1 _ cz
            exact u_X5_nextInTurn_b56 (x0 := x0) (x1 := (some a114)) hSt hQ (fun x0 x1 x2 S Z k_x0 k_x1 hC hP h => ih x0 x1 x2 _ _ k_x0 k_x1 hC hP h) hw k_x0 (optK k_a114) hC hP h
        · replace h := h.2 c
          exact hQ (some a107) _ _ (optK k_a107) hC hP h
      · replace h := h.2 c
        exact u_X5_nextInTurn_b56 (x0 := x0) (x1 := x1) hSt hQ (fun x0 x1 x2 S Z k_x0 k_x1 hC hP h => ih x0 x1 x2 _ _ k_x0 k_x1 hC hP h) hw k_x0 k_x1 hC hP h
def v_X5_nextInTurn_b0 (E : eT) (w : Nat) (x0 : Nat) (Z : zT) (Q : Option Nat → zT → Prop) : Prop :=
  ∃ n9 : Nat, 
  v_X5_nextInTurn_b4 E w Q n9 x0 none (0 : Int32) Z
set_option maxHeartbeats 1000000 in
theorem u_X5_nextInTurn_b0 {Q : Option Nat → sT → Prop} {Q' : Option Nat → zT → Prop} {x0 : Nat} {S : sT} {Z : zT} (hSt : cSt P) (hQ : ∀ x S Z, (∀ k, x = some k → k < E.2.1) → CC H E S Z → P S → Q' x Z → Q (Option.map (H w 5) x) S)  (hw : w < 2) (k_x0 : x0 < E.1) (hC : CC H E S Z) (hP : P S) (h : v_X5_nextInTurn_b0 E w x0 Z Q') : w_X5_nextInTurn_b0 (H w 4 x0) S Q := by
  unfold v_X5_nextInTurn_b0 at h
  unfold w_X5_nextInTurn_b0
  obtain ⟨n9, h⟩ := h
  refine ⟨n9, ?_⟩
  exact u_X5_nextInTurn_b4 hSt hQ hw n9 x0 none (0 : Int32) _ _ k_x0 (fun _ z => absurd z nofun) hC hP h
def v_X5_nextInTurn (E : eT) (w : Nat) (x0 : Nat) (Z : zT) (Q : Option Nat → zT → Prop) : Prop :=
  v_X5_nextInTurn_b0 E w x0 Z Q
set_option maxHeartbeats 1000000 in
theorem u_X5_nextInTurn {Q : Option Nat → sT → Prop} {Q' : Option Nat → zT → Prop} {x0 : Nat} {S : sT} {Z : zT} (hSt : cSt P) (hQ : ∀ x S Z, (∀ k, x = some k → k < E.2.1) → CC H E S Z → P S → Q' x Z → Q (Option.map (H w 5) x) S)  (hw : w < 2) (k_x0 : x0 < E.1) (hC : CC H E S Z) (hP : P S) (h : v_X5_nextInTurn E w x0 Z Q') : w_X5_nextInTurn (H w 4 x0) S Q := by
  unfold v_X5_nextInTurn at h
  unfold w_X5_nextInTurn
  exact u_X5_nextInTurn_b0 (x0 := x0) hSt hQ hw k_x0 hC hP h
def v_X5_giveInTurn_b0 (E : eT) (w : Nat) (x0 : Nat) (x1 : Option Nat) (x2 : Int32) (Z : zT) (Q : zT → Prop) : Prop :=
  ((x1 = none →
  ∀ x103 : Int32, x103 = Z w 72 0 →
  ∀ x104 : Int32, x104 = x103 + x2 →
  ∀ Z105 : zT, Z105 = u3 Z w 72 0 x104 →
  Q Z105) ∧
  (∀ a101 : Nat, x1 = some a101 →
  ∀ Z106 : zT, Z106 = u3 Z w 11 a101 x2 →
  ∀ x107 : Int32, x107 = nI a101 →
  ∀ Z108 : zT, Z108 = u3 Z106 w 39 x0 x107 →
  Q Z108))
set_option maxHeartbeats 1000000 in
theorem u_X5_giveInTurn_b0 {Q : sT → Prop} {Q' : zT → Prop} {x0 : Nat} {x1 : Option Nat} {x2 : Int32} {S : sT} {Z : zT} (hSt : cSt P) (hQ : ∀ S Z, CC H E S Z → P S → Q' Z → Q S)  (hw : w < 2) (k_x0 : x0 < E.1) (k_x1 : ∀ k, x1 = some k → k < E.2.1) (hC : CC H E S Z) (hP : P S) (h : v_X5_giveInTurn_b0 E w x0 x1 x2 Z Q') : w_X5_giveInTurn_b0 (H w 4 x0) (Option.map (H w 5) x1) x2 (H w 3 0) S Q := by
  unfold v_X5_giveInTurn_b0 at h
  unfold w_X5_giveInTurn_b0
  refine ⟨fun c => ?_, fun a c => ?_⟩
  · replace h := h.1 (optN c)
    refine ⟨rK_Led hC hw, ?_⟩
    intro x103 ex
    replace h := h x103 (ex.trans (rI_72 hC hw z01))
    intro x104 ex
    replace h := h x104 ex
    intro S105 eS
    obtain ⟨Z105, eZ, h⟩ := vEx h
    replace hC := wI_72 hC hw z01 eS eZ
    replace hP := eS ▸ hSt _ 131 _ _ (by decide) hP
    clear eS eZ
    exact hQ _ _ hC hP h
  · obtain ⟨a101, cz, ea⟩ := optS c
    clear c
    subst ea
    replace h := h.2 a101 cz
    have k_a101 := k_x1 _ cz
    refine ⟨rK_Fld hC hw k_a101, ?_⟩
    intro S106 eS
    obtain ⟨Z106, eZ, h⟩ := vEx h
    replace hC := wI_11 hC hw k_a101 eS eZ
    replace hP := eS ▸ hSt _ 78 _ _ (by decide) hP
    clear eS eZ
    intro x107 ex
    replace h := h x107 (ex.trans (rG_64 hC hw k_a101))
    refine ⟨rK_Soc hC hw k_x0, ?_⟩
    intro S108 eS
    obtain ⟨Z108, eZ, h⟩ := vEx h
    replace hC := wI_39 hC hw k_x0 eS eZ
    replace hP := eS ▸ hSt _ 203 _ _ (by decide) hP
    clear eS eZ
    exact hQ _ _ hC hP h
def v_X5_giveInTurn (E : eT) (w : Nat) (x0 : Nat) (x1 : Option Nat) (x2 : Int32) (Z : zT) (Q : zT → Prop) : Prop :=
  v_X5_giveInTurn_b0 E w x0 x1 x2 Z Q
set_option maxHeartbeats 1000000 in
theorem u_X5_giveInTurn {Q : sT → Prop} {Q' : zT → Prop} {x0 : Nat} {x1 : Option Nat} {x2 : Int32} {S : sT} {Z : zT} (hSt : cSt P) (hQ : ∀ S Z, CC H E S Z → P S → Q' Z → Q S)  (hw : w < 2) (k_x0 : x0 < E.1) (k_x1 : ∀ k, x1 = some k → k < E.2.1) (hC : CC H E S Z) (hP : P S) (h : v_X5_giveInTurn E w x0 x1 x2 Z Q') : w_X5_giveInTurn (H w 4 x0) (Option.map (H w 5) x1) x2 (H w 3 0) S Q := by
  unfold v_X5_giveInTurn at h
  unfold w_X5_giveInTurn
  exact u_X5_giveInTurn_b0 (x0 := x0) (x1 := x1) hSt hQ hw k_x0 k_x1 hC hP h
def v_X5_shareOut_b125 (E : eT) (w : Nat) (Z : zT) (Q : zT → Prop) : Prop :=
  Q Z
set_option maxHeartbeats 1000000 in
theorem u_X5_shareOut_b125 {Q : sT → Prop} {Q' : zT → Prop}  {S : sT} {Z : zT} (hSt : cSt P) (hQ : ∀ S Z, CC H E S Z → P S → Q' Z → Q S)  (hw : w < 2)  (hC : CC H E S Z) (hP : P S) (h : v_X5_shareOut_b125 E w Z Q') : w_X5_shareOut_b125 S Q := by
  unfold v_X5_shareOut_b125 at h
  unfold w_X5_shareOut_b125
  exact hQ _ _ hC hP h
def v_X5_shareOut_b2 (E : eT) (w : Nat)  (Q : zT → Prop) : Nat → Nat → Int32 → Int32 → zT → Prop
  | 0 => fun _ _ _ _ => False
  | n + 1 => fun x0 x1 x3 Z =>
    ∀ x103 : Int32, x103 = nI (ce_mem E x0).length →
    ((x103 ≤ x3 →
    ∀ x105 : Int32, x105 = Z w 41 x0 →
    ∀ x106 : Int32, x106 = Z w 33 x0 →
    ∀ x107 : Int32, x107 = x105 * x106 →
    ∀ x108 : Int32, x108 = x107 / (100 : Int32) →
    ∀ x109 : Int32, x109 = Z w 70 0 →
    ∀ x110 : Int32, x110 = x109 + x108 →
    ∀ Z111 : zT, Z111 = u3 Z w 70 0 x110 →
    ∀ x112 : Int32, x112 = Z111 w 41 x0 →
    ∀ x113 : Int32, x113 = x112 - x108 →
    ∀ x114 : Int32, x114 = Z111 w 37 x0 →
    ∀ x115 : Int32, x115 = x113 + x114 →
    ∀ Z116 : zT, Z116 = u3 Z111 w 37 x0 (0 : Int32) →
    v_X5_isOpenOn E w x0 x1 Z116 (fun x118 Z117 =>
    ((¬ x118 = 0 →
    ∀ x120 : Int32, x120 = Z117 w 38 x0 →
    ((x120 = 0 →
    v_X5_giveByNotch E w x0 x115 Z117 (fun Z122 =>
    v_X5_shareOut_b125 E w Z122 Q)) ∧
    (¬ x120 = 0 →
    v_X5_nextInTurn E w x0 Z117 (fun r124 Z123 =>
    v_X5_giveInTurn E w x0 r124 x115 Z123 (fun Z125 =>
    v_X5_shareOut_b125 E w Z125 Q))))) ∧
    (x118 = 0 →
    ∀ x126 : Int32, x126 = Z117 w 72 0 →
    ∀ x127 : Int32, x127 = x126 + x115 →
    ∀ Z128 : zT, Z128 = u3 Z117 w 72 0 x127 →
    v_X5_shareOut_b125 E w Z128 Q)))) ∧
    (¬ x103 ≤ x3 →
    vp_in x3 (ce_mem E x0).length ∧
    ∀ a131 : Nat, a131 = (ce_mem E x0).getD (Int32.toNatClampNeg x3) 0 →
    ∀ Z132 : zT, Z132 = u3 Z w 11 a131 (0 : Int32) →
    ∀ x133 : Int32, x133 = x3 + 1 →
    v_X5_shareOut_b2 E w Q n x0 x1 x133 Z132))
set_option maxHeartbeats 1000000 in
theorem u_X5_shareOut_b2 {Q : sT → Prop} {Q' : zT → Prop} (hSt : cSt P) (hQ : ∀ S Z, CC H E S Z → P S → Q' Z → Q S)  (hw : w < 2) : ∀ (n : Nat) (x0 : Nat) (x1 : Int32) (x3 : Int32) (S : sT) (Z : zT), (x0 < E.1) → CC H E S Z → P S → v_X5_shareOut_b2 E w  Q' n x0 x1 x3 Z → w_X5_shareOut_b2  Q n (H w 4 x0) x1 (H w 3 0) x3 S := by
  intro n
  induction n with
  | zero => intro x0 x1 x3 S Z k_x0 hC hP h; exact absurd h id
  | succ n ih =>
    intro x0 x1 x3 S Z k_x0 hC hP h
    unfold v_X5_shareOut_b2 at h
    unfold w_X5_shareOut_b2
    refine ⟨rK_Soc hC hw k_x0, ?_⟩
    refine ⟨_, rF_195 hC hw k_x0, ?_⟩
    refine ⟨rK_LM hC hw k_x0, ?_⟩
    refine us_size (rL_LM hC hw k_x0) ?_
    replace h := h _ rfl
    refine ⟨fun c => ?_, fun c => ?_⟩
    · replace h := h.1 c
      refine ⟨rK_Soc hC hw k_x0, ?_⟩
      intro x105 ex
      replace h := h x105 (ex.trans (rI_41 hC hw k_x0))
      intro x106 ex
      replace h := h x106 (ex.trans (rI_33 hC hw k_x0))
      intro x107 ex
      replace h := h x107 ex
      intro x108 ex
      replace h := h x108 ex
      refine ⟨rK_Led hC hw, ?_⟩
      intro x109 ex
      replace h := h x109 (ex.trans (rI_70 hC hw z01))
      intro x110 ex
      replace h := h x110 ex
      intro S111 eS
      obtain ⟨Z111, eZ, h⟩ := vEx h
      replace hC := wI_70 hC hw z01 eS eZ
      replace hP := eS ▸ hSt _ 129 _ _ (by decide) hP
      clear eS eZ
      intro x112 ex
      replace h := h x112 (ex.trans (rI_41 hC hw k_x0))
      intro x113 ex
      replace h := h x113 ex
      intro x114 ex
      replace h := h x114 (ex.trans (rI_37 hC hw k_x0))
      intro x115 ex
      replace h := h x115 ex
      intro S116 eS
      obtain ⟨Z116, eZ, h⟩ := vEx h
      replace hC := wI_37 hC hw k_x0 eS eZ
      replace hP := eS ▸ hSt _ 199 _ _ (by decide) hP
      clear eS eZ
      refine u_X5_isOpenOn (x0 := x0) hSt (fun x118 S117 Z117 hC hP h => ?_) hw k_x0 hC hP h
      refine ⟨fun c => ?_, fun c => ?_⟩
      · replace h := h.1 c
        refine ⟨rK_Soc hC hw k_x0, ?_⟩
        intro x120 ex
        replace h := h x120 (ex.trans (rI_38 hC hw k_x0))
        refine ⟨fun c => ?_, fun c => ?_⟩
        · replace h := h.1 c
          refine u_X5_giveByNotch (x0 := x0) hSt (fun S122 Z122 hC hP h => ?_) hw k_x0 hC hP h
          exact u_X5_shareOut_b125 hSt hQ hw hC hP h
        · replace h := h.2 c
          refine u_X5_nextInTurn (x0 := x0) hSt (fun r124 S123 Z123 k_r124 hC hP h => ?_) hw k_x0 hC hP h
          refine ⟨rK_Soc hC hw k_x0, ?_⟩
          refine u_X5_giveInTurn (x0 := x0) (x1 := r124) hSt (fun S125 Z125 hC hP h => ?_) hw k_x0 k_r124 hC hP h
          exact u_X5_shareOut_b125 hSt hQ hw hC hP h
      · replace h := h.2 c
        refine ⟨rK_Led hC hw, ?_⟩
        intro x126 ex
        replace h := h x126 (ex.trans (rI_72 hC hw z01))
        intro x127 ex
        replace h := h x127 ex
        intro S128 eS
        obtain ⟨Z128, eZ, h⟩ := vEx h
        replace hC := wI_72 hC hw z01 eS eZ
        replace hP := eS ▸ hSt _ 131 _ _ (by decide) hP
        clear eS eZ
        exact u_X5_shareOut_b125 hSt hQ hw hC hP h
    · replace h := h.2 c
      refine ⟨rK_Soc hC hw k_x0, ?_⟩
      refine ⟨_, rF_195 hC hw k_x0, ?_⟩
      refine ⟨rK_LM hC hw k_x0, ?_⟩
      obtain ⟨hi, h⟩ := h
      obtain ⟨a131, ea131, h⟩ := vEx h
      have k_a131 := mem_lt hi ea131
      refine us_get (rL_LM hC hw k_x0) hi (congrArg (H w 5) ea131) ?_
      refine ⟨rK_Fld hC hw k_a131, ?_⟩
      intro S132 eS
      obtain ⟨Z132, eZ, h⟩ := vEx h
      replace hC := wI_11 hC hw k_a131 eS eZ
      replace hP := eS ▸ hSt _ 78 _ _ (by decide) hP
      clear eS eZ
      intro x133 ex
      replace h := h x133 ex
      exact ih x0 x1 x133 _ _ k_x0 hC hP h
def v_X5_shareOut_b0 (E : eT) (w : Nat) (x0 : Nat) (x1 : Int32) (Z : zT) (Q : zT → Prop) : Prop :=
  ∃ n9 : Nat, 
  v_X5_shareOut_b2 E w Q n9 x0 x1 (0 : Int32) Z
set_option maxHeartbeats 1000000 in
theorem u_X5_shareOut_b0 {Q : sT → Prop} {Q' : zT → Prop} {x0 : Nat} {x1 : Int32} {S : sT} {Z : zT} (hSt : cSt P) (hQ : ∀ S Z, CC H E S Z → P S → Q' Z → Q S)  (hw : w < 2) (k_x0 : x0 < E.1) (hC : CC H E S Z) (hP : P S) (h : v_X5_shareOut_b0 E w x0 x1 Z Q') : w_X5_shareOut_b0 (H w 4 x0) x1 (H w 3 0) S Q := by
  unfold v_X5_shareOut_b0 at h
  unfold w_X5_shareOut_b0
  obtain ⟨n9, h⟩ := h
  refine ⟨n9, ?_⟩
  exact u_X5_shareOut_b2 hSt hQ hw n9 x0 x1 (0 : Int32) _ _ k_x0 hC hP h
def v_X5_shareOut (E : eT) (w : Nat) (x0 : Nat) (x1 : Int32) (Z : zT) (Q : zT → Prop) : Prop :=
  v_X5_shareOut_b0 E w x0 x1 Z Q
set_option maxHeartbeats 1000000 in
theorem u_X5_shareOut {Q : sT → Prop} {Q' : zT → Prop} {x0 : Nat} {x1 : Int32} {S : sT} {Z : zT} (hSt : cSt P) (hQ : ∀ S Z, CC H E S Z → P S → Q' Z → Q S)  (hw : w < 2) (k_x0 : x0 < E.1) (hC : CC H E S Z) (hP : P S) (h : v_X5_shareOut E w x0 x1 Z Q') : w_X5_shareOut (H w 4 x0) x1 (H w 3 0) S Q := by
  unfold v_X5_shareOut at h
  unfold w_X5_shareOut
  exact u_X5_shareOut_b0 (x0 := x0) hSt hQ hw k_x0 hC hP h
def v_X5_mostAboveNotch_b131 (E : eT) (w : Nat) (x0 : Nat) (x1 : Int32) (x2 : Int32) (x3 : Option Nat) (x4 : Int32) (x5 : Int32) (Z : zT) (kk74 : Nat → Int32 → Int32 → Option Nat → Int32 → Int32 → zT → Prop) (Q : Option Nat → zT → Prop) : Prop :=
  ∀ x101 : Int32, x101 = x5 + 1 →
  kk74 x0 x1 x2 x3 x4 x101 Z
set_option maxHeartbeats 1000000 in
theorem u_X5_mostAboveNotch_b131 {Q : Option Nat → sT → Prop} {Q' : Option Nat → zT → Prop} {x0 : Nat} {x1 : Int32} {x2 : Int32} {x3 : Option Nat} {x4 : Int32} {x5 : Int32} {S : sT} {Z : zT} (hSt : cSt P) (hQ : ∀ x S Z, (∀ k, x = some k → k < E.2.1) → CC H E S Z → P S → Q' x Z → Q (Option.map (H w 5) x) S) {kk74 : Nat → Int32 → Int32 → Option Nat → Int32 → Int32 → sT → Prop} {kk74' : Nat → Int32 → Int32 → Option Nat → Int32 → Int32 → zT → Prop} (hkk74 : ∀ (x0 : Nat) (x1 : Int32) (x2 : Int32) (x3 : Option Nat) (x4 : Int32) (x5 : Int32) S Z, (x0 < E.1) → (∀ k, x3 = some k → k < E.2.1) → CC H E S Z → P S → kk74' x0 x1 x2 x3 x4 x5 Z → kk74 (H w 4 x0) x1 x2 (Option.map (H w 5) x3) x4 x5 S) (hw : w < 2) (k_x0 : x0 < E.1) (k_x3 : ∀ k, x3 = some k → k < E.2.1) (hC : CC H E S Z) (hP : P S) (h : v_X5_mostAboveNotch_b131 E w x0 x1 x2 x3 x4 x5 Z kk74' Q') : w_X5_mostAboveNotch_b131 (H w 4 x0) x1 x2 (Option.map (H w 5) x3) x4 x5 S kk74 Q := by
  unfold v_X5_mostAboveNotch_b131 at h
  unfold w_X5_mostAboveNotch_b131
  intro x101 ex
  replace h := h x101 ex
  exact hkk74 x0 x1 x2 x3 x4 x101 _ _ k_x0 k_x3 hC hP h
def v_X5_mostAboveNotch_b74 (E : eT) (w : Nat)  (Q : Option Nat → zT → Prop) : Nat → Nat → Int32 → Int32 → Option Nat → Int32 → Int32 → zT → Prop
  | 0 => fun _ _ _ _ _ _ _ => False
  | n + 1 => fun x0 x1 x2 x3 x4 x5 Z =>
    ∀ x103 : Int32, x103 = nI (ce_mem E x0).length →
    ((x103 ≤ x5 →
    Q x3 Z) ∧
    (¬ x103 ≤ x5 →
    vp_in x5 (ce_mem E x0).length ∧
    ∀ a107 : Nat, a107 = (ce_mem E x0).getD (Int32.toNatClampNeg x5) 0 →
    ∀ x108 : Int32, x108 = Z w 11 a107 →
    ∀ x109 : Int32, x109 = Z w 13 a107 →
    ∀ x110 : Int32, x110 = x1 * x109 →
    ¬ x2 = 0 ∧
    ∀ x112 : Int32, x112 = x110 / x2 →
    ∀ x113 : Int32, x113 = x108 - x112 →
    ((x113 ≤ x4 →
    v_X5_mostAboveNotch_b131 E w x0 x1 x2 x3 x4 x5 Z (fun x0 x1 x2 x3 x4 x5 Z => v_X5_mostAboveNotch_b74 E w Q n x0 x1 x2 x3 x4 x5 Z) Q) ∧
    (¬ x113 ≤ x4 →
    v_X5_mostAboveNotch_b131 E w x0 x1 x2 (some a107) x113 x5 Z (fun x0 x1 x2 x3 x4 x5 Z => v_X5_mostAboveNotch_b74 E w Q n x0 x1 x2 x3 x4 x5 Z) Q))))
set_option maxHeartbeats 1000000 in
theorem u_X5_mostAboveNotch_b74 {Q : Option Nat → sT → Prop} {Q' : Option Nat → zT → Prop} (hSt : cSt P) (hQ : ∀ x S Z, (∀ k, x = some k → k < E.2.1) → CC H E S Z → P S → Q' x Z → Q (Option.map (H w 5) x) S)  (hw : w < 2) : ∀ (n : Nat) (x0 : Nat) (x1 : Int32) (x2 : Int32) (x3 : Option Nat) (x4 : Int32) (x5 : Int32) (S : sT) (Z : zT), (x0 < E.1) → (∀ k, x3 = some k → k < E.2.1) → CC H E S Z → P S → v_X5_mostAboveNotch_b74 E w  Q' n x0 x1 x2 x3 x4 x5 Z → w_X5_mostAboveNotch_b74  Q n (H w 4 x0) x1 x2 (Option.map (H w 5) x3) x4 x5 S := by
  intro n
  induction n with
  | zero => intro x0 x1 x2 x3 x4 x5 S Z k_x0 k_x3 hC hP h; exact absurd h id
  | succ n ih =>
    intro x0 x1 x2 x3 x4 x5 S Z k_x0 k_x3 hC hP h
    unfold v_X5_mostAboveNotch_b74 at h
    unfold w_X5_mostAboveNotch_b74
    refine ⟨rK_Soc hC hw k_x0, ?_⟩
    refine ⟨_, rF_195 hC hw k_x0, ?_⟩
    refine ⟨rK_LM hC hw k_x0, ?_⟩
    refine us_size (rL_LM hC hw k_x0) ?_
    replace h := h _ rfl
    refine ⟨fun c => ?_, fun c => ?_⟩
    · replace h := h.1 c
      exact hQ x3 _ _ k_x3 hC hP h
    · replace h := h.2 c
      refine ⟨rK_Soc hC hw k_x0, ?_⟩
      refine ⟨_, rF_195 hC hw k_x0, ?_⟩
      refine ⟨rK_LM hC hw k_x0, ?_⟩
      obtain ⟨hi, h⟩ := h
      obtain ⟨a107, ea107, h⟩ := vEx h
      have k_a107 := mem_lt hi ea107
      refine us_get (rL_LM hC hw k_x0) hi (congrArg (H w 5) ea107) ?_
      refine ⟨rK_Fld hC hw k_a107, ?_⟩
      intro x108 ex
      replace h := h x108 (ex.trans (rI_11 hC hw k_a107))
      intro x109 ex
      replace h := h x109 (ex.trans (rI_13 hC hw k_a107))
      intro x110 ex
      replace h := h x110 ex
      obtain ⟨hn, h⟩ := h
      refine ⟨hn, ?_⟩
      intro x112 ex
      replace h := h x112 ex
      intro x113 ex
      replace h := h x113 ex
      refine ⟨fun c => ?_, fun c => ?_⟩
      · replace h := h.1 c
        exact u_X5_mostAboveNotch_b131 (x0 := x0) (x3 := x3) hSt hQ (fun x0 x1 x2 x3 x4 x5 S Z k_x0 k_x3 hC hP h => ih x0 x1 x2 x3 x4 x5 _ _ k_x0 k_x3 hC hP h) hw k_x0 k_x3 hC hP h
      · replace h := h.2 c
        exact u_X5_mostAboveNotch_b131 (x0 := x0) (x3 := (some a107)) hSt hQ (fun x0 x1 x2 x3 x4 x5 S Z k_x0 k_x3 hC hP h => ih x0 x1 x2 x3 x4 x5 _ _ k_x0 k_x3 hC hP h) hw k_x0 (optK k_a107) hC hP h
def v_X5_mostAboveNotch_b54 (E : eT) (w : Nat) (x0 : Nat) (x1 : Int32) (x2 : Int32) (x3 : Int32) (Z : zT) (kk6 : Nat → Int32 → Int32 → Int32 → zT → Prop) (Q : Option Nat → zT → Prop) : Prop :=
  ∀ x101 : Int32, x101 = x3 + 1 →
  kk6 x0 x1 x2 x101 Z
set_option maxHeartbeats 1000000 in
theorem u_X5_mostAboveNotch_b54 {Q : Option Nat → sT → Prop} {Q' : Option Nat → zT → Prop} {x0 : Nat} {x1 : Int32} {x2 : Int32} {x3 : Int32} {S : sT} {Z : zT} (hSt : cSt P) (hQ : ∀ x S Z, (∀ k, x = some k → k < E.2.1) → CC H E S Z → P S → Q' x Z → Q (Option.map (H w 5) x) S) {kk6 : Nat → Int32 → Int32 → Int32 → sT → Prop} {kk6' : Nat → Int32 → Int32 → Int32 → zT → Prop} (hkk6 : ∀ (x0 : Nat) (x1 : Int32) (x2 : Int32) (x3 : Int32) S Z, (x0 < E.1) → CC H E S Z → P S → kk6' x0 x1 x2 x3 Z → kk6 (H w 4 x0) x1 x2 x3 S) (hw : w < 2) (k_x0 : x0 < E.1) (hC : CC H E S Z) (hP : P S) (h : v_X5_mostAboveNotch_b54 E w x0 x1 x2 x3 Z kk6' Q') : w_X5_mostAboveNotch_b54 (H w 4 x0) x1 x2 x3 S kk6 Q := by
  unfold v_X5_mostAboveNotch_b54 at h
  unfold w_X5_mostAboveNotch_b54
  intro x101 ex
  replace h := h x101 ex
  exact hkk6 x0 x1 x2 x101 _ _ k_x0 hC hP h
def v_X5_mostAboveNotch_b6 (E : eT) (w : Nat)  (Q : Option Nat → zT → Prop) : Nat → Nat → Int32 → Int32 → Int32 → zT → Prop
  | 0 => fun _ _ _ _ _ => False
  | n + 1 => fun x0 x1 x2 x3 Z =>
    ∀ x103 : Int32, x103 = nI (ce_mem E x0).length →
    ((x103 ≤ x3 →
    ((0 < x2 →
    ∃ n9 : Nat, 
    v_X5_mostAboveNotch_b74 E w Q n9 x0 x1 x2 none (0 : Int32) (0 : Int32) Z) ∧
    (¬ 0 < x2 →
    Q none Z))) ∧
    (¬ x103 ≤ x3 →
    vp_in x3 (ce_mem E x0).length ∧
    ∀ a108 : Nat, a108 = (ce_mem E x0).getD (Int32.toNatClampNeg x3) 0 →
    ∀ x109 : Int32, x109 = Z w 11 a108 →
    ((x109 ≤ 0 →
    v_X5_mostAboveNotch_b54 E w x0 x1 x2 x3 Z (fun x0 x1 x2 x3 Z => v_X5_mostAboveNotch_b6 E w Q n x0 x1 x2 x3 Z) Q) ∧
    (¬ x109 ≤ 0 →
    ∀ x111 : Int32, x111 = Z w 11 a108 →
    ∀ x112 : Int32, x112 = x1 + x111 →
    ∀ x113 : Int32, x113 = Z w 13 a108 →
    ∀ x114 : Int32, x114 = x2 + x113 →
    v_X5_mostAboveNotch_b54 E w x0 x112 x114 x3 Z (fun x0 x1 x2 x3 Z => v_X5_mostAboveNotch_b6 E w Q n x0 x1 x2 x3 Z) Q))))
set_option maxHeartbeats 1000000 in
theorem u_X5_mostAboveNotch_b6 {Q : Option Nat → sT → Prop} {Q' : Option Nat → zT → Prop} (hSt : cSt P) (hQ : ∀ x S Z, (∀ k, x = some k → k < E.2.1) → CC H E S Z → P S → Q' x Z → Q (Option.map (H w 5) x) S)  (hw : w < 2) : ∀ (n : Nat) (x0 : Nat) (x1 : Int32) (x2 : Int32) (x3 : Int32) (S : sT) (Z : zT), (x0 < E.1) → CC H E S Z → P S → v_X5_mostAboveNotch_b6 E w  Q' n x0 x1 x2 x3 Z → w_X5_mostAboveNotch_b6  Q n (H w 4 x0) x1 x2 x3 S := by
  intro n
  induction n with
  | zero => intro x0 x1 x2 x3 S Z k_x0 hC hP h; exact absurd h id
  | succ n ih =>
    intro x0 x1 x2 x3 S Z k_x0 hC hP h
    unfold v_X5_mostAboveNotch_b6 at h
    unfold w_X5_mostAboveNotch_b6
    refine ⟨rK_Soc hC hw k_x0, ?_⟩
    refine ⟨_, rF_195 hC hw k_x0, ?_⟩
    refine ⟨rK_LM hC hw k_x0, ?_⟩
    refine us_size (rL_LM hC hw k_x0) ?_
    replace h := h _ rfl
    refine ⟨fun c => ?_, fun c => ?_⟩
    · replace h := h.1 c
      refine ⟨fun c => ?_, fun c => ?_⟩
      · replace h := h.1 c
        obtain ⟨n9, h⟩ := h
        refine ⟨n9, ?_⟩
        exact u_X5_mostAboveNotch_b74 hSt hQ hw n9 x0 x1 x2 none (0 : Int32) (0 : Int32) _ _ k_x0 (fun _ z => absurd z nofun) hC hP h
      · replace h := h.2 c
        exact hQ none _ _ (fun _ z => absurd z nofun) hC hP h
    · replace h := h.2 c
      refine ⟨rK_Soc hC hw k_x0, ?_⟩
      refine ⟨_, rF_195 hC hw k_x0, ?_⟩
      refine ⟨rK_LM hC hw k_x0, ?_⟩
      obtain ⟨hi, h⟩ := h
      obtain ⟨a108, ea108, h⟩ := vEx h
      have k_a108 := mem_lt hi ea108
      refine us_get (rL_LM hC hw k_x0) hi (congrArg (H w 5) ea108) ?_
      refine ⟨rK_Fld hC hw k_a108, ?_⟩
      intro x109 ex
      replace h := h x109 (ex.trans (rI_11 hC hw k_a108))
      refine ⟨fun c => ?_, fun c => ?_⟩
      · replace h := h.1 c
        exact u_X5_mostAboveNotch_b54 (x0 := x0) hSt hQ (fun x0 x1 x2 x3 S Z k_x0 hC hP h => ih x0 x1 x2 x3 _ _ k_x0 hC hP h) hw k_x0 hC hP h
      · replace h := h.2 c
        intro x111 ex
        replace h := h x111 (ex.trans (rI_11 hC hw k_a108))
        intro x112 ex
        replace h := h x112 ex
        intro x113 ex
        replace h := h x113 (ex.trans (rI_13 hC hw k_a108))
        intro x114 ex
        replace h := h x114 ex
        exact u_X5_mostAboveNotch_b54 (x0 := x0) hSt hQ (fun x0 x1 x2 x3 S Z k_x0 hC hP h => ih x0 x1 x2 x3 _ _ k_x0 hC hP h) hw k_x0 hC hP h
def v_X5_mostAboveNotch_b0 (E : eT) (w : Nat) (x0 : Nat) (Z : zT) (Q : Option Nat → zT → Prop) : Prop :=
  ∃ n9 : Nat, 
  v_X5_mostAboveNotch_b6 E w Q n9 x0 (0 : Int32) (0 : Int32) (0 : Int32) Z
set_option maxHeartbeats 1000000 in
theorem u_X5_mostAboveNotch_b0 {Q : Option Nat → sT → Prop} {Q' : Option Nat → zT → Prop} {x0 : Nat} {S : sT} {Z : zT} (hSt : cSt P) (hQ : ∀ x S Z, (∀ k, x = some k → k < E.2.1) → CC H E S Z → P S → Q' x Z → Q (Option.map (H w 5) x) S)  (hw : w < 2) (k_x0 : x0 < E.1) (hC : CC H E S Z) (hP : P S) (h : v_X5_mostAboveNotch_b0 E w x0 Z Q') : w_X5_mostAboveNotch_b0 (H w 4 x0) S Q := by
  unfold v_X5_mostAboveNotch_b0 at h
  unfold w_X5_mostAboveNotch_b0
  obtain ⟨n9, h⟩ := h
  refine ⟨n9, ?_⟩
  exact u_X5_mostAboveNotch_b6 hSt hQ hw n9 x0 (0 : Int32) (0 : Int32) (0 : Int32) _ _ k_x0 hC hP h
def v_X5_mostAboveNotch (E : eT) (w : Nat) (x0 : Nat) (Z : zT) (Q : Option Nat → zT → Prop) : Prop :=
  v_X5_mostAboveNotch_b0 E w x0 Z Q
set_option maxHeartbeats 1000000 in
theorem u_X5_mostAboveNotch {Q : Option Nat → sT → Prop} {Q' : Option Nat → zT → Prop} {x0 : Nat} {S : sT} {Z : zT} (hSt : cSt P) (hQ : ∀ x S Z, (∀ k, x = some k → k < E.2.1) → CC H E S Z → P S → Q' x Z → Q (Option.map (H w 5) x) S)  (hw : w < 2) (k_x0 : x0 < E.1) (hC : CC H E S Z) (hP : P S) (h : v_X5_mostAboveNotch E w x0 Z Q') : w_X5_mostAboveNotch (H w 4 x0) S Q := by
  unfold v_X5_mostAboveNotch at h
  unfold w_X5_mostAboveNotch
  exact u_X5_mostAboveNotch_b0 (x0 := x0) hSt hQ hw k_x0 hC hP h
def v_X5_fineStones_b4 (E : eT) (w : Nat)  (Q : Int32 → zT → Prop) : Nat → Nat → Int32 → Int32 → zT → Prop
  | 0 => fun _ _ _ _ => False
  | n + 1 => fun x0 x1 x2 Z =>
    ∀ x103 : Int32, x103 = nI (ce_mem E x0).length →
    ((x103 ≤ x2 →
    ∀ x105 : Int32, x105 = Z w 36 x0 →
    ∀ x106 : Int32, x106 = x105 + x1 →
    ∀ Z107 : zT, Z107 = u3 Z w 36 x0 x106 →
    Q x1 Z107) ∧
    (¬ x103 ≤ x2 →
    vp_in x2 (ce_mem E x0).length ∧
    ∀ a110 : Nat, a110 = (ce_mem E x0).getD (Int32.toNatClampNeg x2) 0 →
    ∀ x111 : Int32, x111 = Z w 15 a110 →
    ∀ x112 : Int32, x112 = (5 : Int32) * x111 →
    ∀ x114 : Int32, x114 = Z w 17 a110 →
    ∀ x115 : Int32, x115 = x114 - x112 →
    ∀ Z116 : zT, Z116 = u3 Z w 17 a110 x115 →
    ∀ Z117 : zT, Z117 = u3 Z116 w 15 a110 (0 : Int32) →
    ∀ x118 : Int32, x118 = x1 + x112 →
    ∀ x119 : Int32, x119 = x2 + 1 →
    v_X5_fineStones_b4 E w Q n x0 x118 x119 Z117))
set_option maxHeartbeats 1000000 in
theorem u_X5_fineStones_b4 {Q : Int32 → sT → Prop} {Q' : Int32 → zT → Prop} (hSt : cSt P) (hQ : ∀ x S Z, CC H E S Z → P S → Q' x Z → Q x S)  (hw : w < 2) : ∀ (n : Nat) (x0 : Nat) (x1 : Int32) (x2 : Int32) (S : sT) (Z : zT), (x0 < E.1) → CC H E S Z → P S → v_X5_fineStones_b4 E w  Q' n x0 x1 x2 Z → w_X5_fineStones_b4  Q n (H w 4 x0) x1 x2 S := by
  intro n
  induction n with
  | zero => intro x0 x1 x2 S Z k_x0 hC hP h; exact absurd h id
  | succ n ih =>
    intro x0 x1 x2 S Z k_x0 hC hP h
    unfold v_X5_fineStones_b4 at h
    unfold w_X5_fineStones_b4
    refine ⟨rK_Soc hC hw k_x0, ?_⟩
    refine ⟨_, rF_195 hC hw k_x0, ?_⟩
    refine ⟨rK_LM hC hw k_x0, ?_⟩
    refine us_size (rL_LM hC hw k_x0) ?_
    replace h := h _ rfl
    refine ⟨fun c => ?_, fun c => ?_⟩
    · replace h := h.1 c
      refine ⟨rK_Soc hC hw k_x0, ?_⟩
      intro x105 ex
      replace h := h x105 (ex.trans (rI_36 hC hw k_x0))
      intro x106 ex
      replace h := h x106 ex
      intro S107 eS
      obtain ⟨Z107, eZ, h⟩ := vEx h
      replace hC := wI_36 hC hw k_x0 eS eZ
      replace hP := eS ▸ hSt _ 198 _ _ (by decide) hP
      clear eS eZ
      exact hQ _ _ _ hC hP h
    · replace h := h.2 c
      refine ⟨rK_Soc hC hw k_x0, ?_⟩
      refine ⟨_, rF_195 hC hw k_x0, ?_⟩
      refine ⟨rK_LM hC hw k_x0, ?_⟩
      obtain ⟨hi, h⟩ := h
      obtain ⟨a110, ea110, h⟩ := vEx h
      have k_a110 := mem_lt hi ea110
      refine us_get (rL_LM hC hw k_x0) hi (congrArg (H w 5) ea110) ?_
      refine ⟨rK_Fld hC hw k_a110, ?_⟩
      intro x111 ex
      replace h := h x111 (ex.trans (rI_15 hC hw k_a110))
      intro x112 ex
      replace h := h x112 ex
      refine ⟨_, rF_68 hC hw k_a110, ?_⟩
      refine ⟨rK_Own hC hw k_a110, ?_⟩
      intro x114 ex
      replace h := h x114 (ex.trans (rI_17 hC hw k_a110))
      intro x115 ex
      replace h := h x115 ex
      intro S116 eS
      obtain ⟨Z116, eZ, h⟩ := vEx h
      replace hC := wI_17 hC hw k_a110 eS eZ
      replace hP := eS ▸ hSt _ 160 _ _ (by decide) hP
      clear eS eZ
      intro S117 eS
      obtain ⟨Z117, eZ, h⟩ := vEx h
      replace hC := wI_15 hC hw k_a110 eS eZ
      replace hP := eS ▸ hSt _ 71 _ _ (by decide) hP
      clear eS eZ
      intro x118 ex
      replace h := h x118 ex
      intro x119 ex
      replace h := h x119 ex
      exact ih x0 x118 x119 _ _ k_x0 hC hP h
def v_X5_fineStones_b0 (E : eT) (w : Nat) (x0 : Nat) (Z : zT) (Q : Int32 → zT → Prop) : Prop :=
  ∃ n9 : Nat, 
  v_X5_fineStones_b4 E w Q n9 x0 (0 : Int32) (0 : Int32) Z
set_option maxHeartbeats 1000000 in
theorem u_X5_fineStones_b0 {Q : Int32 → sT → Prop} {Q' : Int32 → zT → Prop} {x0 : Nat} {S : sT} {Z : zT} (hSt : cSt P) (hQ : ∀ x S Z, CC H E S Z → P S → Q' x Z → Q x S)  (hw : w < 2) (k_x0 : x0 < E.1) (hC : CC H E S Z) (hP : P S) (h : v_X5_fineStones_b0 E w x0 Z Q') : w_X5_fineStones_b0 (H w 4 x0) S Q := by
  unfold v_X5_fineStones_b0 at h
  unfold w_X5_fineStones_b0
  obtain ⟨n9, h⟩ := h
  refine ⟨n9, ?_⟩
  exact u_X5_fineStones_b4 hSt hQ hw n9 x0 (0 : Int32) (0 : Int32) _ _ k_x0 hC hP h
def v_X5_fineStones (E : eT) (w : Nat) (x0 : Nat) (Z : zT) (Q : Int32 → zT → Prop) : Prop :=
  v_X5_fineStones_b0 E w x0 Z Q
set_option maxHeartbeats 1000000 in
theorem u_X5_fineStones {Q : Int32 → sT → Prop} {Q' : Int32 → zT → Prop} {x0 : Nat} {S : sT} {Z : zT} (hSt : cSt P) (hQ : ∀ x S Z, CC H E S Z → P S → Q' x Z → Q x S)  (hw : w < 2) (k_x0 : x0 < E.1) (hC : CC H E S Z) (hP : P S) (h : v_X5_fineStones E w x0 Z Q') : w_X5_fineStones (H w 4 x0) S Q := by
  unfold v_X5_fineStones at h
  unfold w_X5_fineStones
  exact u_X5_fineStones_b0 (x0 := x0) hSt hQ hw k_x0 hC hP h
def v_X5_cropPerField_b22 (E : eT) (w : Nat) (y0 : Int32) (Z : zT) (Q : Int32 → zT → Prop) : Prop :=
  Q y0 Z
set_option maxHeartbeats 1000000 in
theorem u_X5_cropPerField_b22 {Q : Int32 → sT → Prop} {Q' : Int32 → zT → Prop} {y0 : Int32} {S : sT} {Z : zT} (hSt : cSt P) (hQ : ∀ x S Z, CC H E S Z → P S → Q' x Z → Q x S)  (hw : w < 2)  (hC : CC H E S Z) (hP : P S) (h : v_X5_cropPerField_b22 E w y0 Z Q') : w_X5_cropPerField_b22 y0 S Q := by
  unfold v_X5_cropPerField_b22 at h
  unfold w_X5_cropPerField_b22
  exact hQ _ _ _ hC hP h
def v_X5_cropPerField_b0 (E : eT) (w : Nat) (x0 : Nat) (Z : zT) (Q : Int32 → zT → Prop) : Prop :=
  ∀ x103 : Int32, x103 = nI (ce_mem E x0).length →
  ((¬ x103 = 0 →
  ∀ x105 : Int32, x105 = Z w 40 x0 →
  ¬ x103 = 0 ∧
  ∀ x107 : Int32, x107 = x105 / x103 →
  v_X5_cropPerField_b22 E w x107 Z Q) ∧
  (x103 = 0 →
  v_X5_cropPerField_b22 E w (0 : Int32) Z Q))
set_option maxHeartbeats 1000000 in
theorem u_X5_cropPerField_b0 {Q : Int32 → sT → Prop} {Q' : Int32 → zT → Prop} {x0 : Nat} {S : sT} {Z : zT} (hSt : cSt P) (hQ : ∀ x S Z, CC H E S Z → P S → Q' x Z → Q x S)  (hw : w < 2) (k_x0 : x0 < E.1) (hC : CC H E S Z) (hP : P S) (h : v_X5_cropPerField_b0 E w x0 Z Q') : w_X5_cropPerField_b0 (H w 4 x0) S Q := by
  unfold v_X5_cropPerField_b0 at h
  unfold w_X5_cropPerField_b0
  refine ⟨rK_Soc hC hw k_x0, ?_⟩
  refine ⟨_, rF_195 hC hw k_x0, ?_⟩
  refine ⟨rK_LM hC hw k_x0, ?_⟩
  refine us_size (rL_LM hC hw k_x0) ?_
  replace h := h _ rfl
  refine ⟨fun c => ?_, fun c => ?_⟩
  · replace h := h.1 c
    refine ⟨rK_Soc hC hw k_x0, ?_⟩
    intro x105 ex
    replace h := h x105 (ex.trans (rI_40 hC hw k_x0))
    obtain ⟨hn, h⟩ := h
    refine ⟨hn, ?_⟩
    intro x107 ex
    replace h := h x107 ex
    exact u_X5_cropPerField_b22 hSt hQ hw hC hP h
  · replace h := h.2 c
    exact u_X5_cropPerField_b22 hSt hQ hw hC hP h
def v_X5_cropPerField (E : eT) (w : Nat) (x0 : Nat) (Z : zT) (Q : Int32 → zT → Prop) : Prop :=
  v_X5_cropPerField_b0 E w x0 Z Q
set_option maxHeartbeats 1000000 in
theorem u_X5_cropPerField {Q : Int32 → sT → Prop} {Q' : Int32 → zT → Prop} {x0 : Nat} {S : sT} {Z : zT} (hSt : cSt P) (hQ : ∀ x S Z, CC H E S Z → P S → Q' x Z → Q x S)  (hw : w < 2) (k_x0 : x0 < E.1) (hC : CC H E S Z) (hP : P S) (h : v_X5_cropPerField E w x0 Z Q') : w_X5_cropPerField (H w 4 x0) S Q := by
  unfold v_X5_cropPerField at h
  unfold w_X5_cropPerField
  exact u_X5_cropPerField_b0 (x0 := x0) hSt hQ hw k_x0 hC hP h
def v_X5_countYes_b65 (E : eT) (w : Nat) (x0 : Nat) (x2 : Int32) (x3 : Int32) (x4 : Int32) (Z : zT) (kk26 : Nat → Int32 → Int32 → Int32 → zT → Prop) (Q : Int32 → zT → Prop) : Prop :=
  ∀ x101 : Int32, x101 = x4 + 1 →
  kk26 x0 x2 x3 x101 Z
set_option maxHeartbeats 1000000 in
theorem u_X5_countYes_b65 {Q : Int32 → sT → Prop} {Q' : Int32 → zT → Prop} {x0 : Nat} {x2 : Int32} {x3 : Int32} {x4 : Int32} {S : sT} {Z : zT} (hSt : cSt P) (hQ : ∀ x S Z, CC H E S Z → P S → Q' x Z → Q x S) {kk26 : Nat → Int32 → Int32 → Int32 → sT → Prop} {kk26' : Nat → Int32 → Int32 → Int32 → zT → Prop} (hkk26 : ∀ (x0 : Nat) (x2 : Int32) (x3 : Int32) (x4 : Int32) S Z, (x0 < E.1) → CC H E S Z → P S → kk26' x0 x2 x3 x4 Z → kk26 (H w 4 x0) x2 x3 x4 S) (hw : w < 2) (k_x0 : x0 < E.1) (hC : CC H E S Z) (hP : P S) (h : v_X5_countYes_b65 E w x0 x2 x3 x4 Z kk26' Q') : w_X5_countYes_b65 (H w 4 x0) x2 x3 x4 S kk26 Q := by
  unfold v_X5_countYes_b65 at h
  unfold w_X5_countYes_b65
  intro x101 ex
  replace h := h x101 ex
  exact hkk26 x0 x2 x3 x101 _ _ k_x0 hC hP h
def v_X5_countYes_b62 (E : eT) (w : Nat) (x0 : Nat) (x2 : Int32) (x3 : Int32) (x4 : Int32) (Z : zT) (kk26 : Nat → Int32 → Int32 → Int32 → zT → Prop) (Q : Int32 → zT → Prop) : Prop :=
  ∀ x101 : Int32, x101 = x3 + 1 →
  v_X5_countYes_b65 E w x0 x2 x101 x4 Z kk26 Q
set_option maxHeartbeats 1000000 in
theorem u_X5_countYes_b62 {Q : Int32 → sT → Prop} {Q' : Int32 → zT → Prop} {x0 : Nat} {x2 : Int32} {x3 : Int32} {x4 : Int32} {S : sT} {Z : zT} (hSt : cSt P) (hQ : ∀ x S Z, CC H E S Z → P S → Q' x Z → Q x S) {kk26 : Nat → Int32 → Int32 → Int32 → sT → Prop} {kk26' : Nat → Int32 → Int32 → Int32 → zT → Prop} (hkk26 : ∀ (x0 : Nat) (x2 : Int32) (x3 : Int32) (x4 : Int32) S Z, (x0 < E.1) → CC H E S Z → P S → kk26' x0 x2 x3 x4 Z → kk26 (H w 4 x0) x2 x3 x4 S) (hw : w < 2) (k_x0 : x0 < E.1) (hC : CC H E S Z) (hP : P S) (h : v_X5_countYes_b62 E w x0 x2 x3 x4 Z kk26' Q') : w_X5_countYes_b62 (H w 4 x0) x2 x3 x4 S kk26 Q := by
  unfold v_X5_countYes_b62 at h
  unfold w_X5_countYes_b62
  intro x101 ex
  replace h := h x101 ex
  exact u_X5_countYes_b65 (x0 := x0) hSt hQ hkk26 hw k_x0 hC hP h
def v_X5_countYes_b26 (E : eT) (w : Nat)  (Q : Int32 → zT → Prop) : Nat → Nat → Int32 → Int32 → Int32 → zT → Prop
  | 0 => fun _ _ _ _ _ => False
  | n + 1 => fun x0 x2 x3 x4 Z =>
    ∀ x103 : Int32, x103 = nI (ce_mem E x0).length →
    ((x103 ≤ x4 →
    Q x3 Z) ∧
    (¬ x103 ≤ x4 →
    ((¬ x2 = 0 →
    v_X5_countYes_b62 E w x0 x2 x3 x4 Z (fun x0 x2 x3 x4 Z => v_X5_countYes_b26 E w Q n x0 x2 x3 x4 Z) Q) ∧
    (x2 = 0 →
    vp_in x4 (ce_mem E x0).length ∧
    ∀ a108 : Nat, a108 = (ce_mem E x0).getD (Int32.toNatClampNeg x4) 0 →
    ∀ x109 : Int32, x109 = Z w 8 a108 →
    ((x109 ≤ (30 : Int32) →
    v_X5_countYes_b65 E w x0 x2 x3 x4 Z (fun x0 x2 x3 x4 Z => v_X5_countYes_b26 E w Q n x0 x2 x3 x4 Z) Q) ∧
    (¬ x109 ≤ (30 : Int32) →
    v_X5_countYes_b62 E w x0 x2 x3 x4 Z (fun x0 x2 x3 x4 Z => v_X5_countYes_b26 E w Q n x0 x2 x3 x4 Z) Q))))))
set_option maxHeartbeats 1000000 in
theorem u_X5_countYes_b26 {Q : Int32 → sT → Prop} {Q' : Int32 → zT → Prop} (hSt : cSt P) (hQ : ∀ x S Z, CC H E S Z → P S → Q' x Z → Q x S)  (hw : w < 2) : ∀ (n : Nat) (x0 : Nat) (x2 : Int32) (x3 : Int32) (x4 : Int32) (S : sT) (Z : zT), (x0 < E.1) → CC H E S Z → P S → v_X5_countYes_b26 E w  Q' n x0 x2 x3 x4 Z → w_X5_countYes_b26  Q n (H w 4 x0) x2 x3 x4 S := by
  intro n
  induction n with
  | zero => intro x0 x2 x3 x4 S Z k_x0 hC hP h; exact absurd h id
  | succ n ih =>
    intro x0 x2 x3 x4 S Z k_x0 hC hP h
    unfold v_X5_countYes_b26 at h
    unfold w_X5_countYes_b26
    refine ⟨rK_Soc hC hw k_x0, ?_⟩
    refine ⟨_, rF_195 hC hw k_x0, ?_⟩
    refine ⟨rK_LM hC hw k_x0, ?_⟩
    refine us_size (rL_LM hC hw k_x0) ?_
    replace h := h _ rfl
    refine ⟨fun c => ?_, fun c => ?_⟩
    · replace h := h.1 c
      exact hQ _ _ _ hC hP h
    · replace h := h.2 c
      refine ⟨fun c => ?_, fun c => ?_⟩
      · replace h := h.1 c
        exact u_X5_countYes_b62 (x0 := x0) hSt hQ (fun x0 x2 x3 x4 S Z k_x0 hC hP h => ih x0 x2 x3 x4 _ _ k_x0 hC hP h) hw k_x0 hC hP h
      · replace h := h.2 c
        refine ⟨rK_Soc hC hw k_x0, ?_⟩
        refine ⟨_, rF_195 hC hw k_x0, ?_⟩
        refine ⟨rK_LM hC hw k_x0, ?_⟩
        obtain ⟨hi, h⟩ := h
        obtain ⟨a108, ea108, h⟩ := vEx h
        have k_a108 := mem_lt hi ea108
        refine us_get (rL_LM hC hw k_x0) hi (congrArg (H w 5) ea108) ?_
        refine ⟨rK_Fld hC hw k_a108, ?_⟩
        intro x109 ex
        replace h := h x109 (ex.trans (rI_8 hC hw k_a108))
        refine ⟨fun c => ?_, fun c => ?_⟩
        · replace h := h.1 c
          exact u_X5_countYes_b65 (x0 := x0) hSt hQ (fun x0 x2 x3 x4 S Z k_x0 hC hP h => ih x0 x2 x3 x4 _ _ k_x0 hC hP h) hw k_x0 hC hP h
        · replace h := h.2 c
          exact u_X5_countYes_b62 (x0 := x0) hSt hQ (fun x0 x2 x3 x4 S Z k_x0 hC hP h => ih x0 x2 x3 x4 _ _ k_x0 hC hP h) hw k_x0 hC hP h
def v_X5_countYes_b20 (E : eT) (w : Nat) (x0 : Nat) (y0 : Int32) (Z : zT) (Q : Int32 → zT → Prop) : Prop :=
  ∃ n9 : Nat, 
  v_X5_countYes_b26 E w Q n9 x0 y0 (0 : Int32) (0 : Int32) Z
set_option maxHeartbeats 1000000 in
theorem u_X5_countYes_b20 {Q : Int32 → sT → Prop} {Q' : Int32 → zT → Prop} {x0 : Nat} {y0 : Int32} {S : sT} {Z : zT} (hSt : cSt P) (hQ : ∀ x S Z, CC H E S Z → P S → Q' x Z → Q x S)  (hw : w < 2) (k_x0 : x0 < E.1) (hC : CC H E S Z) (hP : P S) (h : v_X5_countYes_b20 E w x0 y0 Z Q') : w_X5_countYes_b20 (H w 4 x0) y0 S Q := by
  unfold v_X5_countYes_b20 at h
  unfold w_X5_countYes_b20
  obtain ⟨n9, h⟩ := h
  refine ⟨n9, ?_⟩
  exact u_X5_countYes_b26 hSt hQ hw n9 x0 y0 (0 : Int32) (0 : Int32) _ _ k_x0 hC hP h
def v_X5_countYes_b19 (E : eT) (w : Nat) (x0 : Nat) (Z : zT) (Q : Int32 → zT → Prop) : Prop :=
  v_X5_countYes_b20 E w x0 (0 : Int32) Z Q
set_option maxHeartbeats 1000000 in
theorem u_X5_countYes_b19 {Q : Int32 → sT → Prop} {Q' : Int32 → zT → Prop} {x0 : Nat} {S : sT} {Z : zT} (hSt : cSt P) (hQ : ∀ x S Z, CC H E S Z → P S → Q' x Z → Q x S)  (hw : w < 2) (k_x0 : x0 < E.1) (hC : CC H E S Z) (hP : P S) (h : v_X5_countYes_b19 E w x0 Z Q') : w_X5_countYes_b19 (H w 4 x0) S Q := by
  unfold v_X5_countYes_b19 at h
  unfold w_X5_countYes_b19
  exact u_X5_countYes_b20 (x0 := x0) hSt hQ hw k_x0 hC hP h
def v_X5_countYes_b0 (E : eT) (w : Nat) (x0 : Nat) (x1 : Option Nat) (Z : zT) (Q : Int32 → zT → Prop) : Prop :=
  ((x1 = none →
  v_X5_countYes_b19 E w x0 Z Q) ∧
  (∀ a101 : Nat, x1 = some a101 →
  v_X5_cropPerField E w a101 Z (fun x104 Z103 =>
  v_X5_cropPerField E w x0 Z103 (fun x106 Z105 =>
  ((x104 ≤ x106 →
  v_X5_countYes_b19 E w x0 Z105 Q) ∧
  (¬ x104 ≤ x106 →
  v_X5_countYes_b20 E w x0 (1 : Int32) Z105 Q))))))
set_option maxHeartbeats 1000000 in
theorem u_X5_countYes_b0 {Q : Int32 → sT → Prop} {Q' : Int32 → zT → Prop} {x0 : Nat} {x1 : Option Nat} {S : sT} {Z : zT} (hSt : cSt P) (hQ : ∀ x S Z, CC H E S Z → P S → Q' x Z → Q x S)  (hw : w < 2) (k_x0 : x0 < E.1) (k_x1 : ∀ k, x1 = some k → k < E.1) (hC : CC H E S Z) (hP : P S) (h : v_X5_countYes_b0 E w x0 x1 Z Q') : w_X5_countYes_b0 (H w 4 x0) (Option.map (H w 4) x1) S Q := by
  unfold v_X5_countYes_b0 at h
  unfold w_X5_countYes_b0
  refine ⟨fun c => ?_, fun a c => ?_⟩
  · replace h := h.1 (optN c)
    exact u_X5_countYes_b19 (x0 := x0) hSt hQ hw k_x0 hC hP h
  · obtain ⟨a101, cz, ea⟩ := optS c
    clear c
    subst ea
    replace h := h.2 a101 cz
    have k_a101 := k_x1 _ cz
    refine ⟨rK_Soc hC hw k_a101, ?_⟩
    refine u_X5_cropPerField (x0 := a101) hSt (fun x104 S103 Z103 hC hP h => ?_) hw k_a101 hC hP h
    refine ⟨rK_Soc hC hw k_x0, ?_⟩
    refine u_X5_cropPerField (x0 := x0) hSt (fun x106 S105 Z105 hC hP h => ?_) hw k_x0 hC hP h
    refine ⟨fun c => ?_, fun c => ?_⟩
    · replace h := h.1 c
      exact u_X5_countYes_b19 (x0 := x0) hSt hQ hw k_x0 hC hP h
    · replace h := h.2 c
      exact u_X5_countYes_b20 (x0 := x0) hSt hQ hw k_x0 hC hP h
def v_X5_countYes (E : eT) (w : Nat) (x0 : Nat) (x1 : Option Nat) (Z : zT) (Q : Int32 → zT → Prop) : Prop :=
  v_X5_countYes_b0 E w x0 x1 Z Q
set_option maxHeartbeats 1000000 in
theorem u_X5_countYes {Q : Int32 → sT → Prop} {Q' : Int32 → zT → Prop} {x0 : Nat} {x1 : Option Nat} {S : sT} {Z : zT} (hSt : cSt P) (hQ : ∀ x S Z, CC H E S Z → P S → Q' x Z → Q x S)  (hw : w < 2) (k_x0 : x0 < E.1) (k_x1 : ∀ k, x1 = some k → k < E.1) (hC : CC H E S Z) (hP : P S) (h : v_X5_countYes E w x0 x1 Z Q') : w_X5_countYes (H w 4 x0) (Option.map (H w 4) x1) S Q := by
  unfold v_X5_countYes at h
  unfold w_X5_countYes
  exact u_X5_countYes_b0 (x0 := x0) (x1 := x1) hSt hQ hw k_x0 k_x1 hC hP h
def v_X5_plantAll_b59 (E : eT) (w : Nat) (x0 : Nat) (x1 : Int32) (x2 : Int32) (Z : zT) (kk2 : Nat → Int32 → Int32 → zT → Prop) (Q : zT → Prop) : Prop :=
  ∀ x101 : Int32, x101 = x2 + 1 →
  kk2 x0 x1 x101 Z
set_option maxHeartbeats 1000000 in
theorem u_X5_plantAll_b59 {Q : sT → Prop} {Q' : zT → Prop} {x0 : Nat} {x1 : Int32} {x2 : Int32} {S : sT} {Z : zT} (hSt : cSt P) (hQ : ∀ S Z, CC H E S Z → P S → Q' Z → Q S) {kk2 : Nat → Int32 → Int32 → sT → Prop} {kk2' : Nat → Int32 → Int32 → zT → Prop} (hkk2 : ∀ (x0 : Nat) (x1 : Int32) (x2 : Int32) S Z, (x0 < E.1) → CC H E S Z → P S → kk2' x0 x1 x2 Z → kk2 (H w 4 x0) x1 x2 S) (hw : w < 2) (k_x0 : x0 < E.1) (hC : CC H E S Z) (hP : P S) (h : v_X5_plantAll_b59 E w x0 x1 x2 Z kk2' Q') : w_X5_plantAll_b59 (H w 4 x0) x1 x2 S kk2 Q := by
  unfold v_X5_plantAll_b59 at h
  unfold w_X5_plantAll_b59
  intro x101 ex
  replace h := h x101 ex
  exact hkk2 x0 x1 x101 _ _ k_x0 hC hP h
def v_X5_plantAll_b46 (E : eT) (w : Nat) (x0 : Nat) (x1 : Int32) (x2 : Int32) (x3 : Nat) (Z : zT) (kk2 : Nat → Int32 → Int32 → zT → Prop) (Q : zT → Prop) : Prop :=
  v_X0_begin E w x3 x1 Z (fun Z102 =>
  ∀ Z103 : zT, Z103 = u3 Z102 w 2 x3 (0 : Int32) →
  v_X5_plantAll_b59 E w x0 x1 x2 Z103 kk2 Q)
set_option maxHeartbeats 1000000 in
theorem u_X5_plantAll_b46 {Q : sT → Prop} {Q' : zT → Prop} {x0 : Nat} {x1 : Int32} {x2 : Int32} {x3 : Nat} {S : sT} {Z : zT} (hSt : cSt P) (hQ : ∀ S Z, CC H E S Z → P S → Q' Z → Q S) {kk2 : Nat → Int32 → Int32 → sT → Prop} {kk2' : Nat → Int32 → Int32 → zT → Prop} (hkk2 : ∀ (x0 : Nat) (x1 : Int32) (x2 : Int32) S Z, (x0 < E.1) → CC H E S Z → P S → kk2' x0 x1 x2 Z → kk2 (H w 4 x0) x1 x2 S) (hw : w < 2) (k_x0 : x0 < E.1) (k_x3 : x3 < E.2.1) (hC : CC H E S Z) (hP : P S) (h : v_X5_plantAll_b46 E w x0 x1 x2 x3 Z kk2' Q') : w_X5_plantAll_b46 (H w 4 x0) x1 x2 (H w 5 x3) S kk2 Q := by
  unfold v_X5_plantAll_b46 at h
  unfold w_X5_plantAll_b46
  refine ⟨rK_Fld hC hw k_x3, ?_⟩
  refine ⟨_, rF_69 hC hw k_x3, ?_⟩
  refine ⟨rK_Crp hC hw k_x3, ?_⟩
  refine u_X0_begin (x0 := x3) hSt (fun S102 Z102 hC hP h => ?_) hw k_x3 hC hP h
  refine ⟨rK_Fld hC hw k_x3, ?_⟩
  intro S103 eS
  obtain ⟨Z103, eZ, h⟩ := vEx h
  replace hC := wI_2 hC hw k_x3 eS eZ
  replace hP := eS ▸ hSt _ 74 _ _ (by decide) hP
  clear eS eZ
  exact u_X5_plantAll_b59 (x0 := x0) hSt hQ hkk2 hw k_x0 hC hP h
def v_X5_plantAll_b2 (E : eT) (w : Nat)  (Q : zT → Prop) : Nat → Nat → Int32 → Int32 → zT → Prop
  | 0 => fun _ _ _ _ => False
  | n + 1 => fun x0 x1 x2 Z =>
    ∀ x103 : Int32, x103 = nI (ce_mem E x0).length →
    ((x103 ≤ x2 →
    Q Z) ∧
    (¬ x103 ≤ x2 →
    vp_in x2 (ce_mem E x0).length ∧
    ∀ a107 : Nat, a107 = (ce_mem E x0).getD (Int32.toNatClampNeg x2) 0 →
    ∀ x109 : Int32, x109 = Z w 4 a107 →
    ((x109 = 0 →
    v_X5_plantAll_b46 E w x0 x1 x2 a107 Z (fun x0 x1 x2 Z => v_X5_plantAll_b2 E w Q n x0 x1 x2 Z) Q) ∧
    (¬ x109 = 0 →
    ∀ x112 : Int32, x112 = Z w 4 a107 →
    ((¬ x112 = (1 : Int32) →
    v_X5_plantAll_b59 E w x0 x1 x2 Z (fun x0 x1 x2 Z => v_X5_plantAll_b2 E w Q n x0 x1 x2 Z) Q) ∧
    (x112 = (1 : Int32) →
    v_X5_plantAll_b46 E w x0 x1 x2 a107 Z (fun x0 x1 x2 Z => v_X5_plantAll_b2 E w Q n x0 x1 x2 Z) Q))))))
set_option maxHeartbeats 1000000 in
theorem u_X5_plantAll_b2 {Q : sT → Prop} {Q' : zT → Prop} (hSt : cSt P) (hQ : ∀ S Z, CC H E S Z → P S → Q' Z → Q S)  (hw : w < 2) : ∀ (n : Nat) (x0 : Nat) (x1 : Int32) (x2 : Int32) (S : sT) (Z : zT), (x0 < E.1) → CC H E S Z → P S → v_X5_plantAll_b2 E w  Q' n x0 x1 x2 Z → w_X5_plantAll_b2  Q n (H w 4 x0) x1 x2 S := by
  intro n
  induction n with
  | zero => intro x0 x1 x2 S Z k_x0 hC hP h; exact absurd h id
  | succ n ih =>
    intro x0 x1 x2 S Z k_x0 hC hP h
    unfold v_X5_plantAll_b2 at h
    unfold w_X5_plantAll_b2
    refine ⟨rK_Soc hC hw k_x0, ?_⟩
    refine ⟨_, rF_195 hC hw k_x0, ?_⟩
    refine ⟨rK_LM hC hw k_x0, ?_⟩
    refine us_size (rL_LM hC hw k_x0) ?_
    replace h := h _ rfl
    refine ⟨fun c => ?_, fun c => ?_⟩
    · replace h := h.1 c
      exact hQ _ _ hC hP h
    · replace h := h.2 c
      refine ⟨rK_Soc hC hw k_x0, ?_⟩
      refine ⟨_, rF_195 hC hw k_x0, ?_⟩
      refine ⟨rK_LM hC hw k_x0, ?_⟩
      obtain ⟨hi, h⟩ := h
      obtain ⟨a107, ea107, h⟩ := vEx h
      have k_a107 := mem_lt hi ea107
      refine us_get (rL_LM hC hw k_x0) hi (congrArg (H w 5) ea107) ?_
      refine ⟨rK_Fld hC hw k_a107, ?_⟩
      refine ⟨_, rF_69 hC hw k_a107, ?_⟩
      refine ⟨rK_Crp hC hw k_a107, ?_⟩
      intro x109 ex
      replace h := h x109 (ex.trans (rI_4 hC hw k_a107))
      refine ⟨fun c => ?_, fun c => ?_⟩
      · replace h := h.1 c
        exact u_X5_plantAll_b46 (x0 := x0) (x3 := a107) hSt hQ (fun x0 x1 x2 S Z k_x0 hC hP h => ih x0 x1 x2 _ _ k_x0 hC hP h) hw k_x0 k_a107 hC hP h
      · replace h := h.2 c
        refine ⟨_, rF_69 hC hw k_a107, ?_⟩
        refine ⟨rK_Crp hC hw k_a107, ?_⟩
        intro x112 ex
        replace h := h x112 (ex.trans (rI_4 hC hw k_a107))
        refine ⟨fun c => ?_, fun c => ?_⟩
        · replace h := h.1 c
          exact u_X5_plantAll_b59 (x0 := x0) hSt hQ (fun x0 x1 x2 S Z k_x0 hC hP h => ih x0 x1 x2 _ _ k_x0 hC hP h) hw k_x0 hC hP h
        · replace h := h.2 c
          exact u_X5_plantAll_b46 (x0 := x0) (x3 := a107) hSt hQ (fun x0 x1 x2 S Z k_x0 hC hP h => ih x0 x1 x2 _ _ k_x0 hC hP h) hw k_x0 k_a107 hC hP h
def v_X5_plantAll_b0 (E : eT) (w : Nat) (x0 : Nat) (x1 : Int32) (Z : zT) (Q : zT → Prop) : Prop :=
  ∃ n9 : Nat, 
  v_X5_plantAll_b2 E w Q n9 x0 x1 (0 : Int32) Z
set_option maxHeartbeats 1000000 in
theorem u_X5_plantAll_b0 {Q : sT → Prop} {Q' : zT → Prop} {x0 : Nat} {x1 : Int32} {S : sT} {Z : zT} (hSt : cSt P) (hQ : ∀ S Z, CC H E S Z → P S → Q' Z → Q S)  (hw : w < 2) (k_x0 : x0 < E.1) (hC : CC H E S Z) (hP : P S) (h : v_X5_plantAll_b0 E w x0 x1 Z Q') : w_X5_plantAll_b0 (H w 4 x0) x1 S Q := by
  unfold v_X5_plantAll_b0 at h
  unfold w_X5_plantAll_b0
  obtain ⟨n9, h⟩ := h
  refine ⟨n9, ?_⟩
  exact u_X5_plantAll_b2 hSt hQ hw n9 x0 x1 (0 : Int32) _ _ k_x0 hC hP h
def v_X5_plantAll (E : eT) (w : Nat) (x0 : Nat) (x1 : Int32) (Z : zT) (Q : zT → Prop) : Prop :=
  v_X5_plantAll_b0 E w x0 x1 Z Q
set_option maxHeartbeats 1000000 in
theorem u_X5_plantAll {Q : sT → Prop} {Q' : zT → Prop} {x0 : Nat} {x1 : Int32} {S : sT} {Z : zT} (hSt : cSt P) (hQ : ∀ S Z, CC H E S Z → P S → Q' Z → Q S)  (hw : w < 2) (k_x0 : x0 < E.1) (hC : CC H E S Z) (hP : P S) (h : v_X5_plantAll E w x0 x1 Z Q') : w_X5_plantAll (H w 4 x0) x1 S Q := by
  unfold v_X5_plantAll at h
  unfold w_X5_plantAll
  exact u_X5_plantAll_b0 (x0 := x0) hSt hQ hw k_x0 hC hP h
def v_X5_copyFrom_b0 (E : eT) (x0 : Nat) (x1 : Nat) (Z : zT) (Q : zT → Prop) : Prop :=
  ∀ x101 : Int32, x101 = Z 0 34 x1 →
  ∀ Z102 : zT, Z102 = u3 Z 1 34 x0 x101 →
  ∀ x103 : Int32, x103 = Z102 0 35 x1 →
  ∀ Z104 : zT, Z104 = u3 Z102 1 35 x0 x103 →
  ∀ x105 : Int32, x105 = Z104 0 37 x1 →
  ∀ Z106 : zT, Z106 = u3 Z104 1 37 x0 x105 →
  ∀ x107 : Int32, x107 = Z106 0 38 x1 →
  (x107 = 0 ∨ x107 = 1) ∧
  ∀ Z109 : zT, Z109 = u3 Z106 1 38 x0 x107 →
  ∀ x110 : Int32, x110 = Z109 0 39 x1 →
  ∀ Z111 : zT, Z111 = u3 Z109 1 39 x0 x110 →
  Q Z111
set_option maxHeartbeats 1000000 in
theorem u_X5_copyFrom_b0 {Q : sT → Prop} {Q' : zT → Prop} {x0 : Nat} {x1 : Nat} {S : sT} {Z : zT} (hSt : cSt P) (hQ : ∀ S Z, CC H E S Z → P S → Q' Z → Q S)  (k_x0 : x0 < E.1) (k_x1 : x1 < E.1) (hC : CC H E S Z) (hP : P S) (h : v_X5_copyFrom_b0 E x0 x1 Z Q') : w_X5_copyFrom_b0 (H 1 4 x0) (H 0 4 x1) S Q := by
  unfold v_X5_copyFrom_b0 at h
  unfold w_X5_copyFrom_b0
  refine ⟨rK_Soc hC z02 k_x1, ?_⟩
  intro x101 ex
  replace h := h x101 (ex.trans (rI_34 hC z02 k_x1))
  refine ⟨rK_Soc hC z12 k_x0, ?_⟩
  intro S102 eS
  obtain ⟨Z102, eZ, h⟩ := vEx h
  replace hC := wI_34 hC z12 k_x0 eS eZ
  replace hP := eS ▸ hSt _ 196 _ _ (by decide) hP
  clear eS eZ
  intro x103 ex
  replace h := h x103 (ex.trans (rI_35 hC z02 k_x1))
  intro S104 eS
  obtain ⟨Z104, eZ, h⟩ := vEx h
  replace hC := wI_35 hC z12 k_x0 eS eZ
  replace hP := eS ▸ hSt _ 197 _ _ (by decide) hP
  clear eS eZ
  intro x105 ex
  replace h := h x105 (ex.trans (rI_37 hC z02 k_x1))
  intro S106 eS
  obtain ⟨Z106, eZ, h⟩ := vEx h
  replace hC := wI_37 hC z12 k_x0 eS eZ
  replace hP := eS ▸ hSt _ 199 _ _ (by decide) hP
  clear eS eZ
  intro x107 ex
  replace h := h x107 (ex.trans (rI_38 hC z02 k_x1))
  obtain ⟨hn, h⟩ := h
  refine ⟨hn, ?_⟩
  intro S109 eS
  obtain ⟨Z109, eZ, h⟩ := vEx h
  replace hC := wI_38 hC z12 k_x0 eS eZ
  replace hP := eS ▸ hSt _ 202 _ _ (by decide) hP
  clear eS eZ
  intro x110 ex
  replace h := h x110 (ex.trans (rI_39 hC z02 k_x1))
  intro S111 eS
  obtain ⟨Z111, eZ, h⟩ := vEx h
  replace hC := wI_39 hC z12 k_x0 eS eZ
  replace hP := eS ▸ hSt _ 203 _ _ (by decide) hP
  clear eS eZ
  exact hQ _ _ hC hP h
def v_X5_copyFrom (E : eT) (x0 : Nat) (x1 : Nat) (Z : zT) (Q : zT → Prop) : Prop :=
  v_X5_copyFrom_b0 E x0 x1 Z Q
set_option maxHeartbeats 1000000 in
theorem u_X5_copyFrom {Q : sT → Prop} {Q' : zT → Prop} {x0 : Nat} {x1 : Nat} {S : sT} {Z : zT} (hSt : cSt P) (hQ : ∀ S Z, CC H E S Z → P S → Q' Z → Q S)  (k_x0 : x0 < E.1) (k_x1 : x1 < E.1) (hC : CC H E S Z) (hP : P S) (h : v_X5_copyFrom E x0 x1 Z Q') : w_X5_copyFrom (H 1 4 x0) (H 0 4 x1) S Q := by
  unfold v_X5_copyFrom at h
  unfold w_X5_copyFrom
  exact u_X5_copyFrom_b0 (x0 := x0) (x1 := x1) hSt hQ k_x0 k_x1 hC hP h
def v_X2_templeDay_b0 (E : eT) (w : Nat) (Z : zT) (Q : Int32 → zT → Prop) : Prop :=
  ∀ x101 : Int32, x101 = Z w 64 0 →
  v_J9_floorMod_7cf53 E x101 (210 : Int32) Z (fun x103 Z102 =>
  Q x103 Z102)
set_option maxHeartbeats 1000000 in
theorem u_X2_templeDay_b0 {Q : Int32 → sT → Prop} {Q' : Int32 → zT → Prop}  {S : sT} {Z : zT} (hSt : cSt P) (hQ : ∀ x S Z, CC H E S Z → P S → Q' x Z → Q x S)  (hw : w < 2)  (hC : CC H E S Z) (hP : P S) (h : v_X2_templeDay_b0 E w Z Q') : w_X2_templeDay_b0 (H w 0 0) S Q := by
  unfold v_X2_templeDay_b0 at h
  unfold w_X2_templeDay_b0
  refine ⟨rK_Hill hC hw, ?_⟩
  intro x101 ex
  replace h := h x101 (ex.trans (rI_64 hC hw z01))
  refine u_J9_floorMod_7cf53 hSt (fun x103 S102 Z102 hC hP h => ?_) hC hP h
  exact hQ _ _ _ hC hP h
def v_X2_templeDay (E : eT) (w : Nat) (Z : zT) (Q : Int32 → zT → Prop) : Prop :=
  v_X2_templeDay_b0 E w Z Q
set_option maxHeartbeats 1000000 in
theorem u_X2_templeDay {Q : Int32 → sT → Prop} {Q' : Int32 → zT → Prop}  {S : sT} {Z : zT} (hSt : cSt P) (hQ : ∀ x S Z, CC H E S Z → P S → Q' x Z → Q x S)  (hw : w < 2)  (hC : CC H E S Z) (hP : P S) (h : v_X2_templeDay E w Z Q') : w_X2_templeDay (H w 0 0) S Q := by
  unfold v_X2_templeDay at h
  unfold w_X2_templeDay
  exact u_X2_templeDay_b0 hSt hQ hw hC hP h
def v_X2_isDark_b15 (E : eT) (w : Nat) (y0 : Int32) (Z : zT) (Q : Int32 → zT → Prop) : Prop :=
  (y0 = 0 ∨ y0 = 1) ∧
  Q y0 Z
set_option maxHeartbeats 1000000 in
theorem u_X2_isDark_b15 {Q : Int32 → sT → Prop} {Q' : Int32 → zT → Prop} {y0 : Int32} {S : sT} {Z : zT} (hSt : cSt P) (hQ : ∀ x S Z, CC H E S Z → P S → Q' x Z → Q x S)  (hw : w < 2)  (hC : CC H E S Z) (hP : P S) (h : v_X2_isDark_b15 E w y0 Z Q') : w_X2_isDark_b15 y0 S Q := by
  unfold v_X2_isDark_b15 at h
  unfold w_X2_isDark_b15
  obtain ⟨hn, h⟩ := h
  refine ⟨hn, ?_⟩
  exact hQ _ _ _ hC hP h
def v_X2_isDark_b0 (E : eT) (w : Nat) (Z : zT) (Q : Int32 → zT → Prop) : Prop :=
  ∀ x101 : Int32, x101 = Z w 64 0 →
  ∀ x102 : Int32, x102 = x101 - x101 / (30 : Int32) * (30 : Int32) →
  ((¬ x102 = 0 →
  v_X2_isDark_b15 E w (0 : Int32) Z Q) ∧
  (x102 = 0 →
  v_X2_isDark_b15 E w (1 : Int32) Z Q))
set_option maxHeartbeats 1000000 in
theorem u_X2_isDark_b0 {Q : Int32 → sT → Prop} {Q' : Int32 → zT → Prop}  {S : sT} {Z : zT} (hSt : cSt P) (hQ : ∀ x S Z, CC H E S Z → P S → Q' x Z → Q x S)  (hw : w < 2)  (hC : CC H E S Z) (hP : P S) (h : v_X2_isDark_b0 E w Z Q') : w_X2_isDark_b0 (H w 0 0) S Q := by
  unfold v_X2_isDark_b0 at h
  unfold w_X2_isDark_b0
  refine ⟨rK_Hill hC hw, ?_⟩
  intro x101 ex
  replace h := h x101 (ex.trans (rI_64 hC hw z01))
  intro x102 ex
  replace h := h x102 ex
  refine ⟨fun c => ?_, fun c => ?_⟩
  · replace h := h.1 c
    exact u_X2_isDark_b15 hSt hQ hw hC hP h
  · replace h := h.2 c
    exact u_X2_isDark_b15 hSt hQ hw hC hP h
def v_X2_isDark (E : eT) (w : Nat) (Z : zT) (Q : Int32 → zT → Prop) : Prop :=
  v_X2_isDark_b0 E w Z Q
set_option maxHeartbeats 1000000 in
theorem u_X2_isDark {Q : Int32 → sT → Prop} {Q' : Int32 → zT → Prop}  {S : sT} {Z : zT} (hSt : cSt P) (hQ : ∀ x S Z, CC H E S Z → P S → Q' x Z → Q x S)  (hw : w < 2)  (hC : CC H E S Z) (hP : P S) (h : v_X2_isDark E w Z Q') : w_X2_isDark (H w 0 0) S Q := by
  unfold v_X2_isDark at h
  unfold w_X2_isDark
  exact u_X2_isDark_b0 hSt hQ hw hC hP h
def v_X2_nearestOnTheStalk_b34 (E : eT) (w : Nat) (Z : zT) (Q : Option Nat → zT → Prop) : Prop :=
  Q none Z
set_option maxHeartbeats 1000000 in
theorem u_X2_nearestOnTheStalk_b34 {Q : Option Nat → sT → Prop} {Q' : Option Nat → zT → Prop}  {S : sT} {Z : zT} (hSt : cSt P) (hQ : ∀ x S Z, (∀ k, x = some k → k < E.2.1) → CC H E S Z → P S → Q' x Z → Q (Option.map (H w 5) x) S)  (hw : w < 2)  (hC : CC H E S Z) (hP : P S) (h : v_X2_nearestOnTheStalk_b34 E w Z Q') : w_X2_nearestOnTheStalk_b34 S Q := by
  unfold v_X2_nearestOnTheStalk_b34 at h
  unfold w_X2_nearestOnTheStalk_b34
  exact hQ none _ _ (fun _ z => absurd z nofun) hC hP h
def v_X2_nearestOnTheStalk_b7 (E : eT) (w : Nat)  (Q : Option Nat → zT → Prop) : Nat → Int32 → Int32 → Int32 → zT → Prop
  | 0 => fun _ _ _ _ => False
  | n + 1 => fun x2 x3 x4 Z =>
    ∀ x103 : Int32, x103 = nI E.2.1 →
    ((x103 ≤ x4 →
    Q none Z) ∧
    (¬ x103 ≤ x4 →
    ((x3 < 0 →
    v_X2_nearestOnTheStalk_b34 E w Z Q) ∧
    (¬ x3 < 0 →
    ∀ x108 : Int32, x108 = nI E.2.1 →
    ((x3 < x108 →
    vp_in x3 E.2.1 ∧
    ∀ a112 : Nat, a112 = Int32.toNatClampNeg x3 →
    ∀ x114 : Int32, x114 = Z w 4 a112 →
    v_X6_isOnTheStalk E x114 Z (fun x116 Z115 =>
    ((x116 = 0 →
    ∀ x118 : Int32, x118 = x3 + x2 →
    ∀ x119 : Int32, x119 = x4 + 1 →
    v_X2_nearestOnTheStalk_b7 E w Q n x2 x118 x119 Z115) ∧
    (¬ x116 = 0 →
    Q (some a112) Z115)))) ∧
    (¬ x3 < x108 →
    v_X2_nearestOnTheStalk_b34 E w Z Q))))))
set_option maxHeartbeats 1000000 in
theorem u_X2_nearestOnTheStalk_b7 {Q : Option Nat → sT → Prop} {Q' : Option Nat → zT → Prop} (hSt : cSt P) (hQ : ∀ x S Z, (∀ k, x = some k → k < E.2.1) → CC H E S Z → P S → Q' x Z → Q (Option.map (H w 5) x) S)  (hw : w < 2) : ∀ (n : Nat) (x2 : Int32) (x3 : Int32) (x4 : Int32) (S : sT) (Z : zT), CC H E S Z → P S → v_X2_nearestOnTheStalk_b7 E w  Q' n x2 x3 x4 Z → w_X2_nearestOnTheStalk_b7  Q n (H w 0 0) x2 x3 x4 S := by
  intro n
  induction n with
  | zero => intro x2 x3 x4 S Z  hC hP h; exact absurd h id
  | succ n ih =>
    intro x2 x3 x4 S Z  hC hP h
    unfold v_X2_nearestOnTheStalk_b7 at h
    unfold w_X2_nearestOnTheStalk_b7
    refine ⟨rK_Hill hC hw, ?_⟩
    refine ⟨_, rF_97 hC hw, ?_⟩
    refine ⟨rK_LF hC hw, ?_⟩
    refine us_size (rL_LF hC hw) ?_
    replace h := h _ rfl
    refine ⟨fun c => ?_, fun c => ?_⟩
    · replace h := h.1 c
      exact hQ none _ _ (fun _ z => absurd z nofun) hC hP h
    · replace h := h.2 c
      refine ⟨fun c => ?_, fun c => ?_⟩
      · replace h := h.1 c
        exact u_X2_nearestOnTheStalk_b34 hSt hQ hw hC hP h
      · replace h := h.2 c
        refine ⟨rK_Hill hC hw, ?_⟩
        refine ⟨_, rF_97 hC hw, ?_⟩
        refine ⟨rK_LF hC hw, ?_⟩
        refine us_size (rL_LF hC hw) ?_
        replace h := h _ rfl
        refine ⟨fun c => ?_, fun c => ?_⟩
        · replace h := h.1 c
          refine ⟨rK_Hill hC hw, ?_⟩
          refine ⟨_, rF_97 hC hw, ?_⟩
          refine ⟨rK_LF hC hw, ?_⟩
          obtain ⟨hi, h⟩ := h
          obtain ⟨a112, ea112, h⟩ := vEx h
          have k_a112 := vp_lk hi ea112
          refine us_get (rL_LF hC hw) hi (congrArg (H w 5) ea112) ?_
          refine ⟨rK_Fld hC hw k_a112, ?_⟩
          refine ⟨_, rF_69 hC hw k_a112, ?_⟩
          refine ⟨rK_Crp hC hw k_a112, ?_⟩
          intro x114 ex
          replace h := h x114 (ex.trans (rI_4 hC hw k_a112))
          refine u_X6_isOnTheStalk hSt (fun x116 S115 Z115 hC hP h => ?_) hC hP h
          refine ⟨fun c => ?_, fun c => ?_⟩
          · replace h := h.1 c
            intro x118 ex
            replace h := h x118 ex
            intro x119 ex
            replace h := h x119 ex
            exact ih x2 x118 x119 _ _ hC hP h
          · replace h := h.2 c
            exact hQ (some a112) _ _ (optK k_a112) hC hP h
        · replace h := h.2 c
          exact u_X2_nearestOnTheStalk_b34 hSt hQ hw hC hP h
def v_X2_nearestOnTheStalk_b0 (E : eT) (w : Nat) (x1 : Int32) (x2 : Int32) (Z : zT) (Q : Option Nat → zT → Prop) : Prop :=
  ∀ x101 : Int32, x101 = x1 + x2 →
  ∃ n9 : Nat, 
  v_X2_nearestOnTheStalk_b7 E w Q n9 x2 x101 (0 : Int32) Z
set_option maxHeartbeats 1000000 in
theorem u_X2_nearestOnTheStalk_b0 {Q : Option Nat → sT → Prop} {Q' : Option Nat → zT → Prop} {x1 : Int32} {x2 : Int32} {S : sT} {Z : zT} (hSt : cSt P) (hQ : ∀ x S Z, (∀ k, x = some k → k < E.2.1) → CC H E S Z → P S → Q' x Z → Q (Option.map (H w 5) x) S)  (hw : w < 2)  (hC : CC H E S Z) (hP : P S) (h : v_X2_nearestOnTheStalk_b0 E w x1 x2 Z Q') : w_X2_nearestOnTheStalk_b0 (H w 0 0) x1 x2 S Q := by
  unfold v_X2_nearestOnTheStalk_b0 at h
  unfold w_X2_nearestOnTheStalk_b0
  intro x101 ex
  replace h := h x101 ex
  obtain ⟨n9, h⟩ := h
  refine ⟨n9, ?_⟩
  exact u_X2_nearestOnTheStalk_b7 hSt hQ hw n9 x2 x101 (0 : Int32) _ _ hC hP h
def v_X2_nearestOnTheStalk (E : eT) (w : Nat) (x1 : Int32) (x2 : Int32) (Z : zT) (Q : Option Nat → zT → Prop) : Prop :=
  v_X2_nearestOnTheStalk_b0 E w x1 x2 Z Q
set_option maxHeartbeats 1000000 in
theorem u_X2_nearestOnTheStalk {Q : Option Nat → sT → Prop} {Q' : Option Nat → zT → Prop} {x1 : Int32} {x2 : Int32} {S : sT} {Z : zT} (hSt : cSt P) (hQ : ∀ x S Z, (∀ k, x = some k → k < E.2.1) → CC H E S Z → P S → Q' x Z → Q (Option.map (H w 5) x) S)  (hw : w < 2)  (hC : CC H E S Z) (hP : P S) (h : v_X2_nearestOnTheStalk E w x1 x2 Z Q') : w_X2_nearestOnTheStalk (H w 0 0) x1 x2 S Q := by
  unfold v_X2_nearestOnTheStalk at h
  unfold w_X2_nearestOnTheStalk
  exact u_X2_nearestOnTheStalk_b0 hSt hQ hw hC hP h
def v_X2_flyFrom_b0 (E : eT) (w : Nat) (x1 : Nat) (x2 : Option Nat) (Z : zT) (Q : zT → Prop) : Prop :=
  ((x2 = none →
  Q Z) ∧
  (∀ a101 : Nat, x2 = some a101 →
  ∀ x103 : Int32, x103 = Z w 8 x1 →
  ∀ x104 : Int32, x104 = x103 / (5 : Int32) →
  ∀ x105 : Int32, x105 = Z w 23 x1 →
  ∀ x106 : Int32, x106 = x105 - x104 →
  ∀ Z107 : zT, Z107 = u3 Z w 23 x1 x106 →
  ∀ x108 : Int32, x108 = Z107 w 23 a101 →
  ∀ x109 : Int32, x109 = x108 + x104 →
  ∀ Z110 : zT, Z110 = u3 Z107 w 23 a101 x109 →
  Q Z110))
set_option maxHeartbeats 1000000 in
theorem u_X2_flyFrom_b0 {Q : sT → Prop} {Q' : zT → Prop} {x1 : Nat} {x2 : Option Nat} {S : sT} {Z : zT} (hSt : cSt P) (hQ : ∀ S Z, CC H E S Z → P S → Q' Z → Q S)  (hw : w < 2) (k_x1 : x1 < E.2.1) (k_x2 : ∀ k, x2 = some k → k < E.2.1) (hC : CC H E S Z) (hP : P S) (h : v_X2_flyFrom_b0 E w x1 x2 Z Q') : w_X2_flyFrom_b0 (H w 5 x1) (Option.map (H w 5) x2) S Q := by
  unfold v_X2_flyFrom_b0 at h
  unfold w_X2_flyFrom_b0
  refine ⟨fun c => ?_, fun a c => ?_⟩
  · replace h := h.1 (optN c)
    exact hQ _ _ hC hP h
  · obtain ⟨a101, cz, ea⟩ := optS c
    clear c
    subst ea
    replace h := h.2 a101 cz
    have k_a101 := k_x2 _ cz
    refine ⟨rK_Fld hC hw k_x1, ?_⟩
    intro x103 ex
    replace h := h x103 (ex.trans (rI_8 hC hw k_x1))
    intro x104 ex
    replace h := h x104 ex
    intro x105 ex
    replace h := h x105 (ex.trans (rI_23 hC hw k_x1))
    intro x106 ex
    replace h := h x106 ex
    intro S107 eS
    obtain ⟨Z107, eZ, h⟩ := vEx h
    replace hC := wI_23 hC hw k_x1 eS eZ
    replace hP := eS ▸ hSt _ 80 _ _ (by decide) hP
    clear eS eZ
    refine ⟨rK_Fld hC hw k_a101, ?_⟩
    intro x108 ex
    replace h := h x108 (ex.trans (rI_23 hC hw k_a101))
    intro x109 ex
    replace h := h x109 ex
    intro S110 eS
    obtain ⟨Z110, eZ, h⟩ := vEx h
    replace hC := wI_23 hC hw k_a101 eS eZ
    replace hP := eS ▸ hSt _ 80 _ _ (by decide) hP
    clear eS eZ
    exact hQ _ _ hC hP h
def v_X2_flyFrom (E : eT) (w : Nat) (x1 : Nat) (x2 : Option Nat) (Z : zT) (Q : zT → Prop) : Prop :=
  v_X2_flyFrom_b0 E w x1 x2 Z Q
set_option maxHeartbeats 1000000 in
theorem u_X2_flyFrom {Q : sT → Prop} {Q' : zT → Prop} {x1 : Nat} {x2 : Option Nat} {S : sT} {Z : zT} (hSt : cSt P) (hQ : ∀ S Z, CC H E S Z → P S → Q' Z → Q S)  (hw : w < 2) (k_x1 : x1 < E.2.1) (k_x2 : ∀ k, x2 = some k → k < E.2.1) (hC : CC H E S Z) (hP : P S) (h : v_X2_flyFrom E w x1 x2 Z Q') : w_X2_flyFrom (H w 0 0) (H w 5 x1) (Option.map (H w 5) x2) S Q := by
  unfold v_X2_flyFrom at h
  unfold w_X2_flyFrom
  exact u_X2_flyFrom_b0 (x1 := x1) (x2 := x2) hSt hQ hw k_x1 k_x2 hC hP h
def v_X2_flyPests_b64 (E : eT) (w : Nat)  (Q : zT → Prop) : Nat → Int32 → zT → Prop
  | 0 => fun _ _ => False
  | n + 1 => fun x1 Z =>
    ∀ x103 : Int32, x103 = nI E.2.1 →
    ((x103 ≤ x1 →
    Q Z) ∧
    (¬ x103 ≤ x1 →
    vp_in x1 E.2.1 ∧
    ∀ a107 : Nat, a107 = Int32.toNatClampNeg x1 →
    v_X1_settlePests E w a107 Z (fun Z108 =>
    ∀ x109 : Int32, x109 = x1 + 1 →
    v_X2_flyPests_b64 E w Q n x109 Z108)))
set_option maxHeartbeats 1000000 in
theorem u_X2_flyPests_b64 {Q : sT → Prop} {Q' : zT → Prop} (hSt : cSt P) (hQ : ∀ S Z, CC H E S Z → P S → Q' Z → Q S)  (hw : w < 2) : ∀ (n : Nat) (x1 : Int32) (S : sT) (Z : zT), CC H E S Z → P S → v_X2_flyPests_b64 E w  Q' n x1 Z → w_X2_flyPests_b64  Q n (H w 0 0) x1 S := by
  intro n
  induction n with
  | zero => intro x1 S Z  hC hP h; exact absurd h id
  | succ n ih =>
    intro x1 S Z  hC hP h
    unfold v_X2_flyPests_b64 at h
    unfold w_X2_flyPests_b64
    refine ⟨rK_Hill hC hw, ?_⟩
    refine ⟨_, rF_97 hC hw, ?_⟩
    refine ⟨rK_LF hC hw, ?_⟩
    refine us_size (rL_LF hC hw) ?_
    replace h := h _ rfl
    refine ⟨fun c => ?_, fun c => ?_⟩
    · replace h := h.1 c
      exact hQ _ _ hC hP h
    · replace h := h.2 c
      refine ⟨rK_Hill hC hw, ?_⟩
      refine ⟨_, rF_97 hC hw, ?_⟩
      refine ⟨rK_LF hC hw, ?_⟩
      obtain ⟨hi, h⟩ := h
      obtain ⟨a107, ea107, h⟩ := vEx h
      have k_a107 := vp_lk hi ea107
      refine us_get (rL_LF hC hw) hi (congrArg (H w 5) ea107) ?_
      refine ⟨rK_Fld hC hw k_a107, ?_⟩
      refine u_X1_settlePests (x0 := a107) hSt (fun S108 Z108 hC hP h => ?_) hw k_a107 hC hP h
      intro x109 ex
      replace h := h x109 ex
      exact ih x109 _ _ hC hP h
def v_X2_flyPests_b56 (E : eT) (w : Nat) (x1 : Int32) (Z : zT) (kk2 : Int32 → zT → Prop) (Q : zT → Prop) : Prop :=
  ∀ x101 : Int32, x101 = x1 + 1 →
  kk2 x101 Z
set_option maxHeartbeats 1000000 in
theorem u_X2_flyPests_b56 {Q : sT → Prop} {Q' : zT → Prop} {x1 : Int32} {S : sT} {Z : zT} (hSt : cSt P) (hQ : ∀ S Z, CC H E S Z → P S → Q' Z → Q S) {kk2 : Nat → Int32 → sT → Prop} {kk2' : Int32 → zT → Prop} (hkk2 : ∀ (x1 : Int32) S Z, CC H E S Z → P S → kk2' x1 Z → kk2 (H w 0 0) x1 S) (hw : w < 2)  (hC : CC H E S Z) (hP : P S) (h : v_X2_flyPests_b56 E w x1 Z kk2' Q') : w_X2_flyPests_b56 (H w 0 0) x1 S kk2 Q := by
  unfold v_X2_flyPests_b56 at h
  unfold w_X2_flyPests_b56
  intro x101 ex
  replace h := h x101 ex
  exact hkk2 x101 _ _  hC hP h
def v_X2_flyPests_b2 (E : eT) (w : Nat)  (Q : zT → Prop) : Nat → Int32 → zT → Prop
  | 0 => fun _ _ => False
  | n + 1 => fun x1 Z =>
    ∀ x103 : Int32, x103 = nI E.2.1 →
    ((x103 ≤ x1 →
    ∃ n9 : Nat, 
    v_X2_flyPests_b64 E w Q n9 (0 : Int32) Z) ∧
    (¬ x103 ≤ x1 →
    vp_in x1 E.2.1 ∧
    ∀ a107 : Nat, a107 = Int32.toNatClampNeg x1 →
    ∀ x108 : Int32, x108 = Z w 8 a107 →
    ((x108 ≤ (20 : Int32) →
    v_X2_flyPests_b56 E w x1 Z (fun x1 Z => v_X2_flyPests_b2 E w Q n x1 Z) Q) ∧
    (¬ x108 ≤ (20 : Int32) →
    v_X2_nearestOnTheStalk E w x1 (-1 : Int32) Z (fun r111 Z110 =>
    v_X2_flyFrom E w a107 r111 Z110 (fun Z112 =>
    v_X2_nearestOnTheStalk E w x1 (1 : Int32) Z112 (fun r114 Z113 =>
    v_X2_flyFrom E w a107 r114 Z113 (fun Z115 =>
    v_X2_flyPests_b56 E w x1 Z115 (fun x1 Z => v_X2_flyPests_b2 E w Q n x1 Z) Q))))))))
set_option maxHeartbeats 1000000 in
theorem u_X2_flyPests_b2 {Q : sT → Prop} {Q' : zT → Prop} (hSt : cSt P) (hQ : ∀ S Z, CC H E S Z → P S → Q' Z → Q S)  (hw : w < 2) : ∀ (n : Nat) (x1 : Int32) (S : sT) (Z : zT), CC H E S Z → P S → v_X2_flyPests_b2 E w  Q' n x1 Z → w_X2_flyPests_b2  Q n (H w 0 0) x1 S := by
  intro n
  induction n with
  | zero => intro x1 S Z  hC hP h; exact absurd h id
  | succ n ih =>
    intro x1 S Z  hC hP h
    unfold v_X2_flyPests_b2 at h
    unfold w_X2_flyPests_b2
    refine ⟨rK_Hill hC hw, ?_⟩
    refine ⟨_, rF_97 hC hw, ?_⟩
    refine ⟨rK_LF hC hw, ?_⟩
    refine us_size (rL_LF hC hw) ?_
    replace h := h _ rfl
    refine ⟨fun c => ?_, fun c => ?_⟩
    · replace h := h.1 c
      obtain ⟨n9, h⟩ := h
      refine ⟨n9, ?_⟩
      exact u_X2_flyPests_b64 hSt hQ hw n9 (0 : Int32) _ _ hC hP h
    · replace h := h.2 c
      refine ⟨rK_Hill hC hw, ?_⟩
      refine ⟨_, rF_97 hC hw, ?_⟩
      refine ⟨rK_LF hC hw, ?_⟩
      obtain ⟨hi, h⟩ := h
      obtain ⟨a107, ea107, h⟩ := vEx h
      have k_a107 := vp_lk hi ea107
      refine us_get (rL_LF hC hw) hi (congrArg (H w 5) ea107) ?_
      refine ⟨rK_Fld hC hw k_a107, ?_⟩
      intro x108 ex
      replace h := h x108 (ex.trans (rI_8 hC hw k_a107))
      refine ⟨fun c => ?_, fun c => ?_⟩
      · replace h := h.1 c
        exact u_X2_flyPests_b56 hSt hQ (fun x1 S Z hC hP h => ih x1 _ _ hC hP h) hw hC hP h
      · replace h := h.2 c
        refine ⟨rK_Hill hC hw, ?_⟩
        refine u_X2_nearestOnTheStalk hSt (fun r111 S110 Z110 k_r111 hC hP h => ?_) hw hC hP h
        refine ⟨rK_Hill hC hw, ?_⟩
        refine u_X2_flyFrom (x1 := a107) (x2 := r111) hSt (fun S112 Z112 hC hP h => ?_) hw k_a107 k_r111 hC hP h
        refine ⟨rK_Hill hC hw, ?_⟩
        refine u_X2_nearestOnTheStalk hSt (fun r114 S113 Z113 k_r114 hC hP h => ?_) hw hC hP h
        refine ⟨rK_Hill hC hw, ?_⟩
        refine u_X2_flyFrom (x1 := a107) (x2 := r114) hSt (fun S115 Z115 hC hP h => ?_) hw k_a107 k_r114 hC hP h
        exact u_X2_flyPests_b56 hSt hQ (fun x1 S Z hC hP h => ih x1 _ _ hC hP h) hw hC hP h
def v_X2_flyPests_b0 (E : eT) (w : Nat) (Z : zT) (Q : zT → Prop) : Prop :=
  ∃ n9 : Nat, 
  v_X2_flyPests_b2 E w Q n9 (0 : Int32) Z
set_option maxHeartbeats 1000000 in
theorem u_X2_flyPests_b0 {Q : sT → Prop} {Q' : zT → Prop}  {S : sT} {Z : zT} (hSt : cSt P) (hQ : ∀ S Z, CC H E S Z → P S → Q' Z → Q S)  (hw : w < 2)  (hC : CC H E S Z) (hP : P S) (h : v_X2_flyPests_b0 E w Z Q') : w_X2_flyPests_b0 (H w 0 0) S Q := by
  unfold v_X2_flyPests_b0 at h
  unfold w_X2_flyPests_b0
  obtain ⟨n9, h⟩ := h
  refine ⟨n9, ?_⟩
  exact u_X2_flyPests_b2 hSt hQ hw n9 (0 : Int32) _ _ hC hP h
def v_X2_flyPests (E : eT) (w : Nat) (Z : zT) (Q : zT → Prop) : Prop :=
  v_X2_flyPests_b0 E w Z Q
set_option maxHeartbeats 1000000 in
theorem u_X2_flyPests {Q : sT → Prop} {Q' : zT → Prop}  {S : sT} {Z : zT} (hSt : cSt P) (hQ : ∀ S Z, CC H E S Z → P S → Q' Z → Q S)  (hw : w < 2)  (hC : CC H E S Z) (hP : P S) (h : v_X2_flyPests E w Z Q') : w_X2_flyPests (H w 0 0) S Q := by
  unfold v_X2_flyPests at h
  unfold w_X2_flyPests
  exact u_X2_flyPests_b0 hSt hQ hw hC hP h
def v_X2_splitAtWeir_b61 (E : eT) (w : Nat)  (Q : zT → Prop) : Nat → Int32 → Int32 → Int32 → zT → Prop
  | 0 => fun _ _ _ _ => False
  | n + 1 => fun x2 x3 x4 Z =>
    ∀ x103 : Int32, x103 = nI E.1 →
    ((x103 ≤ x4 →
    Q Z) ∧
    (¬ x103 ≤ x4 →
    vp_in x4 E.1 ∧
    ∀ a107 : Nat, a107 = Int32.toNatClampNeg x4 →
    ∀ x108 : Int32, x108 = Z w 32 a107 →
    ∀ x109 : Int32, x109 = x2 * x108 →
    ¬ x3 = 0 ∧
    ∀ x111 : Int32, x111 = x109 / x3 →
    ∀ Z112 : zT, Z112 = u3 Z w 41 a107 x111 →
    ∀ x113 : Int32, x113 = Z112 w 68 0 →
    ∀ x114 : Int32, x114 = Z112 w 41 a107 →
    ∀ x115 : Int32, x115 = x113 - x114 →
    ∀ Z116 : zT, Z116 = u3 Z112 w 68 0 x115 →
    ∀ x117 : Int32, x117 = x4 + 1 →
    v_X2_splitAtWeir_b61 E w Q n x2 x3 x117 Z116))
set_option maxHeartbeats 1000000 in
theorem u_X2_splitAtWeir_b61 {Q : sT → Prop} {Q' : zT → Prop} (hSt : cSt P) (hQ : ∀ S Z, CC H E S Z → P S → Q' Z → Q S)  (hw : w < 2) : ∀ (n : Nat) (x2 : Int32) (x3 : Int32) (x4 : Int32) (S : sT) (Z : zT), CC H E S Z → P S → v_X2_splitAtWeir_b61 E w  Q' n x2 x3 x4 Z → w_X2_splitAtWeir_b61  Q n (H w 0 0) x2 x3 x4 S := by
  intro n
  induction n with
  | zero => intro x2 x3 x4 S Z  hC hP h; exact absurd h id
  | succ n ih =>
    intro x2 x3 x4 S Z  hC hP h
    unfold v_X2_splitAtWeir_b61 at h
    unfold w_X2_splitAtWeir_b61
    refine ⟨rK_Hill hC hw, ?_⟩
    refine ⟨_, rF_96 hC hw, ?_⟩
    refine ⟨rK_LS hC hw, ?_⟩
    refine us_size (rL_LS hC hw) ?_
    replace h := h _ rfl
    refine ⟨fun c => ?_, fun c => ?_⟩
    · replace h := h.1 c
      exact hQ _ _ hC hP h
    · replace h := h.2 c
      refine ⟨rK_Hill hC hw, ?_⟩
      refine ⟨_, rF_96 hC hw, ?_⟩
      refine ⟨rK_LS hC hw, ?_⟩
      obtain ⟨hi, h⟩ := h
      obtain ⟨a107, ea107, h⟩ := vEx h
      have k_a107 := vp_lk hi ea107
      refine us_get (rL_LS hC hw) hi (congrArg (H w 4) ea107) ?_
      refine ⟨rK_Soc hC hw k_a107, ?_⟩
      intro x108 ex
      replace h := h x108 (ex.trans (rI_32 hC hw k_a107))
      intro x109 ex
      replace h := h x109 ex
      obtain ⟨hn, h⟩ := h
      refine ⟨hn, ?_⟩
      intro x111 ex
      replace h := h x111 ex
      intro S112 eS
      obtain ⟨Z112, eZ, h⟩ := vEx h
      replace hC := wI_41 hC hw k_a107 eS eZ
      replace hP := eS ▸ hSt _ 201 _ _ (by decide) hP
      clear eS eZ
      refine ⟨rK_Hill hC hw, ?_⟩
      intro x113 ex
      replace h := h x113 (ex.trans (rI_68 hC hw z01))
      intro x114 ex
      replace h := h x114 (ex.trans (rI_41 hC hw k_a107))
      intro x115 ex
      replace h := h x115 ex
      intro S116 eS
      obtain ⟨Z116, eZ, h⟩ := vEx h
      replace hC := wI_68 hC hw z01 eS eZ
      replace hP := eS ▸ hSt _ 100 _ _ (by decide) hP
      clear eS eZ
      intro x117 ex
      replace h := h x117 ex
      exact ih x2 x3 x117 _ _ hC hP h
def v_X2_splitAtWeir_b12 (E : eT) (w : Nat)  (Q : zT → Prop) : Nat → Int32 → Int32 → Int32 → zT → Prop
  | 0 => fun _ _ _ _ => False
  | n + 1 => fun x2 x3 x4 Z =>
    ∀ x103 : Int32, x103 = nI E.1 →
    ((x103 ≤ x4 →
    ∀ Z105 : zT, Z105 = u3 Z w 68 0 x2 →
    ((0 < x3 →
    ∃ n9 : Nat, 
    v_X2_splitAtWeir_b61 E w Q n9 x2 x3 (0 : Int32) Z105) ∧
    (¬ 0 < x3 →
    Q Z105))) ∧
    (¬ x103 ≤ x4 →
    vp_in x4 E.1 ∧
    ∀ a109 : Nat, a109 = Int32.toNatClampNeg x4 →
    ∀ x110 : Int32, x110 = Z w 32 a109 →
    ∀ x111 : Int32, x111 = x3 + x110 →
    ∀ x112 : Int32, x112 = x4 + 1 →
    v_X2_splitAtWeir_b12 E w Q n x2 x111 x112 Z))
set_option maxHeartbeats 1000000 in
theorem u_X2_splitAtWeir_b12 {Q : sT → Prop} {Q' : zT → Prop} (hSt : cSt P) (hQ : ∀ S Z, CC H E S Z → P S → Q' Z → Q S)  (hw : w < 2) : ∀ (n : Nat) (x2 : Int32) (x3 : Int32) (x4 : Int32) (S : sT) (Z : zT), CC H E S Z → P S → v_X2_splitAtWeir_b12 E w  Q' n x2 x3 x4 Z → w_X2_splitAtWeir_b12  Q n (H w 0 0) x2 x3 x4 S := by
  intro n
  induction n with
  | zero => intro x2 x3 x4 S Z  hC hP h; exact absurd h id
  | succ n ih =>
    intro x2 x3 x4 S Z  hC hP h
    unfold v_X2_splitAtWeir_b12 at h
    unfold w_X2_splitAtWeir_b12
    refine ⟨rK_Hill hC hw, ?_⟩
    refine ⟨_, rF_96 hC hw, ?_⟩
    refine ⟨rK_LS hC hw, ?_⟩
    refine us_size (rL_LS hC hw) ?_
    replace h := h _ rfl
    refine ⟨fun c => ?_, fun c => ?_⟩
    · replace h := h.1 c
      refine ⟨rK_Hill hC hw, ?_⟩
      intro S105 eS
      obtain ⟨Z105, eZ, h⟩ := vEx h
      replace hC := wI_68 hC hw z01 eS eZ
      replace hP := eS ▸ hSt _ 100 _ _ (by decide) hP
      clear eS eZ
      refine ⟨fun c => ?_, fun c => ?_⟩
      · replace h := h.1 c
        obtain ⟨n9, h⟩ := h
        refine ⟨n9, ?_⟩
        exact u_X2_splitAtWeir_b61 hSt hQ hw n9 x2 x3 (0 : Int32) _ _ hC hP h
      · replace h := h.2 c
        exact hQ _ _ hC hP h
    · replace h := h.2 c
      refine ⟨rK_Hill hC hw, ?_⟩
      refine ⟨_, rF_96 hC hw, ?_⟩
      refine ⟨rK_LS hC hw, ?_⟩
      obtain ⟨hi, h⟩ := h
      obtain ⟨a109, ea109, h⟩ := vEx h
      have k_a109 := vp_lk hi ea109
      refine us_get (rL_LS hC hw) hi (congrArg (H w 4) ea109) ?_
      refine ⟨rK_Soc hC hw k_a109, ?_⟩
      intro x110 ex
      replace h := h x110 (ex.trans (rI_32 hC hw k_a109))
      intro x111 ex
      replace h := h x111 ex
      intro x112 ex
      replace h := h x112 ex
      exact ih x2 x111 x112 _ _ hC hP h
def v_X2_splitAtWeir_b0 (E : eT) (w : Nat) (x1 : Int32) (Z : zT) (Q : zT → Prop) : Prop :=
  ∀ x101 : Int32, x101 = Z w 68 0 →
  ∀ x102 : Int32, x102 = x1 + x101 →
  ∃ n9 : Nat, 
  v_X2_splitAtWeir_b12 E w Q n9 x102 (0 : Int32) (0 : Int32) Z
set_option maxHeartbeats 1000000 in
theorem u_X2_splitAtWeir_b0 {Q : sT → Prop} {Q' : zT → Prop} {x1 : Int32} {S : sT} {Z : zT} (hSt : cSt P) (hQ : ∀ S Z, CC H E S Z → P S → Q' Z → Q S)  (hw : w < 2)  (hC : CC H E S Z) (hP : P S) (h : v_X2_splitAtWeir_b0 E w x1 Z Q') : w_X2_splitAtWeir_b0 (H w 0 0) x1 S Q := by
  unfold v_X2_splitAtWeir_b0 at h
  unfold w_X2_splitAtWeir_b0
  refine ⟨rK_Hill hC hw, ?_⟩
  intro x101 ex
  replace h := h x101 (ex.trans (rI_68 hC hw z01))
  intro x102 ex
  replace h := h x102 ex
  obtain ⟨n9, h⟩ := h
  refine ⟨n9, ?_⟩
  exact u_X2_splitAtWeir_b12 hSt hQ hw n9 x102 (0 : Int32) (0 : Int32) _ _ hC hP h
def v_X2_splitAtWeir (E : eT) (w : Nat) (x1 : Int32) (Z : zT) (Q : zT → Prop) : Prop :=
  v_X2_splitAtWeir_b0 E w x1 Z Q
set_option maxHeartbeats 1000000 in
theorem u_X2_splitAtWeir {Q : sT → Prop} {Q' : zT → Prop} {x1 : Int32} {S : sT} {Z : zT} (hSt : cSt P) (hQ : ∀ S Z, CC H E S Z → P S → Q' Z → Q S)  (hw : w < 2)  (hC : CC H E S Z) (hP : P S) (h : v_X2_splitAtWeir E w x1 Z Q') : w_X2_splitAtWeir (H w 0 0) x1 S Q := by
  unfold v_X2_splitAtWeir at h
  unfold w_X2_splitAtWeir
  exact u_X2_splitAtWeir_b0 hSt hQ hw hC hP h
def v_X2_passDay_b104 (E : eT) (w : Nat)  (Q : zT → Prop) : Nat → Int32 → Int32 → Int32 → zT → Prop
  | 0 => fun _ _ _ _ => False
  | n + 1 => fun x2 x3 x5 Z =>
    ∀ x103 : Int32, x103 = nI E.2.1 →
    ((x103 ≤ x5 →
    v_X2_flyPests E w Z (fun Z105 =>
    Q Z105)) ∧
    (¬ x103 ≤ x5 →
    vp_in x5 E.2.1 ∧
    ∀ a108 : Nat, a108 = Int32.toNatClampNeg x5 →
    v_X1_passWater E w a108 x3 Z (fun Z110 =>
    v_X1_dryOut E w a108 Z110 (fun Z111 =>
    ∀ x113 : Int32, x113 = Z111 w 1 a108 →
    ∀ x114 : Int32, x114 = Z111 w 8 a108 →
    v_X0_grow E w a108 x113 x114 x2 Z111 (fun Z115 =>
    v_X1_breedPests E w a108 Z115 (fun Z116 =>
    ∀ x117 : Int32, x117 = x5 + 1 →
    v_X2_passDay_b104 E w Q n x2 x3 x117 Z116))))))
set_option maxHeartbeats 1000000 in
theorem u_X2_passDay_b104 {Q : sT → Prop} {Q' : zT → Prop} (hSt : cSt P) (hQ : ∀ S Z, CC H E S Z → P S → Q' Z → Q S)  (hw : w < 2) : ∀ (n : Nat) (x2 : Int32) (x3 : Int32) (x5 : Int32) (S : sT) (Z : zT), CC H E S Z → P S → v_X2_passDay_b104 E w  Q' n x2 x3 x5 Z → w_X2_passDay_b104  Q n (H w 0 0) x2 x3 x5 S := by
  intro n
  induction n with
  | zero => intro x2 x3 x5 S Z  hC hP h; exact absurd h id
  | succ n ih =>
    intro x2 x3 x5 S Z  hC hP h
    unfold v_X2_passDay_b104 at h
    unfold w_X2_passDay_b104
    refine ⟨rK_Hill hC hw, ?_⟩
    refine ⟨_, rF_97 hC hw, ?_⟩
    refine ⟨rK_LF hC hw, ?_⟩
    refine us_size (rL_LF hC hw) ?_
    replace h := h _ rfl
    refine ⟨fun c => ?_, fun c => ?_⟩
    · replace h := h.1 c
      refine ⟨rK_Hill hC hw, ?_⟩
      refine u_X2_flyPests hSt (fun S105 Z105 hC hP h => ?_) hw hC hP h
      exact hQ _ _ hC hP h
    · replace h := h.2 c
      refine ⟨rK_Hill hC hw, ?_⟩
      refine ⟨_, rF_97 hC hw, ?_⟩
      refine ⟨rK_LF hC hw, ?_⟩
      obtain ⟨hi, h⟩ := h
      obtain ⟨a108, ea108, h⟩ := vEx h
      have k_a108 := vp_lk hi ea108
      refine us_get (rL_LF hC hw) hi (congrArg (H w 5) ea108) ?_
      refine ⟨rK_Fld hC hw k_a108, ?_⟩
      refine ⟨rK_Hill hC hw, ?_⟩
      refine ⟨_, rF_98 hC hw, ?_⟩
      refine u_X1_passWater (x0 := a108) hSt (fun S110 Z110 hC hP h => ?_) hw k_a108 hC hP h
      refine ⟨rK_Fld hC hw k_a108, ?_⟩
      refine u_X1_dryOut (x0 := a108) hSt (fun S111 Z111 hC hP h => ?_) hw k_a108 hC hP h
      refine ⟨rK_Fld hC hw k_a108, ?_⟩
      refine ⟨_, rF_69 hC hw k_a108, ?_⟩
      intro x113 ex
      replace h := h x113 (ex.trans (rI_1 hC hw k_a108))
      intro x114 ex
      replace h := h x114 (ex.trans (rI_8 hC hw k_a108))
      refine ⟨rK_Crp hC hw k_a108, ?_⟩
      refine u_X0_grow (x0 := a108) hSt (fun S115 Z115 hC hP h => ?_) hw k_a108 hC hP h
      refine ⟨rK_Fld hC hw k_a108, ?_⟩
      refine u_X1_breedPests (x0 := a108) hSt (fun S116 Z116 hC hP h => ?_) hw k_a108 hC hP h
      intro x117 ex
      replace h := h x117 ex
      exact ih x2 x3 x117 _ _ hC hP h
def v_X2_passDay_b62 (E : eT) (w : Nat)  (Q : zT → Prop) : Nat → Int32 → Int32 → Int32 → Int32 → zT → Prop
  | 0 => fun _ _ _ _ _ => False
  | n + 1 => fun x2 x3 x4 x5 Z =>
    ∀ x103 : Int32, x103 = nI E.1 →
    ((x103 ≤ x5 →
    ∃ n9 : Nat, 
    v_X2_passDay_b104 E w Q n9 x2 x3 (0 : Int32) Z) ∧
    (¬ x103 ≤ x5 →
    vp_in x5 E.1 ∧
    ∀ a107 : Nat, a107 = Int32.toNatClampNeg x5 →
    v_X5_shareOut E w a107 x4 Z (fun Z109 =>
    ∀ x110 : Int32, x110 = x5 + 1 →
    v_X2_passDay_b62 E w Q n x2 x3 x4 x110 Z109)))
set_option maxHeartbeats 1000000 in
theorem u_X2_passDay_b62 {Q : sT → Prop} {Q' : zT → Prop} (hSt : cSt P) (hQ : ∀ S Z, CC H E S Z → P S → Q' Z → Q S)  (hw : w < 2) : ∀ (n : Nat) (x2 : Int32) (x3 : Int32) (x4 : Int32) (x5 : Int32) (S : sT) (Z : zT), CC H E S Z → P S → v_X2_passDay_b62 E w  Q' n x2 x3 x4 x5 Z → w_X2_passDay_b62  Q n (H w 0 0) x2 x3 x4 x5 S := by
  intro n
  induction n with
  | zero => intro x2 x3 x4 x5 S Z  hC hP h; exact absurd h id
  | succ n ih =>
    intro x2 x3 x4 x5 S Z  hC hP h
    unfold v_X2_passDay_b62 at h
    unfold w_X2_passDay_b62
    refine ⟨rK_Hill hC hw, ?_⟩
    refine ⟨_, rF_96 hC hw, ?_⟩
    refine ⟨rK_LS hC hw, ?_⟩
    refine us_size (rL_LS hC hw) ?_
    replace h := h _ rfl
    refine ⟨fun c => ?_, fun c => ?_⟩
    · replace h := h.1 c
      obtain ⟨n9, h⟩ := h
      refine ⟨n9, ?_⟩
      exact u_X2_passDay_b104 hSt hQ hw n9 x2 x3 (0 : Int32) _ _ hC hP h
    · replace h := h.2 c
      refine ⟨rK_Hill hC hw, ?_⟩
      refine ⟨_, rF_96 hC hw, ?_⟩
      refine ⟨rK_LS hC hw, ?_⟩
      obtain ⟨hi, h⟩ := h
      obtain ⟨a107, ea107, h⟩ := vEx h
      have k_a107 := vp_lk hi ea107
      refine us_get (rL_LS hC hw) hi (congrArg (H w 4) ea107) ?_
      refine ⟨rK_Soc hC hw k_a107, ?_⟩
      refine ⟨rK_Hill hC hw, ?_⟩
      refine ⟨_, rF_98 hC hw, ?_⟩
      refine u_X5_shareOut (x0 := a107) hSt (fun S109 Z109 hC hP h => ?_) hw k_a107 hC hP h
      intro x110 ex
      replace h := h x110 ex
      exact ih x2 x3 x4 x110 _ _ hC hP h
def v_X2_passDay_b0 (E : eT) (w : Nat) (x1 : Int32) (x2 : Int32) (x3 : Int32) (Z : zT) (Q : zT → Prop) : Prop :=
  ∀ x101 : Int32, x101 = Z w 64 0 →
  ∀ x102 : Int32, x102 = x101 + (1 : Int32) →
  ∀ Z103 : zT, Z103 = u3 Z w 64 0 x102 →
  ∀ Z104 : zT, Z104 = u3 Z103 w 65 0 x1 →
  ∀ Z105 : zT, Z105 = u3 Z104 w 66 0 x2 →
  ∀ Z106 : zT, Z106 = u3 Z105 w 67 0 x3 →
  ∀ x108 : Int32, x108 = Z106 w 69 0 →
  ∀ x111 : Int32, x111 = nI E.2.1 →
  ∀ x112 : Int32, x112 = x3 * x111 →
  ∀ x113 : Int32, x113 = x1 + x112 →
  ∀ x114 : Int32, x114 = x108 + x113 →
  ∀ Z115 : zT, Z115 = u3 Z106 w 69 0 x114 →
  v_X2_splitAtWeir E w x1 Z115 (fun Z116 =>
  v_X2_templeDay E w Z116 (fun x118 Z117 =>
  ∃ n9 : Nat, 
  v_X2_passDay_b62 E w Q n9 x2 x3 x118 (0 : Int32) Z117))
set_option maxHeartbeats 1000000 in
theorem u_X2_passDay_b0 {Q : sT → Prop} {Q' : zT → Prop} {x1 : Int32} {x2 : Int32} {x3 : Int32} {S : sT} {Z : zT} (hSt : cSt P) (hQ : ∀ S Z, CC H E S Z → P S → Q' Z → Q S)  (hw : w < 2)  (hC : CC H E S Z) (hP : P S) (h : v_X2_passDay_b0 E w x1 x2 x3 Z Q') : w_X2_passDay_b0 (H w 0 0) x1 x2 x3 S Q := by
  unfold v_X2_passDay_b0 at h
  unfold w_X2_passDay_b0
  refine ⟨rK_Hill hC hw, ?_⟩
  intro x101 ex
  replace h := h x101 (ex.trans (rI_64 hC hw z01))
  intro x102 ex
  replace h := h x102 ex
  intro S103 eS
  obtain ⟨Z103, eZ, h⟩ := vEx h
  replace hC := wI_64 hC hw z01 eS eZ
  replace hP := eS ▸ hSt _ 99 _ _ (by decide) hP
  clear eS eZ
  intro S104 eS
  obtain ⟨Z104, eZ, h⟩ := vEx h
  replace hC := wI_65 hC hw z01 eS eZ
  replace hP := eS ▸ hSt _ 103 _ _ (by decide) hP
  clear eS eZ
  intro S105 eS
  obtain ⟨Z105, eZ, h⟩ := vEx h
  replace hC := wI_66 hC hw z01 eS eZ
  replace hP := eS ▸ hSt _ 104 _ _ (by decide) hP
  clear eS eZ
  intro S106 eS
  obtain ⟨Z106, eZ, h⟩ := vEx h
  replace hC := wI_67 hC hw z01 eS eZ
  replace hP := eS ▸ hSt _ 105 _ _ (by decide) hP
  clear eS eZ
  refine ⟨_, rF_98 hC hw, ?_⟩
  refine ⟨rK_Led hC hw, ?_⟩
  intro x108 ex
  replace h := h x108 (ex.trans (rI_69 hC hw z01))
  refine ⟨_, rF_97 hC hw, ?_⟩
  refine ⟨rK_LF hC hw, ?_⟩
  refine us_size (rL_LF hC hw) ?_
  replace h := h _ rfl
  intro x112 ex
  replace h := h x112 ex
  intro x113 ex
  replace h := h x113 ex
  intro x114 ex
  replace h := h x114 ex
  refine ⟨rK_Led hC hw, ?_⟩
  intro S115 eS
  obtain ⟨Z115, eZ, h⟩ := vEx h
  replace hC := wI_69 hC hw z01 eS eZ
  replace hP := eS ▸ hSt _ 128 _ _ (by decide) hP
  clear eS eZ
  refine ⟨rK_Hill hC hw, ?_⟩
  refine u_X2_splitAtWeir hSt (fun S116 Z116 hC hP h => ?_) hw hC hP h
  refine ⟨rK_Hill hC hw, ?_⟩
  refine u_X2_templeDay hSt (fun x118 S117 Z117 hC hP h => ?_) hw hC hP h
  obtain ⟨n9, h⟩ := h
  refine ⟨n9, ?_⟩
  exact u_X2_passDay_b62 hSt hQ hw n9 x2 x3 x118 (0 : Int32) _ _ hC hP h
def v_X2_passDay (E : eT) (w : Nat) (x1 : Int32) (x2 : Int32) (x3 : Int32) (Z : zT) (Q : zT → Prop) : Prop :=
  v_X2_passDay_b0 E w x1 x2 x3 Z Q
set_option maxHeartbeats 1000000 in
theorem u_X2_passDay {Q : sT → Prop} {Q' : zT → Prop} {x1 : Int32} {x2 : Int32} {x3 : Int32} {S : sT} {Z : zT} (hSt : cSt P) (hQ : ∀ S Z, CC H E S Z → P S → Q' Z → Q S)  (hw : w < 2)  (hC : CC H E S Z) (hP : P S) (h : v_X2_passDay E w x1 x2 x3 Z Q') : w_X2_passDay (H w 0 0) x1 x2 x3 S Q := by
  unfold v_X2_passDay at h
  unfold w_X2_passDay
  exact u_X2_passDay_b0 hSt hQ hw hC hP h
def v_X2_societyOrNull_b30 (E : eT) (w : Nat) (y0 : Option Nat) (Z : zT) (Q : Option Nat → zT → Prop) : Prop :=
  Q y0 Z
set_option maxHeartbeats 1000000 in
theorem u_X2_societyOrNull_b30 {Q : Option Nat → sT → Prop} {Q' : Option Nat → zT → Prop} {y0 : Option Nat} {S : sT} {Z : zT} (hSt : cSt P) (hQ : ∀ x S Z, (∀ k, x = some k → k < E.1) → CC H E S Z → P S → Q' x Z → Q (Option.map (H w 4) x) S)  (hw : w < 2) (k_y0 : ∀ k, y0 = some k → k < E.1) (hC : CC H E S Z) (hP : P S) (h : v_X2_societyOrNull_b30 E w y0 Z Q') : w_X2_societyOrNull_b30 (Option.map (H w 4) y0) S Q := by
  unfold v_X2_societyOrNull_b30 at h
  unfold w_X2_societyOrNull_b30
  exact hQ y0 _ _ k_y0 hC hP h
def v_X2_societyOrNull_b29 (E : eT) (w : Nat) (Z : zT) (Q : Option Nat → zT → Prop) : Prop :=
  v_X2_societyOrNull_b30 E w none Z Q
set_option maxHeartbeats 1000000 in
theorem u_X2_societyOrNull_b29 {Q : Option Nat → sT → Prop} {Q' : Option Nat → zT → Prop}  {S : sT} {Z : zT} (hSt : cSt P) (hQ : ∀ x S Z, (∀ k, x = some k → k < E.1) → CC H E S Z → P S → Q' x Z → Q (Option.map (H w 4) x) S)  (hw : w < 2)  (hC : CC H E S Z) (hP : P S) (h : v_X2_societyOrNull_b29 E w Z Q') : w_X2_societyOrNull_b29 S Q := by
  unfold v_X2_societyOrNull_b29 at h
  unfold w_X2_societyOrNull_b29
  exact u_X2_societyOrNull_b30 (y0 := none) hSt hQ hw (fun _ z => absurd z nofun) hC hP h
def v_X2_societyOrNull_b0 (E : eT) (w : Nat) (x1 : Int32) (Z : zT) (Q : Option Nat → zT → Prop) : Prop :=
  ((x1 < 0 →
  v_X2_societyOrNull_b29 E w Z Q) ∧
  (¬ x1 < 0 →
  ∀ x104 : Int32, x104 = nI E.1 →
  ((x104 ≤ x1 →
  v_X2_societyOrNull_b29 E w Z Q) ∧
  (¬ x104 ≤ x1 →
  vp_in x1 E.1 ∧
  ∀ a108 : Nat, a108 = Int32.toNatClampNeg x1 →
  v_X2_societyOrNull_b30 E w (some a108) Z Q))))
set_option maxHeartbeats 1000000 in
theorem u_X2_societyOrNull_b0 {Q : Option Nat → sT → Prop} {Q' : Option Nat → zT → Prop} {x1 : Int32} {S : sT} {Z : zT} (hSt : cSt P) (hQ : ∀ x S Z, (∀ k, x = some k → k < E.1) → CC H E S Z → P S → Q' x Z → Q (Option.map (H w 4) x) S)  (hw : w < 2)  (hC : CC H E S Z) (hP : P S) (h : v_X2_societyOrNull_b0 E w x1 Z Q') : w_X2_societyOrNull_b0 (H w 0 0) x1 S Q := by
  unfold v_X2_societyOrNull_b0 at h
  unfold w_X2_societyOrNull_b0
  refine ⟨fun c => ?_, fun c => ?_⟩
  · replace h := h.1 c
    exact u_X2_societyOrNull_b29 hSt hQ hw hC hP h
  · replace h := h.2 c
    refine ⟨rK_Hill hC hw, ?_⟩
    refine ⟨_, rF_96 hC hw, ?_⟩
    refine ⟨rK_LS hC hw, ?_⟩
    refine us_size (rL_LS hC hw) ?_
    replace h := h _ rfl
    refine ⟨fun c => ?_, fun c => ?_⟩
    · replace h := h.1 c
      exact u_X2_societyOrNull_b29 hSt hQ hw hC hP h
    · replace h := h.2 c
      refine ⟨rK_Hill hC hw, ?_⟩
      refine ⟨_, rF_96 hC hw, ?_⟩
      refine ⟨rK_LS hC hw, ?_⟩
      obtain ⟨hi, h⟩ := h
      obtain ⟨a108, ea108, h⟩ := vEx h
      have k_a108 := vp_lk hi ea108
      refine us_get (rL_LS hC hw) hi (congrArg (H w 4) ea108) ?_
      refine ⟨rK_Soc hC hw k_a108, ?_⟩
      exact u_X2_societyOrNull_b30 (y0 := (some a108)) hSt hQ hw (optK k_a108) hC hP h
def v_X2_societyOrNull (E : eT) (w : Nat) (x1 : Int32) (Z : zT) (Q : Option Nat → zT → Prop) : Prop :=
  v_X2_societyOrNull_b0 E w x1 Z Q
set_option maxHeartbeats 1000000 in
theorem u_X2_societyOrNull {Q : Option Nat → sT → Prop} {Q' : Option Nat → zT → Prop} {x1 : Int32} {S : sT} {Z : zT} (hSt : cSt P) (hQ : ∀ x S Z, (∀ k, x = some k → k < E.1) → CC H E S Z → P S → Q' x Z → Q (Option.map (H w 4) x) S)  (hw : w < 2)  (hC : CC H E S Z) (hP : P S) (h : v_X2_societyOrNull E w x1 Z Q') : w_X2_societyOrNull (H w 0 0) x1 S Q := by
  unfold v_X2_societyOrNull at h
  unfold w_X2_societyOrNull
  exact u_X2_societyOrNull_b0 hSt hQ hw hC hP h
def v_X2_modelOf_b44 (E : eT) (w : Nat) (y0 : Option Nat) (Z : zT) (Q : Option Nat → zT → Prop) : Prop :=
  Q y0 Z
set_option maxHeartbeats 1000000 in
theorem u_X2_modelOf_b44 {Q : Option Nat → sT → Prop} {Q' : Option Nat → zT → Prop} {y0 : Option Nat} {S : sT} {Z : zT} (hSt : cSt P) (hQ : ∀ x S Z, (∀ k, x = some k → k < E.1) → CC H E S Z → P S → Q' x Z → Q (Option.map (H w 4) x) S)  (hw : w < 2) (k_y0 : ∀ k, y0 = some k → k < E.1) (hC : CC H E S Z) (hP : P S) (h : v_X2_modelOf_b44 E w y0 Z Q') : w_X2_modelOf_b44 (Option.map (H w 4) y0) S Q := by
  unfold v_X2_modelOf_b44 at h
  unfold w_X2_modelOf_b44
  exact hQ y0 _ _ k_y0 hC hP h
def v_X2_modelOf_b0 (E : eT) (w : Nat) (x1 : Int32) (Z : zT) (Q : Option Nat → zT → Prop) : Prop :=
  ∀ x101 : Int32, x101 = x1 - (1 : Int32) →
  v_X2_societyOrNull E w x101 Z (fun r103 Z102 =>
  ∀ x104 : Int32, x104 = x1 + (1 : Int32) →
  v_X2_societyOrNull E w x104 Z102 (fun r106 Z105 =>
  ((r103 = none →
  Q r106 Z105) ∧
  (∀ a107 : Nat, r103 = some a107 →
  ((r106 = none →
  Q (some a107) Z105) ∧
  (∀ a109 : Nat, r106 = some a109 →
  v_X5_cropPerField E w a109 Z105 (fun x112 Z111 =>
  v_X5_cropPerField E w a107 Z111 (fun x114 Z113 =>
  ((x112 ≤ x114 →
  v_X2_modelOf_b44 E w (some a107) Z113 Q) ∧
  (¬ x112 ≤ x114 →
  v_X2_modelOf_b44 E w (some a109) Z113 Q))))))))))
set_option maxHeartbeats 1000000 in
theorem u_X2_modelOf_b0 {Q : Option Nat → sT → Prop} {Q' : Option Nat → zT → Prop} {x1 : Int32} {S : sT} {Z : zT} (hSt : cSt P) (hQ : ∀ x S Z, (∀ k, x = some k → k < E.1) → CC H E S Z → P S → Q' x Z → Q (Option.map (H w 4) x) S)  (hw : w < 2)  (hC : CC H E S Z) (hP : P S) (h : v_X2_modelOf_b0 E w x1 Z Q') : w_X2_modelOf_b0 (H w 0 0) x1 S Q := by
  unfold v_X2_modelOf_b0 at h
  unfold w_X2_modelOf_b0
  intro x101 ex
  replace h := h x101 ex
  refine ⟨rK_Hill hC hw, ?_⟩
  refine u_X2_societyOrNull hSt (fun r103 S102 Z102 k_r103 hC hP h => ?_) hw hC hP h
  intro x104 ex
  replace h := h x104 ex
  refine ⟨rK_Hill hC hw, ?_⟩
  refine u_X2_societyOrNull hSt (fun r106 S105 Z105 k_r106 hC hP h => ?_) hw hC hP h
  refine ⟨fun c => ?_, fun a c => ?_⟩
  · replace h := h.1 (optN c)
    exact hQ r106 _ _ k_r106 hC hP h
  · obtain ⟨a107, cz, ea⟩ := optS c
    clear c
    subst ea
    replace h := h.2 a107 cz
    have k_a107 := k_r103 _ cz
    refine ⟨fun c => ?_, fun a c => ?_⟩
    · replace h := h.1 (optN c)
      exact hQ (some a107) _ _ (optK k_a107) hC hP h
    · obtain ⟨a109, cz, ea⟩ := optS c
      clear c
      subst ea
      replace h := h.2 a109 cz
      have k_a109 := k_r106 _ cz
      refine ⟨rK_Soc hC hw k_a109, ?_⟩
      refine u_X5_cropPerField (x0 := a109) hSt (fun x112 S111 Z111 hC hP h => ?_) hw k_a109 hC hP h
      refine ⟨rK_Soc hC hw k_a107, ?_⟩
      refine u_X5_cropPerField (x0 := a107) hSt (fun x114 S113 Z113 hC hP h => ?_) hw k_a107 hC hP h
      refine ⟨fun c => ?_, fun c => ?_⟩
      · replace h := h.1 c
        exact u_X2_modelOf_b44 (y0 := (some a107)) hSt hQ hw (optK k_a107) hC hP h
      · replace h := h.2 c
        exact u_X2_modelOf_b44 (y0 := (some a109)) hSt hQ hw (optK k_a109) hC hP h
def v_X2_modelOf (E : eT) (w : Nat) (x1 : Int32) (Z : zT) (Q : Option Nat → zT → Prop) : Prop :=
  v_X2_modelOf_b0 E w x1 Z Q
set_option maxHeartbeats 1000000 in
theorem u_X2_modelOf {Q : Option Nat → sT → Prop} {Q' : Option Nat → zT → Prop} {x1 : Int32} {S : sT} {Z : zT} (hSt : cSt P) (hQ : ∀ x S Z, (∀ k, x = some k → k < E.1) → CC H E S Z → P S → Q' x Z → Q (Option.map (H w 4) x) S)  (hw : w < 2)  (hC : CC H E S Z) (hP : P S) (h : v_X2_modelOf E w x1 Z Q') : w_X2_modelOf (H w 0 0) x1 S Q := by
  unfold v_X2_modelOf at h
  unfold w_X2_modelOf
  exact u_X2_modelOf_b0 hSt hQ hw hC hP h
def v_X2_plantByPlan_b44 (E : eT) (w : Nat) (x2 : Int32) (x3 : Int32) (x4 : Int32) (x5 : Int32) (Z : zT) (kk6 : Int32 → Int32 → Int32 → Int32 → zT → Prop) (Q : zT → Prop) : Prop :=
  ∀ x101 : Int32, x101 = x4 / (3 : Int32) →
  ∀ x102 : Int32, x102 = x5 + 1 →
  kk6 x2 x3 x101 x102 Z
set_option maxHeartbeats 1000000 in
theorem u_X2_plantByPlan_b44 {Q : sT → Prop} {Q' : zT → Prop} {x2 : Int32} {x3 : Int32} {x4 : Int32} {x5 : Int32} {S : sT} {Z : zT} (hSt : cSt P) (hQ : ∀ S Z, CC H E S Z → P S → Q' Z → Q S) {kk6 : Nat → Int32 → Int32 → Int32 → Int32 → sT → Prop} {kk6' : Int32 → Int32 → Int32 → Int32 → zT → Prop} (hkk6 : ∀ (x2 : Int32) (x3 : Int32) (x4 : Int32) (x5 : Int32) S Z, CC H E S Z → P S → kk6' x2 x3 x4 x5 Z → kk6 (H w 0 0) x2 x3 x4 x5 S) (hw : w < 2)  (hC : CC H E S Z) (hP : P S) (h : v_X2_plantByPlan_b44 E w x2 x3 x4 x5 Z kk6' Q') : w_X2_plantByPlan_b44 (H w 0 0) x2 x3 x4 x5 S kk6 Q := by
  unfold v_X2_plantByPlan_b44 at h
  unfold w_X2_plantByPlan_b44
  intro x101 ex
  replace h := h x101 ex
  intro x102 ex
  replace h := h x102 ex
  exact hkk6 x2 x3 x101 x102 _ _  hC hP h
def v_X2_plantByPlan_b6 (E : eT) (w : Nat)  (Q : zT → Prop) : Nat → Int32 → Int32 → Int32 → Int32 → zT → Prop
  | 0 => fun _ _ _ _ _ => False
  | n + 1 => fun x2 x3 x4 x5 Z =>
    ∀ x103 : Int32, x103 = nI E.1 →
    ((x103 ≤ x5 →
    Q Z) ∧
    (¬ x103 ≤ x5 →
    ∀ x105 : Int32, x105 = x4 - x4 / (3 : Int32) * (3 : Int32) →
    ∀ x106 : Int32, x106 = x105 * (5 : Int32) →
    ((¬ x106 = x3 →
    v_X2_plantByPlan_b44 E w x2 x3 x4 x5 Z (fun x2 x3 x4 x5 Z => v_X2_plantByPlan_b6 E w Q n x2 x3 x4 x5 Z) Q) ∧
    (x106 = x3 →
    vp_in x5 E.1 ∧
    ∀ a110 : Nat, a110 = Int32.toNatClampNeg x5 →
    v_X5_plantAll E w a110 x2 Z (fun Z111 =>
    v_X2_plantByPlan_b44 E w x2 x3 x4 x5 Z111 (fun x2 x3 x4 x5 Z => v_X2_plantByPlan_b6 E w Q n x2 x3 x4 x5 Z) Q)))))
set_option maxHeartbeats 1000000 in
theorem u_X2_plantByPlan_b6 {Q : sT → Prop} {Q' : zT → Prop} (hSt : cSt P) (hQ : ∀ S Z, CC H E S Z → P S → Q' Z → Q S)  (hw : w < 2) : ∀ (n : Nat) (x2 : Int32) (x3 : Int32) (x4 : Int32) (x5 : Int32) (S : sT) (Z : zT), CC H E S Z → P S → v_X2_plantByPlan_b6 E w  Q' n x2 x3 x4 x5 Z → w_X2_plantByPlan_b6  Q n (H w 0 0) x2 x3 x4 x5 S := by
  intro n
  induction n with
  | zero => intro x2 x3 x4 x5 S Z  hC hP h; exact absurd h id
  | succ n ih =>
    intro x2 x3 x4 x5 S Z  hC hP h
    unfold v_X2_plantByPlan_b6 at h
    unfold w_X2_plantByPlan_b6
    refine ⟨rK_Hill hC hw, ?_⟩
    refine ⟨_, rF_96 hC hw, ?_⟩
    refine ⟨rK_LS hC hw, ?_⟩
    refine us_size (rL_LS hC hw) ?_
    replace h := h _ rfl
    refine ⟨fun c => ?_, fun c => ?_⟩
    · replace h := h.1 c
      exact hQ _ _ hC hP h
    · replace h := h.2 c
      intro x105 ex
      replace h := h x105 ex
      intro x106 ex
      replace h := h x106 ex
      refine ⟨fun c => ?_, fun c => ?_⟩
      · replace h := h.1 c
        exact u_X2_plantByPlan_b44 hSt hQ (fun x2 x3 x4 x5 S Z hC hP h => ih x2 x3 x4 x5 _ _ hC hP h) hw hC hP h
      · replace h := h.2 c
        refine ⟨rK_Hill hC hw, ?_⟩
        refine ⟨_, rF_96 hC hw, ?_⟩
        refine ⟨rK_LS hC hw, ?_⟩
        obtain ⟨hi, h⟩ := h
        obtain ⟨a110, ea110, h⟩ := vEx h
        have k_a110 := vp_lk hi ea110
        refine us_get (rL_LS hC hw) hi (congrArg (H w 4) ea110) ?_
        refine ⟨rK_Soc hC hw k_a110, ?_⟩
        refine u_X5_plantAll (x0 := a110) hSt (fun S111 Z111 hC hP h => ?_) hw k_a110 hC hP h
        exact u_X2_plantByPlan_b44 hSt hQ (fun x2 x3 x4 x5 S Z hC hP h => ih x2 x3 x4 x5 _ _ hC hP h) hw hC hP h
def v_X2_plantByPlan_b0 (E : eT) (w : Nat) (x1 : Int32) (x2 : Int32) (x3 : Int32) (Z : zT) (Q : zT → Prop) : Prop :=
  ∃ n9 : Nat, 
  v_X2_plantByPlan_b6 E w Q n9 x2 x3 x1 (0 : Int32) Z
set_option maxHeartbeats 1000000 in
theorem u_X2_plantByPlan_b0 {Q : sT → Prop} {Q' : zT → Prop} {x1 : Int32} {x2 : Int32} {x3 : Int32} {S : sT} {Z : zT} (hSt : cSt P) (hQ : ∀ S Z, CC H E S Z → P S → Q' Z → Q S)  (hw : w < 2)  (hC : CC H E S Z) (hP : P S) (h : v_X2_plantByPlan_b0 E w x1 x2 x3 Z Q') : w_X2_plantByPlan_b0 (H w 0 0) x1 x2 x3 S Q := by
  unfold v_X2_plantByPlan_b0 at h
  unfold w_X2_plantByPlan_b0
  obtain ⟨n9, h⟩ := h
  refine ⟨n9, ?_⟩
  exact u_X2_plantByPlan_b6 hSt hQ hw n9 x2 x3 x1 (0 : Int32) _ _ hC hP h
def v_X2_plantByPlan (E : eT) (w : Nat) (x1 : Int32) (x2 : Int32) (x3 : Int32) (Z : zT) (Q : zT → Prop) : Prop :=
  v_X2_plantByPlan_b0 E w x1 x2 x3 Z Q
set_option maxHeartbeats 1000000 in
theorem u_X2_plantByPlan {Q : sT → Prop} {Q' : zT → Prop} {x1 : Int32} {x2 : Int32} {x3 : Int32} {S : sT} {Z : zT} (hSt : cSt P) (hQ : ∀ S Z, CC H E S Z → P S → Q' Z → Q S)  (hw : w < 2)  (hC : CC H E S Z) (hP : P S) (h : v_X2_plantByPlan E w x1 x2 x3 Z Q') : w_X2_plantByPlan (H w 0 0) x1 x2 x3 S Q := by
  unfold v_X2_plantByPlan at h
  unfold w_X2_plantByPlan
  exact u_X2_plantByPlan_b0 hSt hQ hw hC hP h
def v_X2_yieldOf_b36 (E : eT) (w : Nat) (y0 : Int32) (Z : zT) (Q : Int32 → zT → Prop) : Prop :=
  Q y0 Z
set_option maxHeartbeats 1000000 in
theorem u_X2_yieldOf_b36 {Q : Int32 → sT → Prop} {Q' : Int32 → zT → Prop} {y0 : Int32} {S : sT} {Z : zT} (hSt : cSt P) (hQ : ∀ x S Z, CC H E S Z → P S → Q' x Z → Q x S)  (hw : w < 2)  (hC : CC H E S Z) (hP : P S) (h : v_X2_yieldOf_b36 E w y0 Z Q') : w_X2_yieldOf_b36 y0 S Q := by
  unfold v_X2_yieldOf_b36 at h
  unfold w_X2_yieldOf_b36
  exact hQ _ _ _ hC hP h
def v_X2_yieldOf_b35 (E : eT) (w : Nat) (Z : zT) (Q : Int32 → zT → Prop) : Prop :=
  v_X2_yieldOf_b36 E w (0 : Int32) Z Q
set_option maxHeartbeats 1000000 in
theorem u_X2_yieldOf_b35 {Q : Int32 → sT → Prop} {Q' : Int32 → zT → Prop}  {S : sT} {Z : zT} (hSt : cSt P) (hQ : ∀ x S Z, CC H E S Z → P S → Q' x Z → Q x S)  (hw : w < 2)  (hC : CC H E S Z) (hP : P S) (h : v_X2_yieldOf_b35 E w Z Q') : w_X2_yieldOf_b35 S Q := by
  unfold v_X2_yieldOf_b35 at h
  unfold w_X2_yieldOf_b35
  exact u_X2_yieldOf_b36 hSt hQ hw hC hP h
def v_X2_yieldOf_b0 (E : eT) (w : Nat) (x1 : Int32) (Z : zT) (Q : Int32 → zT → Prop) : Prop :=
  ((x1 < 0 →
  v_X2_yieldOf_b35 E w Z Q) ∧
  (¬ x1 < 0 →
  ∀ x104 : Int32, x104 = nI E.2.1 →
  ((x104 ≤ x1 →
  v_X2_yieldOf_b35 E w Z Q) ∧
  (¬ x104 ≤ x1 →
  vp_in x1 E.2.1 ∧
  ∀ a108 : Nat, a108 = Int32.toNatClampNeg x1 →
  v_X0_ripeYield E w a108 Z (fun x111 Z110 =>
  v_X2_yieldOf_b36 E w x111 Z110 Q)))))
set_option maxHeartbeats 1000000 in
theorem u_X2_yieldOf_b0 {Q : Int32 → sT → Prop} {Q' : Int32 → zT → Prop} {x1 : Int32} {S : sT} {Z : zT} (hSt : cSt P) (hQ : ∀ x S Z, CC H E S Z → P S → Q' x Z → Q x S)  (hw : w < 2)  (hC : CC H E S Z) (hP : P S) (h : v_X2_yieldOf_b0 E w x1 Z Q') : w_X2_yieldOf_b0 (H w 0 0) x1 S Q := by
  unfold v_X2_yieldOf_b0 at h
  unfold w_X2_yieldOf_b0
  refine ⟨fun c => ?_, fun c => ?_⟩
  · replace h := h.1 c
    exact u_X2_yieldOf_b35 hSt hQ hw hC hP h
  · replace h := h.2 c
    refine ⟨rK_Hill hC hw, ?_⟩
    refine ⟨_, rF_97 hC hw, ?_⟩
    refine ⟨rK_LF hC hw, ?_⟩
    refine us_size (rL_LF hC hw) ?_
    replace h := h _ rfl
    refine ⟨fun c => ?_, fun c => ?_⟩
    · replace h := h.1 c
      exact u_X2_yieldOf_b35 hSt hQ hw hC hP h
    · replace h := h.2 c
      refine ⟨rK_Hill hC hw, ?_⟩
      refine ⟨_, rF_97 hC hw, ?_⟩
      refine ⟨rK_LF hC hw, ?_⟩
      obtain ⟨hi, h⟩ := h
      obtain ⟨a108, ea108, h⟩ := vEx h
      have k_a108 := vp_lk hi ea108
      refine us_get (rL_LF hC hw) hi (congrArg (H w 5) ea108) ?_
      refine ⟨rK_Fld hC hw k_a108, ?_⟩
      refine ⟨_, rF_69 hC hw k_a108, ?_⟩
      refine ⟨rK_Crp hC hw k_a108, ?_⟩
      refine u_X0_ripeYield (x0 := a108) hSt (fun x111 S110 Z110 hC hP h => ?_) hw k_a108 hC hP h
      exact u_X2_yieldOf_b36 hSt hQ hw hC hP h
def v_X2_yieldOf (E : eT) (w : Nat) (x1 : Int32) (Z : zT) (Q : Int32 → zT → Prop) : Prop :=
  v_X2_yieldOf_b0 E w x1 Z Q
set_option maxHeartbeats 1000000 in
theorem u_X2_yieldOf {Q : Int32 → sT → Prop} {Q' : Int32 → zT → Prop} {x1 : Int32} {S : sT} {Z : zT} (hSt : cSt P) (hQ : ∀ x S Z, CC H E S Z → P S → Q' x Z → Q x S)  (hw : w < 2)  (hC : CC H E S Z) (hP : P S) (h : v_X2_yieldOf E w x1 Z Q') : w_X2_yieldOf (H w 0 0) x1 S Q := by
  unfold v_X2_yieldOf at h
  unfold w_X2_yieldOf
  exact u_X2_yieldOf_b0 hSt hQ hw hC hP h
def v_X2_sumOfYields_b4 (E : eT) (w : Nat)  (Q : Int32 → zT → Prop) : Nat → Int32 → Int32 → zT → Prop
  | 0 => fun _ _ _ => False
  | n + 1 => fun x1 x2 Z =>
    ∀ x103 : Int32, x103 = nI E.2.1 →
    ((x103 ≤ x2 →
    Q x1 Z) ∧
    (¬ x103 ≤ x2 →
    vp_in x2 E.2.1 ∧
    ∀ a107 : Nat, a107 = Int32.toNatClampNeg x2 →
    v_X0_ripeYield E w a107 Z (fun x110 Z109 =>
    ∀ x111 : Int32, x111 = x1 + x110 →
    ∀ x112 : Int32, x112 = x2 + 1 →
    v_X2_sumOfYields_b4 E w Q n x111 x112 Z109)))
set_option maxHeartbeats 1000000 in
theorem u_X2_sumOfYields_b4 {Q : Int32 → sT → Prop} {Q' : Int32 → zT → Prop} (hSt : cSt P) (hQ : ∀ x S Z, CC H E S Z → P S → Q' x Z → Q x S)  (hw : w < 2) : ∀ (n : Nat) (x1 : Int32) (x2 : Int32) (S : sT) (Z : zT), CC H E S Z → P S → v_X2_sumOfYields_b4 E w  Q' n x1 x2 Z → w_X2_sumOfYields_b4  Q n (H w 0 0) x1 x2 S := by
  intro n
  induction n with
  | zero => intro x1 x2 S Z  hC hP h; exact absurd h id
  | succ n ih =>
    intro x1 x2 S Z  hC hP h
    unfold v_X2_sumOfYields_b4 at h
    unfold w_X2_sumOfYields_b4
    refine ⟨rK_Hill hC hw, ?_⟩
    refine ⟨_, rF_97 hC hw, ?_⟩
    refine ⟨rK_LF hC hw, ?_⟩
    refine us_size (rL_LF hC hw) ?_
    replace h := h _ rfl
    refine ⟨fun c => ?_, fun c => ?_⟩
    · replace h := h.1 c
      exact hQ _ _ _ hC hP h
    · replace h := h.2 c
      refine ⟨rK_Hill hC hw, ?_⟩
      refine ⟨_, rF_97 hC hw, ?_⟩
      refine ⟨rK_LF hC hw, ?_⟩
      obtain ⟨hi, h⟩ := h
      obtain ⟨a107, ea107, h⟩ := vEx h
      have k_a107 := vp_lk hi ea107
      refine us_get (rL_LF hC hw) hi (congrArg (H w 5) ea107) ?_
      refine ⟨rK_Fld hC hw k_a107, ?_⟩
      refine ⟨_, rF_69 hC hw k_a107, ?_⟩
      refine ⟨rK_Crp hC hw k_a107, ?_⟩
      refine u_X0_ripeYield (x0 := a107) hSt (fun x110 S109 Z109 hC hP h => ?_) hw k_a107 hC hP h
      intro x111 ex
      replace h := h x111 ex
      intro x112 ex
      replace h := h x112 ex
      exact ih x111 x112 _ _ hC hP h
def v_X2_sumOfYields_b0 (E : eT) (w : Nat) (Z : zT) (Q : Int32 → zT → Prop) : Prop :=
  ∃ n9 : Nat, 
  v_X2_sumOfYields_b4 E w Q n9 (0 : Int32) (0 : Int32) Z
set_option maxHeartbeats 1000000 in
theorem u_X2_sumOfYields_b0 {Q : Int32 → sT → Prop} {Q' : Int32 → zT → Prop}  {S : sT} {Z : zT} (hSt : cSt P) (hQ : ∀ x S Z, CC H E S Z → P S → Q' x Z → Q x S)  (hw : w < 2)  (hC : CC H E S Z) (hP : P S) (h : v_X2_sumOfYields_b0 E w Z Q') : w_X2_sumOfYields_b0 (H w 0 0) S Q := by
  unfold v_X2_sumOfYields_b0 at h
  unfold w_X2_sumOfYields_b0
  obtain ⟨n9, h⟩ := h
  refine ⟨n9, ?_⟩
  exact u_X2_sumOfYields_b4 hSt hQ hw n9 (0 : Int32) (0 : Int32) _ _ hC hP h
def v_X2_sumOfYields (E : eT) (w : Nat) (Z : zT) (Q : Int32 → zT → Prop) : Prop :=
  v_X2_sumOfYields_b0 E w Z Q
set_option maxHeartbeats 1000000 in
theorem u_X2_sumOfYields {Q : Int32 → sT → Prop} {Q' : Int32 → zT → Prop}  {S : sT} {Z : zT} (hSt : cSt P) (hQ : ∀ x S Z, CC H E S Z → P S → Q' x Z → Q x S)  (hw : w < 2)  (hC : CC H E S Z) (hP : P S) (h : v_X2_sumOfYields E w Z Q') : w_X2_sumOfYields (H w 0 0) S Q := by
  unfold v_X2_sumOfYields at h
  unfold w_X2_sumOfYields
  exact u_X2_sumOfYields_b0 hSt hQ hw hC hP h
def v_X2_countRipe_b42 (E : eT) (w : Nat) (x2 : Int32) (y0 : Int32) (y1 : Int32) (Z : zT) (kk4 : Int32 → Int32 → zT → Prop) (Q : Int32 → zT → Prop) : Prop :=
  ∀ x101 : Int32, x101 = y1 + y0 →
  ∀ x102 : Int32, x102 = x2 + 1 →
  kk4 x101 x102 Z
set_option maxHeartbeats 1000000 in
theorem u_X2_countRipe_b42 {Q : Int32 → sT → Prop} {Q' : Int32 → zT → Prop} {x2 : Int32} {y0 : Int32} {y1 : Int32} {S : sT} {Z : zT} (hSt : cSt P) (hQ : ∀ x S Z, CC H E S Z → P S → Q' x Z → Q x S) {kk4 : Nat → Int32 → Int32 → sT → Prop} {kk4' : Int32 → Int32 → zT → Prop} (hkk4 : ∀ (x1 : Int32) (x2 : Int32) S Z, CC H E S Z → P S → kk4' x1 x2 Z → kk4 (H w 0 0) x1 x2 S) (hw : w < 2)  (hC : CC H E S Z) (hP : P S) (h : v_X2_countRipe_b42 E w x2 y0 y1 Z kk4' Q') : w_X2_countRipe_b42 (H w 0 0) x2 y0 y1 S kk4 Q := by
  unfold v_X2_countRipe_b42 at h
  unfold w_X2_countRipe_b42
  intro x101 ex
  replace h := h x101 ex
  intro x102 ex
  replace h := h x102 ex
  exact hkk4 x101 x102 _ _  hC hP h
def v_X2_countRipe_b4 (E : eT) (w : Nat)  (Q : Int32 → zT → Prop) : Nat → Int32 → Int32 → zT → Prop
  | 0 => fun _ _ _ => False
  | n + 1 => fun x1 x2 Z =>
    ∀ x103 : Int32, x103 = nI E.2.1 →
    ((x103 ≤ x2 →
    Q x1 Z) ∧
    (¬ x103 ≤ x2 →
    vp_in x2 E.2.1 ∧
    ∀ a107 : Nat, a107 = Int32.toNatClampNeg x2 →
    ∀ x109 : Int32, x109 = Z w 4 a107 →
    ((¬ x109 = (5 : Int32) →
    v_X2_countRipe_b42 E w x2 (0 : Int32) x1 Z (fun x1 x2 Z => v_X2_countRipe_b4 E w Q n x1 x2 Z) Q) ∧
    (x109 = (5 : Int32) →
    v_X2_countRipe_b42 E w x2 (1 : Int32) x1 Z (fun x1 x2 Z => v_X2_countRipe_b4 E w Q n x1 x2 Z) Q))))
set_option maxHeartbeats 1000000 in
theorem u_X2_countRipe_b4 {Q : Int32 → sT → Prop} {Q' : Int32 → zT → Prop} (hSt : cSt P) (hQ : ∀ x S Z, CC H E S Z → P S → Q' x Z → Q x S)  (hw : w < 2) : ∀ (n : Nat) (x1 : Int32) (x2 : Int32) (S : sT) (Z : zT), CC H E S Z → P S → v_X2_countRipe_b4 E w  Q' n x1 x2 Z → w_X2_countRipe_b4  Q n (H w 0 0) x1 x2 S := by
  intro n
  induction n with
  | zero => intro x1 x2 S Z  hC hP h; exact absurd h id
  | succ n ih =>
    intro x1 x2 S Z  hC hP h
    unfold v_X2_countRipe_b4 at h
    unfold w_X2_countRipe_b4
    refine ⟨rK_Hill hC hw, ?_⟩
    refine ⟨_, rF_97 hC hw, ?_⟩
    refine ⟨rK_LF hC hw, ?_⟩
    refine us_size (rL_LF hC hw) ?_
    replace h := h _ rfl
    refine ⟨fun c => ?_, fun c => ?_⟩
    · replace h := h.1 c
      exact hQ _ _ _ hC hP h
    · replace h := h.2 c
      refine ⟨rK_Hill hC hw, ?_⟩
      refine ⟨_, rF_97 hC hw, ?_⟩
      refine ⟨rK_LF hC hw, ?_⟩
      obtain ⟨hi, h⟩ := h
      obtain ⟨a107, ea107, h⟩ := vEx h
      have k_a107 := vp_lk hi ea107
      refine us_get (rL_LF hC hw) hi (congrArg (H w 5) ea107) ?_
      refine ⟨rK_Fld hC hw k_a107, ?_⟩
      refine ⟨_, rF_69 hC hw k_a107, ?_⟩
      refine ⟨rK_Crp hC hw k_a107, ?_⟩
      intro x109 ex
      replace h := h x109 (ex.trans (rI_4 hC hw k_a107))
      refine ⟨fun c => ?_, fun c => ?_⟩
      · replace h := h.1 c
        exact u_X2_countRipe_b42 hSt hQ (fun x1 x2 S Z hC hP h => ih x1 x2 _ _ hC hP h) hw hC hP h
      · replace h := h.2 c
        exact u_X2_countRipe_b42 hSt hQ (fun x1 x2 S Z hC hP h => ih x1 x2 _ _ hC hP h) hw hC hP h
def v_X2_countRipe_b0 (E : eT) (w : Nat) (Z : zT) (Q : Int32 → zT → Prop) : Prop :=
  ∃ n9 : Nat, 
  v_X2_countRipe_b4 E w Q n9 (0 : Int32) (0 : Int32) Z
set_option maxHeartbeats 1000000 in
theorem u_X2_countRipe_b0 {Q : Int32 → sT → Prop} {Q' : Int32 → zT → Prop}  {S : sT} {Z : zT} (hSt : cSt P) (hQ : ∀ x S Z, CC H E S Z → P S → Q' x Z → Q x S)  (hw : w < 2)  (hC : CC H E S Z) (hP : P S) (h : v_X2_countRipe_b0 E w Z Q') : w_X2_countRipe_b0 (H w 0 0) S Q := by
  unfold v_X2_countRipe_b0 at h
  unfold w_X2_countRipe_b0
  obtain ⟨n9, h⟩ := h
  refine ⟨n9, ?_⟩
  exact u_X2_countRipe_b4 hSt hQ hw n9 (0 : Int32) (0 : Int32) _ _ hC hP h
def v_X2_countRipe (E : eT) (w : Nat) (Z : zT) (Q : Int32 → zT → Prop) : Prop :=
  v_X2_countRipe_b0 E w Z Q
set_option maxHeartbeats 1000000 in
theorem u_X2_countRipe {Q : Int32 → sT → Prop} {Q' : Int32 → zT → Prop}  {S : sT} {Z : zT} (hSt : cSt P) (hQ : ∀ x S Z, CC H E S Z → P S → Q' x Z → Q x S)  (hw : w < 2)  (hC : CC H E S Z) (hP : P S) (h : v_X2_countRipe E w Z Q') : w_X2_countRipe (H w 0 0) S Q := by
  unfold v_X2_countRipe at h
  unfold w_X2_countRipe
  exact u_X2_countRipe_b0 hSt hQ hw hC hP h
def v_X2_copyFrom_b126 (E : eT) (Z : zT) (Q : zT → Prop) : Prop :=
  Q Z
set_option maxHeartbeats 1000000 in
theorem u_X2_copyFrom_b126 {Q : sT → Prop} {Q' : zT → Prop}  {S : sT} {Z : zT} (hSt : cSt P) (hQ : ∀ S Z, CC H E S Z → P S → Q' Z → Q S)   (hC : CC H E S Z) (hP : P S) (h : v_X2_copyFrom_b126 E Z Q') : w_X2_copyFrom_b126 S Q := by
  unfold v_X2_copyFrom_b126 at h
  unfold w_X2_copyFrom_b126
  exact hQ _ _ hC hP h
def v_X2_copyFrom_b73 (E : eT)  (Q : zT → Prop) : Nat → Int32 → zT → Prop
  | 0 => fun _ _ => False
  | n + 1 => fun x2 Z =>
    ∀ x103 : Int32, x103 = nI E.2.1 →
    ((x103 ≤ x2 →
    v_X2_copyFrom_b126 E Z Q) ∧
    (¬ x103 ≤ x2 →
    ∀ x107 : Int32, x107 = nI E.2.1 →
    ((x107 ≤ x2 →
    v_X2_copyFrom_b126 E Z Q) ∧
    (¬ x107 ≤ x2 →
    vp_in x2 E.2.1 ∧
    ∀ a111 : Nat, a111 = Int32.toNatClampNeg x2 →
    vp_in x2 E.2.1 ∧
    ∀ a114 : Nat, a114 = Int32.toNatClampNeg x2 →
    v_X1_copyFrom E a111 a114 Z (fun Z115 =>
    ∀ x116 : Int32, x116 = x2 + 1 →
    v_X2_copyFrom_b73 E Q n x116 Z115)))))
set_option maxHeartbeats 1000000 in
theorem u_X2_copyFrom_b73 {Q : sT → Prop} {Q' : zT → Prop} (hSt : cSt P) (hQ : ∀ S Z, CC H E S Z → P S → Q' Z → Q S)  : ∀ (n : Nat) (x2 : Int32) (S : sT) (Z : zT), CC H E S Z → P S → v_X2_copyFrom_b73 E  Q' n x2 Z → w_X2_copyFrom_b73  Q n (H 1 0 0) (H 0 0 0) x2 S := by
  intro n
  induction n with
  | zero => intro x2 S Z  hC hP h; exact absurd h id
  | succ n ih =>
    intro x2 S Z  hC hP h
    unfold v_X2_copyFrom_b73 at h
    unfold w_X2_copyFrom_b73
    refine ⟨rK_Hill hC z12, ?_⟩
    refine ⟨_, rF_97 hC z12, ?_⟩
    refine ⟨rK_LF hC z12, ?_⟩
    refine us_size (rL_LF hC z12) ?_
    replace h := h _ rfl
    refine ⟨fun c => ?_, fun c => ?_⟩
    · replace h := h.1 c
      exact u_X2_copyFrom_b126 hSt hQ hC hP h
    · replace h := h.2 c
      refine ⟨rK_Hill hC z02, ?_⟩
      refine ⟨_, rF_97 hC z02, ?_⟩
      refine ⟨rK_LF hC z02, ?_⟩
      refine us_size (rL_LF hC z02) ?_
      replace h := h _ rfl
      refine ⟨fun c => ?_, fun c => ?_⟩
      · replace h := h.1 c
        exact u_X2_copyFrom_b126 hSt hQ hC hP h
      · replace h := h.2 c
        refine ⟨rK_Hill hC z12, ?_⟩
        refine ⟨_, rF_97 hC z12, ?_⟩
        refine ⟨rK_LF hC z12, ?_⟩
        obtain ⟨hi, h⟩ := h
        obtain ⟨a111, ea111, h⟩ := vEx h
        have k_a111 := vp_lk hi ea111
        refine us_get (rL_LF hC z12) hi (congrArg (H 1 5) ea111) ?_
        refine ⟨rK_Fld hC z12 k_a111, ?_⟩
        refine ⟨rK_Hill hC z02, ?_⟩
        refine ⟨_, rF_97 hC z02, ?_⟩
        refine ⟨rK_LF hC z02, ?_⟩
        obtain ⟨hi, h⟩ := h
        obtain ⟨a114, ea114, h⟩ := vEx h
        have k_a114 := vp_lk hi ea114
        refine us_get (rL_LF hC z02) hi (congrArg (H 0 5) ea114) ?_
        refine ⟨rK_Fld hC z02 k_a114, ?_⟩
        refine ⟨rK_Fld hC z12 k_a111, ?_⟩
        refine u_X1_copyFrom (x0 := a111) (x1 := a114) hSt (fun S115 Z115 hC hP h => ?_) k_a111 k_a114 hC hP h
        intro x116 ex
        replace h := h x116 ex
        exact ih x116 _ _ hC hP h
def v_X2_copyFrom_b71 (E : eT) (Z : zT) (Q : zT → Prop) : Prop :=
  ∃ n9 : Nat, 
  v_X2_copyFrom_b73 E Q n9 (0 : Int32) Z
set_option maxHeartbeats 1000000 in
theorem u_X2_copyFrom_b71 {Q : sT → Prop} {Q' : zT → Prop}  {S : sT} {Z : zT} (hSt : cSt P) (hQ : ∀ S Z, CC H E S Z → P S → Q' Z → Q S)   (hC : CC H E S Z) (hP : P S) (h : v_X2_copyFrom_b71 E Z Q') : w_X2_copyFrom_b71 (H 1 0 0) (H 0 0 0) S Q := by
  unfold v_X2_copyFrom_b71 at h
  unfold w_X2_copyFrom_b71
  obtain ⟨n9, h⟩ := h
  refine ⟨n9, ?_⟩
  exact u_X2_copyFrom_b73 hSt hQ n9 (0 : Int32) _ _ hC hP h
def v_X2_copyFrom_b18 (E : eT)  (Q : zT → Prop) : Nat → Int32 → zT → Prop
  | 0 => fun _ _ => False
  | n + 1 => fun x2 Z =>
    ∀ x103 : Int32, x103 = nI E.1 →
    ((x103 ≤ x2 →
    v_X2_copyFrom_b71 E Z Q) ∧
    (¬ x103 ≤ x2 →
    ∀ x107 : Int32, x107 = nI E.1 →
    ((x107 ≤ x2 →
    v_X2_copyFrom_b71 E Z Q) ∧
    (¬ x107 ≤ x2 →
    vp_in x2 E.1 ∧
    ∀ a111 : Nat, a111 = Int32.toNatClampNeg x2 →
    vp_in x2 E.1 ∧
    ∀ a114 : Nat, a114 = Int32.toNatClampNeg x2 →
    v_X5_copyFrom E a111 a114 Z (fun Z115 =>
    ∀ x116 : Int32, x116 = x2 + 1 →
    v_X2_copyFrom_b18 E Q n x116 Z115)))))
set_option maxHeartbeats 1000000 in
theorem u_X2_copyFrom_b18 {Q : sT → Prop} {Q' : zT → Prop} (hSt : cSt P) (hQ : ∀ S Z, CC H E S Z → P S → Q' Z → Q S)  : ∀ (n : Nat) (x2 : Int32) (S : sT) (Z : zT), CC H E S Z → P S → v_X2_copyFrom_b18 E  Q' n x2 Z → w_X2_copyFrom_b18  Q n (H 1 0 0) (H 0 0 0) x2 S := by
  intro n
  induction n with
  | zero => intro x2 S Z  hC hP h; exact absurd h id
  | succ n ih =>
    intro x2 S Z  hC hP h
    unfold v_X2_copyFrom_b18 at h
    unfold w_X2_copyFrom_b18
    refine ⟨rK_Hill hC z12, ?_⟩
    refine ⟨_, rF_96 hC z12, ?_⟩
    refine ⟨rK_LS hC z12, ?_⟩
    refine us_size (rL_LS hC z12) ?_
    replace h := h _ rfl
    refine ⟨fun c => ?_, fun c => ?_⟩
    · replace h := h.1 c
      exact u_X2_copyFrom_b71 hSt hQ hC hP h
    · replace h := h.2 c
      refine ⟨rK_Hill hC z02, ?_⟩
      refine ⟨_, rF_96 hC z02, ?_⟩
      refine ⟨rK_LS hC z02, ?_⟩
      refine us_size (rL_LS hC z02) ?_
      replace h := h _ rfl
      refine ⟨fun c => ?_, fun c => ?_⟩
      · replace h := h.1 c
        exact u_X2_copyFrom_b71 hSt hQ hC hP h
      · replace h := h.2 c
        refine ⟨rK_Hill hC z12, ?_⟩
        refine ⟨_, rF_96 hC z12, ?_⟩
        refine ⟨rK_LS hC z12, ?_⟩
        obtain ⟨hi, h⟩ := h
        obtain ⟨a111, ea111, h⟩ := vEx h
        have k_a111 := vp_lk hi ea111
        refine us_get (rL_LS hC z12) hi (congrArg (H 1 4) ea111) ?_
        refine ⟨rK_Soc hC z12 k_a111, ?_⟩
        refine ⟨rK_Hill hC z02, ?_⟩
        refine ⟨_, rF_96 hC z02, ?_⟩
        refine ⟨rK_LS hC z02, ?_⟩
        obtain ⟨hi, h⟩ := h
        obtain ⟨a114, ea114, h⟩ := vEx h
        have k_a114 := vp_lk hi ea114
        refine us_get (rL_LS hC z02) hi (congrArg (H 0 4) ea114) ?_
        refine ⟨rK_Soc hC z02 k_a114, ?_⟩
        refine ⟨rK_Soc hC z12 k_a111, ?_⟩
        refine u_X5_copyFrom (x0 := a111) (x1 := a114) hSt (fun S115 Z115 hC hP h => ?_) k_a111 k_a114 hC hP h
        intro x116 ex
        replace h := h x116 ex
        exact ih x116 _ _ hC hP h
def v_X2_copyFrom_b0 (E : eT) (Z : zT) (Q : zT → Prop) : Prop :=
  ∀ x101 : Int32, x101 = Z 0 64 0 →
  ∀ Z102 : zT, Z102 = u3 Z 1 64 0 x101 →
  ∀ x103 : Int32, x103 = Z102 0 68 0 →
  ∀ Z104 : zT, Z104 = u3 Z102 1 68 0 x103 →
  ∃ n9 : Nat, 
  v_X2_copyFrom_b18 E Q n9 (0 : Int32) Z104
set_option maxHeartbeats 1000000 in
theorem u_X2_copyFrom_b0 {Q : sT → Prop} {Q' : zT → Prop}  {S : sT} {Z : zT} (hSt : cSt P) (hQ : ∀ S Z, CC H E S Z → P S → Q' Z → Q S)   (hC : CC H E S Z) (hP : P S) (h : v_X2_copyFrom_b0 E Z Q') : w_X2_copyFrom_b0 (H 1 0 0) (H 0 0 0) S Q := by
  unfold v_X2_copyFrom_b0 at h
  unfold w_X2_copyFrom_b0
  refine ⟨rK_Hill hC z02, ?_⟩
  intro x101 ex
  replace h := h x101 (ex.trans (rI_64 hC z02 z01))
  refine ⟨rK_Hill hC z12, ?_⟩
  intro S102 eS
  obtain ⟨Z102, eZ, h⟩ := vEx h
  replace hC := wI_64 hC z12 z01 eS eZ
  replace hP := eS ▸ hSt _ 99 _ _ (by decide) hP
  clear eS eZ
  intro x103 ex
  replace h := h x103 (ex.trans (rI_68 hC z02 z01))
  intro S104 eS
  obtain ⟨Z104, eZ, h⟩ := vEx h
  replace hC := wI_68 hC z12 z01 eS eZ
  replace hP := eS ▸ hSt _ 100 _ _ (by decide) hP
  clear eS eZ
  obtain ⟨n9, h⟩ := h
  refine ⟨n9, ?_⟩
  exact u_X2_copyFrom_b18 hSt hQ n9 (0 : Int32) _ _ hC hP h
def v_X2_copyFrom (E : eT) (Z : zT) (Q : zT → Prop) : Prop :=
  v_X2_copyFrom_b0 E Z Q
set_option maxHeartbeats 1000000 in
theorem u_X2_copyFrom {Q : sT → Prop} {Q' : zT → Prop}  {S : sT} {Z : zT} (hSt : cSt P) (hQ : ∀ S Z, CC H E S Z → P S → Q' Z → Q S)   (hC : CC H E S Z) (hP : P S) (h : v_X2_copyFrom E Z Q') : w_X2_copyFrom (H 1 0 0) (H 0 0 0) S Q := by
  unfold v_X2_copyFrom at h
  unfold w_X2_copyFrom
  exact u_X2_copyFrom_b0 hSt hQ hC hP h
end
