section
variable {H : Nat → Nat → Nat → Nat} {E : eT} {P : sT → Prop} {w : Nat}
def v_X6_sumOfStones_b4 (E : eT)  (Q : Int32 → zT → Prop) : Nat → Int32 → Int32 → zT → Prop
  | 0 => fun _ _ _ => False
  | n + 1 => fun x1 x2 Z =>
    ∀ x104 : Int32, x104 = nI E.2.1 →
    ((x104 ≤ x2 →
    Q x1 Z) ∧
    (¬ x104 ≤ x2 →
    vp_in x2 E.2.1 ∧
    ∀ a109 : Nat, a109 = Int32.toNatClampNeg x2 →
    ∀ x110 : Int32, x110 = Z 0 15 a109 →
    ∀ x111 : Int32, x111 = x1 + x110 →
    ∀ x112 : Int32, x112 = x2 + 1 →
    v_X6_sumOfStones_b4 E Q n x111 x112 Z))
set_option maxHeartbeats 1000000 in
theorem u_X6_sumOfStones_b4 {Q : Int32 → sT → Prop} {Q' : Int32 → zT → Prop} (hSt : cSt P) (hQ : ∀ x S Z, CC H E S Z → P S → Q' x Z → Q x S)  : ∀ (n : Nat) (x1 : Int32) (x2 : Int32) (S : sT) (Z : zT), CC H E S Z → P S → v_X6_sumOfStones_b4 E  Q' n x1 x2 Z → w_X6_sumOfStones_b4  Q n (H 0 9 0) x1 x2 S := by
  intro n
  induction n with
  | zero => intro x1 x2 S Z  hC hP h; exact absurd h id
  | succ n ih =>
    intro x1 x2 S Z  hC hP h
    unfold v_X6_sumOfStones_b4 at h
    unfold w_X6_sumOfStones_b4
    refine ⟨rK_Sub hC, ?_⟩
    refine ⟨_, rF_224 hC, ?_⟩
    refine ⟨rK_Hill hC z02, ?_⟩
    refine ⟨_, rF_97 hC z02, ?_⟩
    refine ⟨rK_LF hC z02, ?_⟩
    refine us_size (rL_LF hC z02) ?_
    replace h := h _ rfl
    refine ⟨fun c => ?_, fun c => ?_⟩
    · replace h := h.1 c
      exact hQ _ _ _ hC hP h
    · replace h := h.2 c
      refine ⟨rK_Sub hC, ?_⟩
      refine ⟨_, rF_224 hC, ?_⟩
      refine ⟨rK_Hill hC z02, ?_⟩
      refine ⟨_, rF_97 hC z02, ?_⟩
      refine ⟨rK_LF hC z02, ?_⟩
      obtain ⟨hi, h⟩ := h
      obtain ⟨a109, ea109, h⟩ := vEx h
      have k_a109 := vp_lk hi ea109
      refine us_get (rL_LF hC z02) hi (congrArg (H 0 5) ea109) ?_
      refine ⟨rK_Fld hC z02 k_a109, ?_⟩
      intro x110 ex
      replace h := h x110 (ex.trans (rI_15 hC z02 k_a109))
      intro x111 ex
      replace h := h x111 ex
      intro x112 ex
      replace h := h x112 ex
      exact ih x111 x112 _ _ hC hP h
def v_X6_sumOfStones_b0 (E : eT) (Z : zT) (Q : Int32 → zT → Prop) : Prop :=
  ∃ n9 : Nat, 
  v_X6_sumOfStones_b4 E Q n9 (0 : Int32) (0 : Int32) Z
set_option maxHeartbeats 1000000 in
theorem u_X6_sumOfStones_b0 {Q : Int32 → sT → Prop} {Q' : Int32 → zT → Prop}  {S : sT} {Z : zT} (hSt : cSt P) (hQ : ∀ x S Z, CC H E S Z → P S → Q' x Z → Q x S)   (hC : CC H E S Z) (hP : P S) (h : v_X6_sumOfStones_b0 E Z Q') : w_X6_sumOfStones_b0 (H 0 9 0) S Q := by
  unfold v_X6_sumOfStones_b0 at h
  unfold w_X6_sumOfStones_b0
  obtain ⟨n9, h⟩ := h
  refine ⟨n9, ?_⟩
  exact u_X6_sumOfStones_b4 hSt hQ n9 (0 : Int32) (0 : Int32) _ _ hC hP h
def v_X6_sumOfStones (E : eT) (Z : zT) (Q : Int32 → zT → Prop) : Prop :=
  v_X6_sumOfStones_b0 E Z Q
set_option maxHeartbeats 1000000 in
theorem u_X6_sumOfStones {Q : Int32 → sT → Prop} {Q' : Int32 → zT → Prop}  {S : sT} {Z : zT} (hSt : cSt P) (hQ : ∀ x S Z, CC H E S Z → P S → Q' x Z → Q x S)   (hC : CC H E S Z) (hP : P S) (h : v_X6_sumOfStones E Z Q') : w_X6_sumOfStones (H 0 9 0) S Q := by
  unfold v_X6_sumOfStones at h
  unfold w_X6_sumOfStones
  exact u_X6_sumOfStones_b0 hSt hQ hC hP h
def v_X6_tryDays_b13 (E : eT)  (Q : zT → Prop) : Nat → Int32 → Int32 → zT → Prop
  | 0 => fun _ _ _ => False
  | n + 1 => fun x1 x2 Z =>
    ((x1 ≤ x2 →
    Q Z) ∧
    (¬ x1 ≤ x2 →
    ∀ x104 : Int32, x104 = Z 0 65 0 →
    ∀ x106 : Int32, x106 = Z 0 66 0 →
    ∀ x108 : Int32, x108 = Z 0 67 0 →
    v_X2_passDay E 1 x104 x106 x108 Z (fun Z109 =>
    ∀ x110 : Int32, x110 = x2 + 1 →
    v_X6_tryDays_b13 E Q n x1 x110 Z109)))
set_option maxHeartbeats 1000000 in
theorem u_X6_tryDays_b13 {Q : sT → Prop} {Q' : zT → Prop} (hSt : cSt P) (hQ : ∀ S Z, CC H E S Z → P S → Q' Z → Q S)  : ∀ (n : Nat) (x1 : Int32) (x2 : Int32) (S : sT) (Z : zT), CC H E S Z → P S → v_X6_tryDays_b13 E  Q' n x1 x2 Z → w_X6_tryDays_b13  Q n (H 0 9 0) x1 x2 S := by
  intro n
  induction n with
  | zero => intro x1 x2 S Z  hC hP h; exact absurd h id
  | succ n ih =>
    intro x1 x2 S Z  hC hP h
    unfold v_X6_tryDays_b13 at h
    unfold w_X6_tryDays_b13
    refine ⟨fun c => ?_, fun c => ?_⟩
    · replace h := h.1 c
      exact hQ _ _ hC hP h
    · replace h := h.2 c
      refine ⟨rK_Sub hC, ?_⟩
      refine ⟨_, rF_225 hC, ?_⟩
      refine ⟨_, rF_224 hC, ?_⟩
      refine ⟨rK_Hill hC z02, ?_⟩
      intro x104 ex
      replace h := h x104 (ex.trans (rI_65 hC z02 z01))
      refine ⟨_, rF_224 hC, ?_⟩
      refine ⟨rK_Hill hC z02, ?_⟩
      intro x106 ex
      replace h := h x106 (ex.trans (rI_66 hC z02 z01))
      refine ⟨_, rF_224 hC, ?_⟩
      refine ⟨rK_Hill hC z02, ?_⟩
      intro x108 ex
      replace h := h x108 (ex.trans (rI_67 hC z02 z01))
      refine ⟨rK_Hill hC z12, ?_⟩
      refine u_X2_passDay hSt (fun S109 Z109 hC hP h => ?_) z12 hC hP h
      intro x110 ex
      replace h := h x110 ex
      exact ih x1 x110 _ _ hC hP h
def v_X6_tryDays_b0 (E : eT) (x1 : Int32) (Z : zT) (Q : zT → Prop) : Prop :=
  v_X2_copyFrom E Z (fun Z103 =>
  ∃ n9 : Nat, 
  v_X6_tryDays_b13 E Q n9 x1 (0 : Int32) Z103)
set_option maxHeartbeats 1000000 in
theorem u_X6_tryDays_b0 {Q : sT → Prop} {Q' : zT → Prop} {x1 : Int32} {S : sT} {Z : zT} (hSt : cSt P) (hQ : ∀ S Z, CC H E S Z → P S → Q' Z → Q S)   (hC : CC H E S Z) (hP : P S) (h : v_X6_tryDays_b0 E x1 Z Q') : w_X6_tryDays_b0 (H 0 9 0) x1 S Q := by
  unfold v_X6_tryDays_b0 at h
  unfold w_X6_tryDays_b0
  refine ⟨rK_Sub hC, ?_⟩
  refine ⟨_, rF_225 hC, ?_⟩
  refine ⟨_, rF_224 hC, ?_⟩
  refine ⟨rK_Hill hC z12, ?_⟩
  refine u_X2_copyFrom hSt (fun S103 Z103 hC hP h => ?_) hC hP h
  obtain ⟨n9, h⟩ := h
  refine ⟨n9, ?_⟩
  exact u_X6_tryDays_b13 hSt hQ n9 x1 (0 : Int32) _ _ hC hP h
def v_X6_tryDays (E : eT) (x1 : Int32) (Z : zT) (Q : zT → Prop) : Prop :=
  v_X6_tryDays_b0 E x1 Z Q
set_option maxHeartbeats 1000000 in
theorem u_X6_tryDays {Q : sT → Prop} {Q' : zT → Prop} {x1 : Int32} {S : sT} {Z : zT} (hSt : cSt P) (hQ : ∀ S Z, CC H E S Z → P S → Q' Z → Q S)   (hC : CC H E S Z) (hP : P S) (h : v_X6_tryDays E x1 Z Q') : w_X6_tryDays (H 0 9 0) x1 S Q := by
  unfold v_X6_tryDays at h
  unfold w_X6_tryDays
  exact u_X6_tryDays_b0 hSt hQ hC hP h
def v_X6_yieldByPlan_b14 (E : eT)  (Q : Int32 → zT → Prop) : Nat → Int32 → Int32 → Int32 → Int32 → zT → Prop
  | 0 => fun _ _ _ _ _ => False
  | n + 1 => fun x1 x2 x3 x4 Z =>
    ((x3 ≤ x4 →
    v_X2_sumOfYields E 1 Z (fun x104 Z103 =>
    Q x104 Z103)) ∧
    (¬ x3 ≤ x4 →
    v_X2_plantByPlan E 1 x1 x2 x4 Z (fun Z106 =>
    ∀ x109 : Int32, x109 = Z106 0 65 0 →
    ∀ x111 : Int32, x111 = Z106 0 66 0 →
    ∀ x113 : Int32, x113 = Z106 0 67 0 →
    v_X2_passDay E 1 x109 x111 x113 Z106 (fun Z114 =>
    ∀ x115 : Int32, x115 = x4 + 1 →
    v_X6_yieldByPlan_b14 E Q n x1 x2 x3 x115 Z114))))
set_option maxHeartbeats 1000000 in
theorem u_X6_yieldByPlan_b14 {Q : Int32 → sT → Prop} {Q' : Int32 → zT → Prop} (hSt : cSt P) (hQ : ∀ x S Z, CC H E S Z → P S → Q' x Z → Q x S)  : ∀ (n : Nat) (x1 : Int32) (x2 : Int32) (x3 : Int32) (x4 : Int32) (S : sT) (Z : zT), CC H E S Z → P S → v_X6_yieldByPlan_b14 E  Q' n x1 x2 x3 x4 Z → w_X6_yieldByPlan_b14  Q n (H 0 9 0) x1 x2 x3 x4 S := by
  intro n
  induction n with
  | zero => intro x1 x2 x3 x4 S Z  hC hP h; exact absurd h id
  | succ n ih =>
    intro x1 x2 x3 x4 S Z  hC hP h
    unfold v_X6_yieldByPlan_b14 at h
    unfold w_X6_yieldByPlan_b14
    refine ⟨fun c => ?_, fun c => ?_⟩
    · replace h := h.1 c
      refine ⟨rK_Sub hC, ?_⟩
      refine ⟨_, rF_225 hC, ?_⟩
      refine ⟨rK_Hill hC z12, ?_⟩
      refine u_X2_sumOfYields hSt (fun x104 S103 Z103 hC hP h => ?_) z12 hC hP h
      exact hQ _ _ _ hC hP h
    · replace h := h.2 c
      refine ⟨rK_Sub hC, ?_⟩
      refine ⟨_, rF_225 hC, ?_⟩
      refine ⟨rK_Hill hC z12, ?_⟩
      refine u_X2_plantByPlan hSt (fun S106 Z106 hC hP h => ?_) z12 hC hP h
      refine ⟨rK_Sub hC, ?_⟩
      refine ⟨_, rF_225 hC, ?_⟩
      refine ⟨_, rF_224 hC, ?_⟩
      refine ⟨rK_Hill hC z02, ?_⟩
      intro x109 ex
      replace h := h x109 (ex.trans (rI_65 hC z02 z01))
      refine ⟨_, rF_224 hC, ?_⟩
      refine ⟨rK_Hill hC z02, ?_⟩
      intro x111 ex
      replace h := h x111 (ex.trans (rI_66 hC z02 z01))
      refine ⟨_, rF_224 hC, ?_⟩
      refine ⟨rK_Hill hC z02, ?_⟩
      intro x113 ex
      replace h := h x113 (ex.trans (rI_67 hC z02 z01))
      refine ⟨rK_Hill hC z12, ?_⟩
      refine u_X2_passDay hSt (fun S114 Z114 hC hP h => ?_) z12 hC hP h
      intro x115 ex
      replace h := h x115 ex
      exact ih x1 x2 x3 x115 _ _ hC hP h
def v_X6_yieldByPlan_b0 (E : eT) (x1 : Int32) (x2 : Int32) (x3 : Int32) (Z : zT) (Q : Int32 → zT → Prop) : Prop :=
  v_X2_copyFrom E Z (fun Z103 =>
  ∃ n9 : Nat, 
  v_X6_yieldByPlan_b14 E Q n9 x1 x2 x3 (0 : Int32) Z103)
set_option maxHeartbeats 1000000 in
theorem u_X6_yieldByPlan_b0 {Q : Int32 → sT → Prop} {Q' : Int32 → zT → Prop} {x1 : Int32} {x2 : Int32} {x3 : Int32} {S : sT} {Z : zT} (hSt : cSt P) (hQ : ∀ x S Z, CC H E S Z → P S → Q' x Z → Q x S)   (hC : CC H E S Z) (hP : P S) (h : v_X6_yieldByPlan_b0 E x1 x2 x3 Z Q') : w_X6_yieldByPlan_b0 (H 0 9 0) x1 x2 x3 S Q := by
  unfold v_X6_yieldByPlan_b0 at h
  unfold w_X6_yieldByPlan_b0
  refine ⟨rK_Sub hC, ?_⟩
  refine ⟨_, rF_225 hC, ?_⟩
  refine ⟨_, rF_224 hC, ?_⟩
  refine ⟨rK_Hill hC z12, ?_⟩
  refine u_X2_copyFrom hSt (fun S103 Z103 hC hP h => ?_) hC hP h
  obtain ⟨n9, h⟩ := h
  refine ⟨n9, ?_⟩
  exact u_X6_yieldByPlan_b14 hSt hQ n9 x1 x2 x3 (0 : Int32) _ _ hC hP h
def v_X6_yieldByPlan (E : eT) (x1 : Int32) (x2 : Int32) (x3 : Int32) (Z : zT) (Q : Int32 → zT → Prop) : Prop :=
  v_X6_yieldByPlan_b0 E x1 x2 x3 Z Q
set_option maxHeartbeats 1000000 in
theorem u_X6_yieldByPlan {Q : Int32 → sT → Prop} {Q' : Int32 → zT → Prop} {x1 : Int32} {x2 : Int32} {x3 : Int32} {S : sT} {Z : zT} (hSt : cSt P) (hQ : ∀ x S Z, CC H E S Z → P S → Q' x Z → Q x S)   (hC : CC H E S Z) (hP : P S) (h : v_X6_yieldByPlan E x1 x2 x3 Z Q') : w_X6_yieldByPlan (H 0 9 0) x1 x2 x3 S Q := by
  unfold v_X6_yieldByPlan at h
  unfold w_X6_yieldByPlan
  exact u_X6_yieldByPlan_b0 hSt hQ hC hP h
def v_X6_fieldAt_b18 (E : eT) (Z : zT) (Q : Nat → zT → Prop) : Prop :=
  False
set_option maxHeartbeats 1000000 in
theorem u_X6_fieldAt_b18 {Q : Nat → sT → Prop} {Q' : Nat → zT → Prop}  {S : sT} {Z : zT} (hSt : cSt P) (hQ : ∀ x S Z, x < E.2.1 → CC H E S Z → P S → Q' x Z → Q (H 0 5 x) S)   (hC : CC H E S Z) (hP : P S) (h : v_X6_fieldAt_b18 E Z Q') : w_X6_fieldAt_b18 S Q := by
  unfold v_X6_fieldAt_b18 at h
  unfold w_X6_fieldAt_b18
  exact h.elim
def v_X6_fieldAt_b0 (E : eT) (x1 : Int32) (Z : zT) (Q : Nat → zT → Prop) : Prop :=
  ((x1 < 0 →
  v_X6_fieldAt_b18 E Z Q) ∧
  (¬ x1 < 0 →
  ∀ x105 : Int32, x105 = nI E.2.1 →
  ((x1 < x105 →
  vp_in x1 E.2.1 ∧
  ∀ a110 : Nat, a110 = Int32.toNatClampNeg x1 →
  Q a110 Z) ∧
  (¬ x1 < x105 →
  v_X6_fieldAt_b18 E Z Q))))
set_option maxHeartbeats 1000000 in
theorem u_X6_fieldAt_b0 {Q : Nat → sT → Prop} {Q' : Nat → zT → Prop} {x1 : Int32} {S : sT} {Z : zT} (hSt : cSt P) (hQ : ∀ x S Z, x < E.2.1 → CC H E S Z → P S → Q' x Z → Q (H 0 5 x) S)   (hC : CC H E S Z) (hP : P S) (h : v_X6_fieldAt_b0 E x1 Z Q') : w_X6_fieldAt_b0 (H 0 9 0) x1 S Q := by
  unfold v_X6_fieldAt_b0 at h
  unfold w_X6_fieldAt_b0
  refine ⟨fun c => ?_, fun c => ?_⟩
  · replace h := h.1 c
    exact u_X6_fieldAt_b18 hSt hQ hC hP h
  · replace h := h.2 c
    refine ⟨rK_Sub hC, ?_⟩
    refine ⟨_, rF_224 hC, ?_⟩
    refine ⟨rK_Hill hC z02, ?_⟩
    refine ⟨_, rF_97 hC z02, ?_⟩
    refine ⟨rK_LF hC z02, ?_⟩
    refine us_size (rL_LF hC z02) ?_
    replace h := h _ rfl
    refine ⟨fun c => ?_, fun c => ?_⟩
    · replace h := h.1 c
      refine ⟨rK_Sub hC, ?_⟩
      refine ⟨_, rF_224 hC, ?_⟩
      refine ⟨rK_Hill hC z02, ?_⟩
      refine ⟨_, rF_97 hC z02, ?_⟩
      refine ⟨rK_LF hC z02, ?_⟩
      obtain ⟨hi, h⟩ := h
      obtain ⟨a110, ea110, h⟩ := vEx h
      have k_a110 := vp_lk hi ea110
      refine us_get (rL_LF hC z02) hi (congrArg (H 0 5) ea110) ?_
      refine ⟨rK_Fld hC z02 k_a110, ?_⟩
      exact hQ a110 _ _ k_a110 hC hP h
    · replace h := h.2 c
      exact u_X6_fieldAt_b18 hSt hQ hC hP h
def v_X6_fieldAt (E : eT) (x1 : Int32) (Z : zT) (Q : Nat → zT → Prop) : Prop :=
  v_X6_fieldAt_b0 E x1 Z Q
set_option maxHeartbeats 1000000 in
theorem u_X6_fieldAt {Q : Nat → sT → Prop} {Q' : Nat → zT → Prop} {x1 : Int32} {S : sT} {Z : zT} (hSt : cSt P) (hQ : ∀ x S Z, x < E.2.1 → CC H E S Z → P S → Q' x Z → Q (H 0 5 x) S)   (hC : CC H E S Z) (hP : P S) (h : v_X6_fieldAt E x1 Z Q') : w_X6_fieldAt (H 0 9 0) x1 S Q := by
  unfold v_X6_fieldAt at h
  unfold w_X6_fieldAt
  exact u_X6_fieldAt_b0 hSt hQ hC hP h
def v_X6_gate_b0 (E : eT) (x1 : Int32) (x2 : Int32) (Z : zT) (Q : Int32 → zT → Prop) : Prop :=
  v_X6_fieldAt E x1 Z (fun a102 Z101 =>
  ∀ x103 : Int32, x103 = Z101 0 12 a102 →
  (x2 = 0 ∨ x2 = 1) ∧
  ∀ Z105 : zT, Z105 = u3 Z101 0 12 a102 x2 →
  (x103 = 0 ∨ x103 = 1) ∧
  Q x103 Z105)
set_option maxHeartbeats 1000000 in
theorem u_X6_gate_b0 {Q : Int32 → sT → Prop} {Q' : Int32 → zT → Prop} {x1 : Int32} {x2 : Int32} {S : sT} {Z : zT} (hSt : cSt P) (hQ : ∀ x S Z, CC H E S Z → P S → Q' x Z → Q x S)   (hC : CC H E S Z) (hP : P S) (h : v_X6_gate_b0 E x1 x2 Z Q') : w_X6_gate_b0 (H 0 9 0) x1 x2 S Q := by
  unfold v_X6_gate_b0 at h
  unfold w_X6_gate_b0
  refine ⟨rK_Sub hC, ?_⟩
  refine u_X6_fieldAt hSt (fun a102 S101 Z101 k_a102 hC hP h => ?_) hC hP h
  refine ⟨rK_Fld hC z02 k_a102, ?_⟩
  intro x103 ex
  replace h := h x103 (ex.trans (rI_12 hC z02 k_a102))
  obtain ⟨hn, h⟩ := h
  refine ⟨hn, ?_⟩
  intro S105 eS
  obtain ⟨Z105, eZ, h⟩ := vEx h
  replace hC := wI_12 hC z02 k_a102 eS eZ
  replace hP := eS ▸ hSt _ 72 _ _ (by decide) hP
  clear eS eZ
  obtain ⟨hn, h⟩ := h
  refine ⟨hn, ?_⟩
  exact hQ _ _ _ hC hP h
def v_X6_gate (E : eT) (x1 : Int32) (x2 : Int32) (Z : zT) (Q : Int32 → zT → Prop) : Prop :=
  v_X6_gate_b0 E x1 x2 Z Q
set_option maxHeartbeats 1000000 in
theorem u_X6_gate {Q : Int32 → sT → Prop} {Q' : Int32 → zT → Prop} {x1 : Int32} {x2 : Int32} {S : sT} {Z : zT} (hSt : cSt P) (hQ : ∀ x S Z, CC H E S Z → P S → Q' x Z → Q x S)   (hC : CC H E S Z) (hP : P S) (h : v_X6_gate E x1 x2 Z Q') : w_X6_gate (H 0 9 0) x1 x2 S Q := by
  unfold v_X6_gate at h
  unfold w_X6_gate
  exact u_X6_gate_b0 hSt hQ hC hP h
def v_X6_stones_b0 (E : eT) (x1 : Int32) (x2 : Int32) (Z : zT) (Q : Int32 → zT → Prop) : Prop :=
  v_X6_fieldAt E x1 Z (fun a102 Z101 =>
  v_X6_isWithin E x2 (0 : Int32) (5 : Int32) Z101 (fun x104 Z103 =>
  ((¬ x104 = 0 →
  ∀ x106 : Int32, x106 = Z103 0 15 a102 →
  ∀ Z107 : zT, Z107 = u3 Z103 0 15 a102 x2 →
  Q x106 Z107) ∧
  (x104 = 0 →
  False))))
set_option maxHeartbeats 1000000 in
theorem u_X6_stones_b0 {Q : Int32 → sT → Prop} {Q' : Int32 → zT → Prop} {x1 : Int32} {x2 : Int32} {S : sT} {Z : zT} (hSt : cSt P) (hQ : ∀ x S Z, CC H E S Z → P S → Q' x Z → Q x S)   (hC : CC H E S Z) (hP : P S) (h : v_X6_stones_b0 E x1 x2 Z Q') : w_X6_stones_b0 (H 0 9 0) x1 x2 S Q := by
  unfold v_X6_stones_b0 at h
  unfold w_X6_stones_b0
  refine ⟨rK_Sub hC, ?_⟩
  refine u_X6_fieldAt hSt (fun a102 S101 Z101 k_a102 hC hP h => ?_) hC hP h
  refine u_X6_isWithin hSt (fun x104 S103 Z103 hC hP h => ?_) hC hP h
  refine ⟨fun c => ?_, fun c => ?_⟩
  · replace h := h.1 c
    refine ⟨rK_Fld hC z02 k_a102, ?_⟩
    intro x106 ex
    replace h := h x106 (ex.trans (rI_15 hC z02 k_a102))
    intro S107 eS
    obtain ⟨Z107, eZ, h⟩ := vEx h
    replace hC := wI_15 hC z02 k_a102 eS eZ
    replace hP := eS ▸ hSt _ 71 _ _ (by decide) hP
    clear eS eZ
    exact hQ _ _ _ hC hP h
  · replace h := h.2 c
    exact h.elim
def v_X6_stones (E : eT) (x1 : Int32) (x2 : Int32) (Z : zT) (Q : Int32 → zT → Prop) : Prop :=
  v_X6_stones_b0 E x1 x2 Z Q
set_option maxHeartbeats 1000000 in
theorem u_X6_stones {Q : Int32 → sT → Prop} {Q' : Int32 → zT → Prop} {x1 : Int32} {x2 : Int32} {S : sT} {Z : zT} (hSt : cSt P) (hQ : ∀ x S Z, CC H E S Z → P S → Q' x Z → Q x S)   (hC : CC H E S Z) (hP : P S) (h : v_X6_stones E x1 x2 Z Q') : w_X6_stones (H 0 9 0) x1 x2 S Q := by
  unfold v_X6_stones at h
  unfold w_X6_stones
  exact u_X6_stones_b0 hSt hQ hC hP h
def v_X6_societyAt_b18 (E : eT) (Z : zT) (Q : Nat → zT → Prop) : Prop :=
  False
set_option maxHeartbeats 1000000 in
theorem u_X6_societyAt_b18 {Q : Nat → sT → Prop} {Q' : Nat → zT → Prop}  {S : sT} {Z : zT} (hSt : cSt P) (hQ : ∀ x S Z, x < E.1 → CC H E S Z → P S → Q' x Z → Q (H 0 4 x) S)   (hC : CC H E S Z) (hP : P S) (h : v_X6_societyAt_b18 E Z Q') : w_X6_societyAt_b18 S Q := by
  unfold v_X6_societyAt_b18 at h
  unfold w_X6_societyAt_b18
  exact h.elim
def v_X6_societyAt_b0 (E : eT) (x1 : Int32) (Z : zT) (Q : Nat → zT → Prop) : Prop :=
  ((x1 < 0 →
  v_X6_societyAt_b18 E Z Q) ∧
  (¬ x1 < 0 →
  ∀ x105 : Int32, x105 = nI E.1 →
  ((x1 < x105 →
  vp_in x1 E.1 ∧
  ∀ a110 : Nat, a110 = Int32.toNatClampNeg x1 →
  Q a110 Z) ∧
  (¬ x1 < x105 →
  v_X6_societyAt_b18 E Z Q))))
set_option maxHeartbeats 1000000 in
theorem u_X6_societyAt_b0 {Q : Nat → sT → Prop} {Q' : Nat → zT → Prop} {x1 : Int32} {S : sT} {Z : zT} (hSt : cSt P) (hQ : ∀ x S Z, x < E.1 → CC H E S Z → P S → Q' x Z → Q (H 0 4 x) S)   (hC : CC H E S Z) (hP : P S) (h : v_X6_societyAt_b0 E x1 Z Q') : w_X6_societyAt_b0 (H 0 9 0) x1 S Q := by
  unfold v_X6_societyAt_b0 at h
  unfold w_X6_societyAt_b0
  refine ⟨fun c => ?_, fun c => ?_⟩
  · replace h := h.1 c
    exact u_X6_societyAt_b18 hSt hQ hC hP h
  · replace h := h.2 c
    refine ⟨rK_Sub hC, ?_⟩
    refine ⟨_, rF_224 hC, ?_⟩
    refine ⟨rK_Hill hC z02, ?_⟩
    refine ⟨_, rF_96 hC z02, ?_⟩
    refine ⟨rK_LS hC z02, ?_⟩
    refine us_size (rL_LS hC z02) ?_
    replace h := h _ rfl
    refine ⟨fun c => ?_, fun c => ?_⟩
    · replace h := h.1 c
      refine ⟨rK_Sub hC, ?_⟩
      refine ⟨_, rF_224 hC, ?_⟩
      refine ⟨rK_Hill hC z02, ?_⟩
      refine ⟨_, rF_96 hC z02, ?_⟩
      refine ⟨rK_LS hC z02, ?_⟩
      obtain ⟨hi, h⟩ := h
      obtain ⟨a110, ea110, h⟩ := vEx h
      have k_a110 := vp_lk hi ea110
      refine us_get (rL_LS hC z02) hi (congrArg (H 0 4) ea110) ?_
      refine ⟨rK_Soc hC z02 k_a110, ?_⟩
      exact hQ a110 _ _ k_a110 hC hP h
    · replace h := h.2 c
      exact u_X6_societyAt_b18 hSt hQ hC hP h
def v_X6_societyAt (E : eT) (x1 : Int32) (Z : zT) (Q : Nat → zT → Prop) : Prop :=
  v_X6_societyAt_b0 E x1 Z Q
set_option maxHeartbeats 1000000 in
theorem u_X6_societyAt {Q : Nat → sT → Prop} {Q' : Nat → zT → Prop} {x1 : Int32} {S : sT} {Z : zT} (hSt : cSt P) (hQ : ∀ x S Z, x < E.1 → CC H E S Z → P S → Q' x Z → Q (H 0 4 x) S)   (hC : CC H E S Z) (hP : P S) (h : v_X6_societyAt E x1 Z Q') : w_X6_societyAt (H 0 9 0) x1 S Q := by
  unfold v_X6_societyAt at h
  unfold w_X6_societyAt
  exact u_X6_societyAt_b0 hSt hQ hC hP h
def v_X6_rotate_b0 (E : eT) (x1 : Int32) (x2 : Int32) (Z : zT) (Q : Int32 → zT → Prop) : Prop :=
  v_X6_societyAt E x1 Z (fun a102 Z101 =>
  ∀ x103 : Int32, x103 = Z101 0 38 a102 →
  (x2 = 0 ∨ x2 = 1) ∧
  ∀ Z105 : zT, Z105 = u3 Z101 0 38 a102 x2 →
  (x103 = 0 ∨ x103 = 1) ∧
  Q x103 Z105)
set_option maxHeartbeats 1000000 in
theorem u_X6_rotate_b0 {Q : Int32 → sT → Prop} {Q' : Int32 → zT → Prop} {x1 : Int32} {x2 : Int32} {S : sT} {Z : zT} (hSt : cSt P) (hQ : ∀ x S Z, CC H E S Z → P S → Q' x Z → Q x S)   (hC : CC H E S Z) (hP : P S) (h : v_X6_rotate_b0 E x1 x2 Z Q') : w_X6_rotate_b0 (H 0 9 0) x1 x2 S Q := by
  unfold v_X6_rotate_b0 at h
  unfold w_X6_rotate_b0
  refine ⟨rK_Sub hC, ?_⟩
  refine u_X6_societyAt hSt (fun a102 S101 Z101 k_a102 hC hP h => ?_) hC hP h
  refine ⟨rK_Soc hC z02 k_a102, ?_⟩
  intro x103 ex
  replace h := h x103 (ex.trans (rI_38 hC z02 k_a102))
  obtain ⟨hn, h⟩ := h
  refine ⟨hn, ?_⟩
  intro S105 eS
  obtain ⟨Z105, eZ, h⟩ := vEx h
  replace hC := wI_38 hC z02 k_a102 eS eZ
  replace hP := eS ▸ hSt _ 202 _ _ (by decide) hP
  clear eS eZ
  obtain ⟨hn, h⟩ := h
  refine ⟨hn, ?_⟩
  exact hQ _ _ _ hC hP h
def v_X6_rotate (E : eT) (x1 : Int32) (x2 : Int32) (Z : zT) (Q : Int32 → zT → Prop) : Prop :=
  v_X6_rotate_b0 E x1 x2 Z Q
set_option maxHeartbeats 1000000 in
theorem u_X6_rotate {Q : Int32 → sT → Prop} {Q' : Int32 → zT → Prop} {x1 : Int32} {x2 : Int32} {S : sT} {Z : zT} (hSt : cSt P) (hQ : ∀ x S Z, CC H E S Z → P S → Q' x Z → Q x S)   (hC : CC H E S Z) (hP : P S) (h : v_X6_rotate E x1 x2 Z Q') : w_X6_rotate (H 0 9 0) x1 x2 S Q := by
  unfold v_X6_rotate at h
  unfold w_X6_rotate
  exact u_X6_rotate_b0 hSt hQ hC hP h
def v_X6_puddle_b25 (E : eT) (Z : zT) (Q : Int32 → zT → Prop) : Prop :=
  False
set_option maxHeartbeats 1000000 in
theorem u_X6_puddle_b25 {Q : Int32 → sT → Prop} {Q' : Int32 → zT → Prop}  {S : sT} {Z : zT} (hSt : cSt P) (hQ : ∀ x S Z, CC H E S Z → P S → Q' x Z → Q x S)   (hC : CC H E S Z) (hP : P S) (h : v_X6_puddle_b25 E Z Q') : w_X6_puddle_b25 S Q := by
  unfold v_X6_puddle_b25 at h
  unfold w_X6_puddle_b25
  exact h.elim
def v_X6_puddle_b0 (E : eT) (x1 : Int32) (Z : zT) (Q : Int32 → zT → Prop) : Prop :=
  v_X6_fieldAt E x1 Z (fun a102 Z101 =>
  ∀ x104 : Int32, x104 = Z101 0 4 a102 →
  ((¬ x104 = 0 →
  v_X6_puddle_b25 E Z101 Q) ∧
  (x104 = 0 →
  ∀ x106 : Int32, x106 = Z101 0 1 a102 →
  (((10 : Int32) ≤ x106 →
  ∀ Z109 : zT, Z109 = u3 Z101 0 4 a102 (1 : Int32) →
  ∀ Z110 : zT, Z110 = u3 Z109 0 2 a102 (0 : Int32) →
  ∀ x111 : Int32, x111 = Z110 0 1 a102 →
  Q x111 Z110) ∧
  (¬ (10 : Int32) ≤ x106 →
  v_X6_puddle_b25 E Z101 Q)))))
set_option maxHeartbeats 1000000 in
theorem u_X6_puddle_b0 {Q : Int32 → sT → Prop} {Q' : Int32 → zT → Prop} {x1 : Int32} {S : sT} {Z : zT} (hSt : cSt P) (hQ : ∀ x S Z, CC H E S Z → P S → Q' x Z → Q x S)   (hC : CC H E S Z) (hP : P S) (h : v_X6_puddle_b0 E x1 Z Q') : w_X6_puddle_b0 (H 0 9 0) x1 S Q := by
  unfold v_X6_puddle_b0 at h
  unfold w_X6_puddle_b0
  refine ⟨rK_Sub hC, ?_⟩
  refine u_X6_fieldAt hSt (fun a102 S101 Z101 k_a102 hC hP h => ?_) hC hP h
  refine ⟨rK_Fld hC z02 k_a102, ?_⟩
  refine ⟨_, rF_69 hC z02 k_a102, ?_⟩
  refine ⟨rK_Crp hC z02 k_a102, ?_⟩
  intro x104 ex
  replace h := h x104 (ex.trans (rI_4 hC z02 k_a102))
  refine ⟨fun c => ?_, fun c => ?_⟩
  · replace h := h.1 c
    exact u_X6_puddle_b25 hSt hQ hC hP h
  · replace h := h.2 c
    intro x106 ex
    replace h := h x106 (ex.trans (rI_1 hC z02 k_a102))
    refine ⟨fun c => ?_, fun c => ?_⟩
    · replace h := h.1 c
      refine ⟨_, rF_69 hC z02 k_a102, ?_⟩
      refine ⟨rK_Crp hC z02 k_a102, ?_⟩
      intro S109 eS
      obtain ⟨Z109, eZ, h⟩ := vEx h
      replace hC := wI_4 hC z02 k_a102 eS eZ
      replace hP := eS ▸ hSt _ 32 _ _ (by decide) hP
      clear eS eZ
      intro S110 eS
      obtain ⟨Z110, eZ, h⟩ := vEx h
      replace hC := wI_2 hC z02 k_a102 eS eZ
      replace hP := eS ▸ hSt _ 74 _ _ (by decide) hP
      clear eS eZ
      intro x111 ex
      replace h := h x111 (ex.trans (rI_1 hC z02 k_a102))
      exact hQ _ _ _ hC hP h
    · replace h := h.2 c
      exact u_X6_puddle_b25 hSt hQ hC hP h
def v_X6_puddle (E : eT) (x1 : Int32) (Z : zT) (Q : Int32 → zT → Prop) : Prop :=
  v_X6_puddle_b0 E x1 Z Q
set_option maxHeartbeats 1000000 in
theorem u_X6_puddle {Q : Int32 → sT → Prop} {Q' : Int32 → zT → Prop} {x1 : Int32} {S : sT} {Z : zT} (hSt : cSt P) (hQ : ∀ x S Z, CC H E S Z → P S → Q' x Z → Q x S)   (hC : CC H E S Z) (hP : P S) (h : v_X6_puddle E x1 Z Q') : w_X6_puddle (H 0 9 0) x1 S Q := by
  unfold v_X6_puddle at h
  unfold w_X6_puddle
  exact u_X6_puddle_b0 hSt hQ hC hP h
def v_X6_checkKind_b0 (E : eT) (x0 : Int32) (Z : zT) (Q : zT → Prop) : Prop :=
  v_X6_isWithin E x0 (0 : Int32) (2 : Int32) Z (fun x102 Z101 =>
  ((¬ x102 = 0 →
  Q Z101) ∧
  (x102 = 0 →
  False)))
set_option maxHeartbeats 1000000 in
theorem u_X6_checkKind_b0 {Q : sT → Prop} {Q' : zT → Prop} {x0 : Int32} {S : sT} {Z : zT} (hSt : cSt P) (hQ : ∀ S Z, CC H E S Z → P S → Q' Z → Q S)   (hC : CC H E S Z) (hP : P S) (h : v_X6_checkKind_b0 E x0 Z Q') : w_X6_checkKind_b0 x0 S Q := by
  unfold v_X6_checkKind_b0 at h
  unfold w_X6_checkKind_b0
  refine u_X6_isWithin hSt (fun x102 S101 Z101 hC hP h => ?_) hC hP h
  refine ⟨fun c => ?_, fun c => ?_⟩
  · replace h := h.1 c
    exact hQ _ _ hC hP h
  · replace h := h.2 c
    exact h.elim
def v_X6_checkKind (E : eT) (x0 : Int32) (Z : zT) (Q : zT → Prop) : Prop :=
  v_X6_checkKind_b0 E x0 Z Q
set_option maxHeartbeats 1000000 in
theorem u_X6_checkKind {Q : sT → Prop} {Q' : zT → Prop} {x0 : Int32} {S : sT} {Z : zT} (hSt : cSt P) (hQ : ∀ S Z, CC H E S Z → P S → Q' Z → Q S)   (hC : CC H E S Z) (hP : P S) (h : v_X6_checkKind E x0 Z Q') : w_X6_checkKind x0 S Q := by
  unfold v_X6_checkKind at h
  unfold w_X6_checkKind
  exact u_X6_checkKind_b0 hSt hQ hC hP h
def v_X6_plant_b42 (E : eT) (Z : zT) (Q : Int32 → zT → Prop) : Prop :=
  False
set_option maxHeartbeats 1000000 in
theorem u_X6_plant_b42 {Q : Int32 → sT → Prop} {Q' : Int32 → zT → Prop}  {S : sT} {Z : zT} (hSt : cSt P) (hQ : ∀ x S Z, CC H E S Z → P S → Q' x Z → Q x S)   (hC : CC H E S Z) (hP : P S) (h : v_X6_plant_b42 E Z Q') : w_X6_plant_b42 S Q := by
  unfold v_X6_plant_b42 at h
  unfold w_X6_plant_b42
  exact h.elim
def v_X6_plant_b0 (E : eT) (x1 : Int32) (x2 : Int32) (Z : zT) (Q : Int32 → zT → Prop) : Prop :=
  v_X6_fieldAt E x1 Z (fun a102 Z101 =>
  v_X6_checkKind E x2 Z101 (fun Z103 =>
  ∀ x105 : Int32, x105 = Z103 0 4 a102 →
  ((¬ x105 = (1 : Int32) →
  v_X6_plant_b42 E Z103 Q) ∧
  (x105 = (1 : Int32) →
  v_X2_isDark E 0 Z103 (fun x109 Z108 =>
  ((¬ x109 = 0 →
  v_X6_plant_b42 E Z108 Q) ∧
  (x109 = 0 →
  ∀ x112 : Int32, x112 = Z108 0 10 a102 →
  (((3 : Int32) ≤ x112 →
  v_X0_begin E 0 a102 x2 Z108 (fun Z115 =>
  ∀ x117 : Int32, x117 = Z115 0 64 0 →
  Q x117 Z115)) ∧
  (¬ (3 : Int32) ≤ x112 →
  v_X6_plant_b42 E Z108 Q)))))))))
set_option maxHeartbeats 1000000 in
theorem u_X6_plant_b0 {Q : Int32 → sT → Prop} {Q' : Int32 → zT → Prop} {x1 : Int32} {x2 : Int32} {S : sT} {Z : zT} (hSt : cSt P) (hQ : ∀ x S Z, CC H E S Z → P S → Q' x Z → Q x S)   (hC : CC H E S Z) (hP : P S) (h : v_X6_plant_b0 E x1 x2 Z Q') : w_X6_plant_b0 (H 0 9 0) x1 x2 S Q := by
  unfold v_X6_plant_b0 at h
  unfold w_X6_plant_b0
  refine ⟨rK_Sub hC, ?_⟩
  refine u_X6_fieldAt hSt (fun a102 S101 Z101 k_a102 hC hP h => ?_) hC hP h
  refine u_X6_checkKind hSt (fun S103 Z103 hC hP h => ?_) hC hP h
  refine ⟨rK_Fld hC z02 k_a102, ?_⟩
  refine ⟨_, rF_69 hC z02 k_a102, ?_⟩
  refine ⟨rK_Crp hC z02 k_a102, ?_⟩
  intro x105 ex
  replace h := h x105 (ex.trans (rI_4 hC z02 k_a102))
  refine ⟨fun c => ?_, fun c => ?_⟩
  · replace h := h.1 c
    exact u_X6_plant_b42 hSt hQ hC hP h
  · replace h := h.2 c
    refine ⟨rK_Sub hC, ?_⟩
    refine ⟨_, rF_224 hC, ?_⟩
    refine ⟨rK_Hill hC z02, ?_⟩
    refine u_X2_isDark hSt (fun x109 S108 Z108 hC hP h => ?_) z02 hC hP h
    refine ⟨fun c => ?_, fun c => ?_⟩
    · replace h := h.1 c
      exact u_X6_plant_b42 hSt hQ hC hP h
    · replace h := h.2 c
      refine ⟨rK_Fld hC z02 k_a102, ?_⟩
      refine ⟨_, rF_69 hC z02 k_a102, ?_⟩
      refine ⟨rK_Crp hC z02 k_a102, ?_⟩
      intro x112 ex
      replace h := h x112 (ex.trans (rI_10 hC z02 k_a102))
      refine ⟨fun c => ?_, fun c => ?_⟩
      · replace h := h.1 c
        refine ⟨_, rF_69 hC z02 k_a102, ?_⟩
        refine ⟨rK_Crp hC z02 k_a102, ?_⟩
        refine u_X0_begin (x0 := a102) hSt (fun S115 Z115 hC hP h => ?_) z02 k_a102 hC hP h
        refine ⟨rK_Sub hC, ?_⟩
        refine ⟨_, rF_224 hC, ?_⟩
        refine ⟨rK_Hill hC z02, ?_⟩
        intro x117 ex
        replace h := h x117 (ex.trans (rI_64 hC z02 z01))
        exact hQ _ _ _ hC hP h
      · replace h := h.2 c
        exact u_X6_plant_b42 hSt hQ hC hP h
def v_X6_plant (E : eT) (x1 : Int32) (x2 : Int32) (Z : zT) (Q : Int32 → zT → Prop) : Prop :=
  v_X6_plant_b0 E x1 x2 Z Q
set_option maxHeartbeats 1000000 in
theorem u_X6_plant {Q : Int32 → sT → Prop} {Q' : Int32 → zT → Prop} {x1 : Int32} {x2 : Int32} {S : sT} {Z : zT} (hSt : cSt P) (hQ : ∀ x S Z, CC H E S Z → P S → Q' x Z → Q x S)   (hC : CC H E S Z) (hP : P S) (h : v_X6_plant E x1 x2 Z Q') : w_X6_plant (H 0 9 0) x1 x2 S Q := by
  unfold v_X6_plant at h
  unfold w_X6_plant
  exact u_X6_plant_b0 hSt hQ hC hP h
def v_X6_help_b0 (E : eT) (x1 : Int32) (x2 : Int32) (Z : zT) (Q : Int32 → zT → Prop) : Prop :=
  v_X6_fieldAt E x1 Z (fun a102 Z101 =>
  v_X6_fieldAt E x2 Z101 (fun a105 Z104 =>
  ∀ x106 : Int32, x106 = Z104 0 18 a102 →
  ∀ x107 : Int32, x107 = x106 + (1 : Int32) →
  ∀ Z108 : zT, Z108 = u3 Z104 0 18 a102 x107 →
  ∀ x110 : Int32, x110 = Z108 0 18 a105 →
  ∀ x111 : Int32, x111 = x110 - (1 : Int32) →
  ∀ Z112 : zT, Z112 = u3 Z108 0 18 a105 x111 →
  ∀ x114 : Int32, x114 = Z112 0 10 a105 →
  ∀ x115 : Int32, x115 = x114 + (1 : Int32) →
  ∀ Z116 : zT, Z116 = u3 Z112 0 10 a105 x115 →
  ∀ x118 : Int32, x118 = Z116 0 10 a105 →
  Q x118 Z116))
set_option maxHeartbeats 1000000 in
theorem u_X6_help_b0 {Q : Int32 → sT → Prop} {Q' : Int32 → zT → Prop} {x1 : Int32} {x2 : Int32} {S : sT} {Z : zT} (hSt : cSt P) (hQ : ∀ x S Z, CC H E S Z → P S → Q' x Z → Q x S)   (hC : CC H E S Z) (hP : P S) (h : v_X6_help_b0 E x1 x2 Z Q') : w_X6_help_b0 (H 0 9 0) x1 x2 S Q := by
  unfold v_X6_help_b0 at h
  unfold w_X6_help_b0
  refine ⟨rK_Sub hC, ?_⟩
  refine u_X6_fieldAt hSt (fun a102 S101 Z101 k_a102 hC hP h => ?_) hC hP h
  refine ⟨rK_Fld hC z02 k_a102, ?_⟩
  refine ⟨_, rF_68 hC z02 k_a102, ?_⟩
  refine ⟨rK_Sub hC, ?_⟩
  refine u_X6_fieldAt hSt (fun a105 S104 Z104 k_a105 hC hP h => ?_) hC hP h
  refine ⟨rK_Own hC z02 k_a102, ?_⟩
  intro x106 ex
  replace h := h x106 (ex.trans (rI_18 hC z02 k_a102))
  intro x107 ex
  replace h := h x107 ex
  intro S108 eS
  obtain ⟨Z108, eZ, h⟩ := vEx h
  replace hC := wI_18 hC z02 k_a102 eS eZ
  replace hP := eS ▸ hSt _ 161 _ _ (by decide) hP
  clear eS eZ
  refine ⟨rK_Fld hC z02 k_a105, ?_⟩
  refine ⟨_, rF_68 hC z02 k_a105, ?_⟩
  refine ⟨rK_Own hC z02 k_a105, ?_⟩
  intro x110 ex
  replace h := h x110 (ex.trans (rI_18 hC z02 k_a105))
  intro x111 ex
  replace h := h x111 ex
  intro S112 eS
  obtain ⟨Z112, eZ, h⟩ := vEx h
  replace hC := wI_18 hC z02 k_a105 eS eZ
  replace hP := eS ▸ hSt _ 161 _ _ (by decide) hP
  clear eS eZ
  refine ⟨_, rF_69 hC z02 k_a105, ?_⟩
  refine ⟨rK_Crp hC z02 k_a105, ?_⟩
  intro x114 ex
  replace h := h x114 (ex.trans (rI_10 hC z02 k_a105))
  intro x115 ex
  replace h := h x115 ex
  intro S116 eS
  obtain ⟨Z116, eZ, h⟩ := vEx h
  replace hC := wI_10 hC z02 k_a105 eS eZ
  replace hP := eS ▸ hSt _ 37 _ _ (by decide) hP
  clear eS eZ
  refine ⟨_, rF_69 hC z02 k_a105, ?_⟩
  refine ⟨rK_Crp hC z02 k_a105, ?_⟩
  intro x118 ex
  replace h := h x118 (ex.trans (rI_10 hC z02 k_a105))
  exact hQ _ _ _ hC hP h
def v_X6_help (E : eT) (x1 : Int32) (x2 : Int32) (Z : zT) (Q : Int32 → zT → Prop) : Prop :=
  v_X6_help_b0 E x1 x2 Z Q
set_option maxHeartbeats 1000000 in
theorem u_X6_help {Q : Int32 → sT → Prop} {Q' : Int32 → zT → Prop} {x1 : Int32} {x2 : Int32} {S : sT} {Z : zT} (hSt : cSt P) (hQ : ∀ x S Z, CC H E S Z → P S → Q' x Z → Q x S)   (hC : CC H E S Z) (hP : P S) (h : v_X6_help E x1 x2 Z Q') : w_X6_help (H 0 9 0) x1 x2 S Q := by
  unfold v_X6_help at h
  unfold w_X6_help
  exact u_X6_help_b0 hSt hQ hC hP h
def v_X6_ducks_b0 (E : eT) (x1 : Int32) (x2 : Int32) (Z : zT) (Q : Int32 → zT → Prop) : Prop :=
  v_X6_fieldAt E x1 Z (fun a102 Z101 =>
  (x2 = 0 ∨ x2 = 1) ∧
  ∀ Z104 : zT, Z104 = u3 Z101 0 16 a102 x2 →
  ∀ x105 : Int32, x105 = Z104 0 8 a102 →
  Q x105 Z104)
set_option maxHeartbeats 1000000 in
theorem u_X6_ducks_b0 {Q : Int32 → sT → Prop} {Q' : Int32 → zT → Prop} {x1 : Int32} {x2 : Int32} {S : sT} {Z : zT} (hSt : cSt P) (hQ : ∀ x S Z, CC H E S Z → P S → Q' x Z → Q x S)   (hC : CC H E S Z) (hP : P S) (h : v_X6_ducks_b0 E x1 x2 Z Q') : w_X6_ducks_b0 (H 0 9 0) x1 x2 S Q := by
  unfold v_X6_ducks_b0 at h
  unfold w_X6_ducks_b0
  refine ⟨rK_Sub hC, ?_⟩
  refine u_X6_fieldAt hSt (fun a102 S101 Z101 k_a102 hC hP h => ?_) hC hP h
  refine ⟨rK_Fld hC z02 k_a102, ?_⟩
  obtain ⟨hn, h⟩ := h
  refine ⟨hn, ?_⟩
  intro S104 eS
  obtain ⟨Z104, eZ, h⟩ := vEx h
  replace hC := wI_16 hC z02 k_a102 eS eZ
  replace hP := eS ▸ hSt _ 77 _ _ (by decide) hP
  clear eS eZ
  intro x105 ex
  replace h := h x105 (ex.trans (rI_8 hC z02 k_a102))
  exact hQ _ _ _ hC hP h
def v_X6_ducks (E : eT) (x1 : Int32) (x2 : Int32) (Z : zT) (Q : Int32 → zT → Prop) : Prop :=
  v_X6_ducks_b0 E x1 x2 Z Q
set_option maxHeartbeats 1000000 in
theorem u_X6_ducks {Q : Int32 → sT → Prop} {Q' : Int32 → zT → Prop} {x1 : Int32} {x2 : Int32} {S : sT} {Z : zT} (hSt : cSt P) (hQ : ∀ x S Z, CC H E S Z → P S → Q' x Z → Q x S)   (hC : CC H E S Z) (hP : P S) (h : v_X6_ducks E x1 x2 Z Q') : w_X6_ducks (H 0 9 0) x1 x2 S Q := by
  unfold v_X6_ducks at h
  unfold w_X6_ducks
  exact u_X6_ducks_b0 hSt hQ hC hP h
def v_X6_ripeFieldAt_b0 (E : eT) (x1 : Int32) (Z : zT) (Q : Nat → zT → Prop) : Prop :=
  v_X6_fieldAt E x1 Z (fun a102 Z101 =>
  ∀ x104 : Int32, x104 = Z101 0 4 a102 →
  ((x104 = (5 : Int32) →
  Q a102 Z101) ∧
  (¬ x104 = (5 : Int32) →
  False)))
set_option maxHeartbeats 1000000 in
theorem u_X6_ripeFieldAt_b0 {Q : Nat → sT → Prop} {Q' : Nat → zT → Prop} {x1 : Int32} {S : sT} {Z : zT} (hSt : cSt P) (hQ : ∀ x S Z, x < E.2.1 → CC H E S Z → P S → Q' x Z → Q (H 0 5 x) S)   (hC : CC H E S Z) (hP : P S) (h : v_X6_ripeFieldAt_b0 E x1 Z Q') : w_X6_ripeFieldAt_b0 (H 0 9 0) x1 S Q := by
  unfold v_X6_ripeFieldAt_b0 at h
  unfold w_X6_ripeFieldAt_b0
  refine ⟨rK_Sub hC, ?_⟩
  refine u_X6_fieldAt hSt (fun a102 S101 Z101 k_a102 hC hP h => ?_) hC hP h
  refine ⟨rK_Fld hC z02 k_a102, ?_⟩
  refine ⟨_, rF_69 hC z02 k_a102, ?_⟩
  refine ⟨rK_Crp hC z02 k_a102, ?_⟩
  intro x104 ex
  replace h := h x104 (ex.trans (rI_4 hC z02 k_a102))
  refine ⟨fun c => ?_, fun c => ?_⟩
  · replace h := h.1 c
    exact hQ a102 _ _ k_a102 hC hP h
  · replace h := h.2 c
    exact h.elim
def v_X6_ripeFieldAt (E : eT) (x1 : Int32) (Z : zT) (Q : Nat → zT → Prop) : Prop :=
  v_X6_ripeFieldAt_b0 E x1 Z Q
set_option maxHeartbeats 1000000 in
theorem u_X6_ripeFieldAt {Q : Nat → sT → Prop} {Q' : Nat → zT → Prop} {x1 : Int32} {S : sT} {Z : zT} (hSt : cSt P) (hQ : ∀ x S Z, x < E.2.1 → CC H E S Z → P S → Q' x Z → Q (H 0 5 x) S)   (hC : CC H E S Z) (hP : P S) (h : v_X6_ripeFieldAt E x1 Z Q') : w_X6_ripeFieldAt (H 0 9 0) x1 S Q := by
  unfold v_X6_ripeFieldAt at h
  unfold w_X6_ripeFieldAt
  exact u_X6_ripeFieldAt_b0 hSt hQ hC hP h
def v_X6_harvest_b0 (E : eT) (x1 : Int32) (x2 : Int32) (Z : zT) (Q : Int32 → zT → Prop) : Prop :=
  v_X6_ripeFieldAt E x1 Z (fun a102 Z101 =>
  v_X0_ripeYield E 0 a102 Z101 (fun x105 Z104 =>
  ∀ x106 : Int32, x106 = x105 / (10 : Int32) →
  ∀ a107 : Nat, a107 = E.2.2 a102 →
  ∀ x108 : Int32, x108 = Z104 0 36 a107 →
  ∀ x109 : Int32, x109 = x108 + x106 →
  ∀ Z110 : zT, Z110 = u3 Z104 0 36 a107 x109 →
  ∀ a111 : Nat, a111 = E.2.2 a102 →
  ∀ x112 : Int32, x112 = Z110 0 40 a111 →
  ∀ x113 : Int32, x113 = x112 + x105 →
  ∀ Z114 : zT, Z114 = u3 Z110 0 40 a111 x113 →
  ∀ x116 : Int32, x116 = Z114 0 19 a102 →
  ∀ x117 : Int32, x117 = x105 - x106 →
  ∀ x118 : Int32, x118 = x116 + x117 →
  ∀ Z119 : zT, Z119 = u3 Z114 0 19 a102 x118 →
  ∀ x121 : Int32, x121 = Z119 0 74 0 →
  ∀ x122 : Int32, x122 = x121 + x105 →
  ∀ Z123 : zT, Z123 = u3 Z119 0 74 0 x122 →
  v_X1_clear E 0 a102 x2 Z123 (fun Z124 =>
  Q x105 Z124)))
set_option maxHeartbeats 1000000 in
theorem u_X6_harvest_b0 {Q : Int32 → sT → Prop} {Q' : Int32 → zT → Prop} {x1 : Int32} {x2 : Int32} {S : sT} {Z : zT} (hSt : cSt P) (hQ : ∀ x S Z, CC H E S Z → P S → Q' x Z → Q x S)   (hC : CC H E S Z) (hP : P S) (h : v_X6_harvest_b0 E x1 x2 Z Q') : w_X6_harvest_b0 (H 0 9 0) x1 x2 S Q := by
  unfold v_X6_harvest_b0 at h
  unfold w_X6_harvest_b0
  refine ⟨rK_Sub hC, ?_⟩
  refine u_X6_ripeFieldAt hSt (fun a102 S101 Z101 k_a102 hC hP h => ?_) hC hP h
  refine ⟨rK_Fld hC z02 k_a102, ?_⟩
  refine ⟨_, rF_69 hC z02 k_a102, ?_⟩
  refine ⟨rK_Crp hC z02 k_a102, ?_⟩
  refine u_X0_ripeYield (x0 := a102) hSt (fun x105 S104 Z104 hC hP h => ?_) z02 k_a102 hC hP h
  intro x106 ex
  replace h := h x106 ex
  refine ⟨rK_Fld hC z02 k_a102, ?_⟩
  obtain ⟨a107, ea107, h⟩ := vEx h
  have k_a107 : a107 < E.1 := ea107.symm ▸ of_lt hC k_a102
  refine ⟨_, (rF_65 hC z02 k_a102).trans (congrArg (fun z => some (H 0 4 z)) ea107.symm), ?_⟩
  refine ⟨rK_Soc hC z02 k_a107, ?_⟩
  intro x108 ex
  replace h := h x108 (ex.trans (rI_36 hC z02 k_a107))
  intro x109 ex
  replace h := h x109 ex
  intro S110 eS
  obtain ⟨Z110, eZ, h⟩ := vEx h
  replace hC := wI_36 hC z02 k_a107 eS eZ
  replace hP := eS ▸ hSt _ 198 _ _ (by decide) hP
  clear eS eZ
  obtain ⟨a111, ea111, h⟩ := vEx h
  have k_a111 : a111 < E.1 := ea111.symm ▸ of_lt hC k_a102
  refine ⟨_, (rF_65 hC z02 k_a102).trans (congrArg (fun z => some (H 0 4 z)) ea111.symm), ?_⟩
  refine ⟨rK_Soc hC z02 k_a111, ?_⟩
  intro x112 ex
  replace h := h x112 (ex.trans (rI_40 hC z02 k_a111))
  intro x113 ex
  replace h := h x113 ex
  intro S114 eS
  obtain ⟨Z114, eZ, h⟩ := vEx h
  replace hC := wI_40 hC z02 k_a111 eS eZ
  replace hP := eS ▸ hSt _ 200 _ _ (by decide) hP
  clear eS eZ
  refine ⟨_, rF_68 hC z02 k_a102, ?_⟩
  refine ⟨rK_Own hC z02 k_a102, ?_⟩
  intro x116 ex
  replace h := h x116 (ex.trans (rI_19 hC z02 k_a102))
  intro x117 ex
  replace h := h x117 ex
  intro x118 ex
  replace h := h x118 ex
  intro S119 eS
  obtain ⟨Z119, eZ, h⟩ := vEx h
  replace hC := wI_19 hC z02 k_a102 eS eZ
  replace hP := eS ▸ hSt _ 162 _ _ (by decide) hP
  clear eS eZ
  refine ⟨rK_Sub hC, ?_⟩
  refine ⟨_, rF_224 hC, ?_⟩
  refine ⟨rK_Hill hC z02, ?_⟩
  intro x121 ex
  replace h := h x121 (ex.trans (rI_74 hC z02 z01))
  intro x122 ex
  replace h := h x122 ex
  intro S123 eS
  obtain ⟨Z123, eZ, h⟩ := vEx h
  replace hC := wI_74 hC z02 z01 eS eZ
  replace hP := eS ▸ hSt _ 102 _ _ (by decide) hP
  clear eS eZ
  refine u_X1_clear (x0 := a102) hSt (fun S124 Z124 hC hP h => ?_) z02 k_a102 hC hP h
  exact hQ _ _ _ hC hP h
def v_X6_harvest (E : eT) (x1 : Int32) (x2 : Int32) (Z : zT) (Q : Int32 → zT → Prop) : Prop :=
  v_X6_harvest_b0 E x1 x2 Z Q
set_option maxHeartbeats 1000000 in
theorem u_X6_harvest {Q : Int32 → sT → Prop} {Q' : Int32 → zT → Prop} {x1 : Int32} {x2 : Int32} {S : sT} {Z : zT} (hSt : cSt P) (hQ : ∀ x S Z, CC H E S Z → P S → Q' x Z → Q x S)   (hC : CC H E S Z) (hP : P S) (h : v_X6_harvest E x1 x2 Z Q') : w_X6_harvest (H 0 9 0) x1 x2 S Q := by
  unfold v_X6_harvest at h
  unfold w_X6_harvest
  exact u_X6_harvest_b0 hSt hQ hC hP h
def v_X6_cut_b0 (E : eT) (x1 : Int32) (Z : zT) (Q : Int32 → zT → Prop) : Prop :=
  v_X6_ripeFieldAt E x1 Z (fun a102 Z101 =>
  ∀ x104 : Int32, x104 = Z101 0 64 0 →
  ∀ x105 : Int32, x105 = (7 : Int32) * x104 →
  ∀ x106 : Int32, x106 = nI a102 →
  ∀ x107 : Int32, x107 = (13 : Int32) * x106 →
  ∀ x108 : Int32, x108 = x105 + x107 →
  ∀ x110 : Int32, x110 = Z101 0 73 0 →
  ∀ x111 : Int32, x111 = (5 : Int32) * x110 →
  ∀ x112 : Int32, x112 = x108 + x111 →
  v_J9_floorMod_7cf53 E x112 (21 : Int32) Z101 (fun x114 Z113 =>
  v_X0_ripeYield E 0 a102 Z113 (fun x117 Z116 =>
  ∀ x118 : Int32, x118 = (90 : Int32) + x114 →
  ∀ x119 : Int32, x119 = x117 * x118 →
  ∀ x120 : Int32, x120 = x119 / (100 : Int32) →
  v_X0_learn E 0 a102 x120 Z116 (fun Z122 =>
  ∀ x124 : Int32, x124 = Z122 0 73 0 →
  ∀ x125 : Int32, x125 = x124 + (1 : Int32) →
  ∀ Z126 : zT, Z126 = u3 Z122 0 73 0 x125 →
  Q x120 Z126))))
set_option maxHeartbeats 1000000 in
theorem u_X6_cut_b0 {Q : Int32 → sT → Prop} {Q' : Int32 → zT → Prop} {x1 : Int32} {S : sT} {Z : zT} (hSt : cSt P) (hQ : ∀ x S Z, CC H E S Z → P S → Q' x Z → Q x S)   (hC : CC H E S Z) (hP : P S) (h : v_X6_cut_b0 E x1 Z Q') : w_X6_cut_b0 (H 0 9 0) x1 S Q := by
  unfold v_X6_cut_b0 at h
  unfold w_X6_cut_b0
  refine ⟨rK_Sub hC, ?_⟩
  refine u_X6_ripeFieldAt hSt (fun a102 S101 Z101 k_a102 hC hP h => ?_) hC hP h
  refine ⟨rK_Sub hC, ?_⟩
  refine ⟨_, rF_224 hC, ?_⟩
  refine ⟨rK_Hill hC z02, ?_⟩
  intro x104 ex
  replace h := h x104 (ex.trans (rI_64 hC z02 z01))
  intro x105 ex
  replace h := h x105 ex
  refine ⟨rK_Fld hC z02 k_a102, ?_⟩
  intro x106 ex
  replace h := h x106 (ex.trans (rG_64 hC z02 k_a102))
  intro x107 ex
  replace h := h x107 ex
  intro x108 ex
  replace h := h x108 ex
  refine ⟨_, rF_224 hC, ?_⟩
  refine ⟨rK_Hill hC z02, ?_⟩
  intro x110 ex
  replace h := h x110 (ex.trans (rI_73 hC z02 z01))
  intro x111 ex
  replace h := h x111 ex
  intro x112 ex
  replace h := h x112 ex
  refine u_J9_floorMod_7cf53 hSt (fun x114 S113 Z113 hC hP h => ?_) hC hP h
  refine ⟨rK_Fld hC z02 k_a102, ?_⟩
  refine ⟨_, rF_69 hC z02 k_a102, ?_⟩
  refine ⟨rK_Crp hC z02 k_a102, ?_⟩
  refine u_X0_ripeYield (x0 := a102) hSt (fun x117 S116 Z116 hC hP h => ?_) z02 k_a102 hC hP h
  intro x118 ex
  replace h := h x118 ex
  intro x119 ex
  replace h := h x119 ex
  intro x120 ex
  replace h := h x120 ex
  refine ⟨rK_Fld hC z02 k_a102, ?_⟩
  refine ⟨_, rF_69 hC z02 k_a102, ?_⟩
  refine ⟨rK_Crp hC z02 k_a102, ?_⟩
  refine u_X0_learn (x0 := a102) hSt (fun S122 Z122 hC hP h => ?_) z02 k_a102 hC hP h
  refine ⟨rK_Sub hC, ?_⟩
  refine ⟨_, rF_224 hC, ?_⟩
  refine ⟨rK_Hill hC z02, ?_⟩
  intro x124 ex
  replace h := h x124 (ex.trans (rI_73 hC z02 z01))
  intro x125 ex
  replace h := h x125 ex
  intro S126 eS
  obtain ⟨Z126, eZ, h⟩ := vEx h
  replace hC := wI_73 hC z02 z01 eS eZ
  replace hP := eS ▸ hSt _ 101 _ _ (by decide) hP
  clear eS eZ
  exact hQ _ _ _ hC hP h
def v_X6_cut (E : eT) (x1 : Int32) (Z : zT) (Q : Int32 → zT → Prop) : Prop :=
  v_X6_cut_b0 E x1 Z Q
set_option maxHeartbeats 1000000 in
theorem u_X6_cut {Q : Int32 → sT → Prop} {Q' : Int32 → zT → Prop} {x1 : Int32} {S : sT} {Z : zT} (hSt : cSt P) (hQ : ∀ x S Z, CC H E S Z → P S → Q' x Z → Q x S)   (hC : CC H E S Z) (hP : P S) (h : v_X6_cut E x1 Z Q') : w_X6_cut (H 0 9 0) x1 S Q := by
  unfold v_X6_cut at h
  unfold w_X6_cut
  exact u_X6_cut_b0 hSt hQ hC hP h
def v_X6_day_b31 (E : eT) (Z : zT) (Q : Int32 → zT → Prop) : Prop :=
  False
set_option maxHeartbeats 1000000 in
theorem u_X6_day_b31 {Q : Int32 → sT → Prop} {Q' : Int32 → zT → Prop}  {S : sT} {Z : zT} (hSt : cSt P) (hQ : ∀ x S Z, CC H E S Z → P S → Q' x Z → Q x S)   (hC : CC H E S Z) (hP : P S) (h : v_X6_day_b31 E Z Q') : w_X6_day_b31 S Q := by
  unfold v_X6_day_b31 at h
  unfold w_X6_day_b31
  exact h.elim
def v_X6_day_b0 (E : eT) (x1 : Int32) (x2 : Int32) (x3 : Int32) (Z : zT) (Q : Int32 → zT → Prop) : Prop :=
  v_X6_isWithin E x1 (0 : Int32) (200 : Int32) Z (fun x102 Z101 =>
  ((x102 = 0 →
  v_X6_day_b31 E Z101 Q) ∧
  (¬ x102 = 0 →
  v_X6_isWithin E x2 (0 : Int32) (40 : Int32) Z101 (fun x105 Z104 =>
  ((x105 = 0 →
  v_X6_day_b31 E Z104 Q) ∧
  (¬ x105 = 0 →
  v_X6_isWithin E x3 (0 : Int32) (30 : Int32) Z104 (fun x108 Z107 =>
  ((¬ x108 = 0 →
  v_X2_passDay E 0 x1 x2 x3 Z107 (fun Z111 =>
  ∀ x113 : Int32, x113 = Z111 0 64 0 →
  Q x113 Z111)) ∧
  (x108 = 0 →
  v_X6_day_b31 E Z107 Q)))))))))
set_option maxHeartbeats 1000000 in
theorem u_X6_day_b0 {Q : Int32 → sT → Prop} {Q' : Int32 → zT → Prop} {x1 : Int32} {x2 : Int32} {x3 : Int32} {S : sT} {Z : zT} (hSt : cSt P) (hQ : ∀ x S Z, CC H E S Z → P S → Q' x Z → Q x S)   (hC : CC H E S Z) (hP : P S) (h : v_X6_day_b0 E x1 x2 x3 Z Q') : w_X6_day_b0 (H 0 9 0) x1 x2 x3 S Q := by
  unfold v_X6_day_b0 at h
  unfold w_X6_day_b0
  refine u_X6_isWithin hSt (fun x102 S101 Z101 hC hP h => ?_) hC hP h
  refine ⟨fun c => ?_, fun c => ?_⟩
  · replace h := h.1 c
    exact u_X6_day_b31 hSt hQ hC hP h
  · replace h := h.2 c
    refine u_X6_isWithin hSt (fun x105 S104 Z104 hC hP h => ?_) hC hP h
    refine ⟨fun c => ?_, fun c => ?_⟩
    · replace h := h.1 c
      exact u_X6_day_b31 hSt hQ hC hP h
    · replace h := h.2 c
      refine u_X6_isWithin hSt (fun x108 S107 Z107 hC hP h => ?_) hC hP h
      refine ⟨fun c => ?_, fun c => ?_⟩
      · replace h := h.1 c
        refine ⟨rK_Sub hC, ?_⟩
        refine ⟨_, rF_224 hC, ?_⟩
        refine ⟨rK_Hill hC z02, ?_⟩
        refine u_X2_passDay hSt (fun S111 Z111 hC hP h => ?_) z02 hC hP h
        refine ⟨rK_Sub hC, ?_⟩
        refine ⟨_, rF_224 hC, ?_⟩
        refine ⟨rK_Hill hC z02, ?_⟩
        intro x113 ex
        replace h := h x113 (ex.trans (rI_64 hC z02 z01))
        exact hQ _ _ _ hC hP h
      · replace h := h.2 c
        exact u_X6_day_b31 hSt hQ hC hP h
def v_X6_day (E : eT) (x1 : Int32) (x2 : Int32) (x3 : Int32) (Z : zT) (Q : Int32 → zT → Prop) : Prop :=
  v_X6_day_b0 E x1 x2 x3 Z Q
set_option maxHeartbeats 1000000 in
theorem u_X6_day {Q : Int32 → sT → Prop} {Q' : Int32 → zT → Prop} {x1 : Int32} {x2 : Int32} {x3 : Int32} {S : sT} {Z : zT} (hSt : cSt P) (hQ : ∀ x S Z, CC H E S Z → P S → Q' x Z → Q x S)   (hC : CC H E S Z) (hP : P S) (h : v_X6_day E x1 x2 x3 Z Q') : w_X6_day (H 0 9 0) x1 x2 x3 S Q := by
  unfold v_X6_day at h
  unfold w_X6_day
  exact u_X6_day_b0 hSt hQ hC hP h
def v_X6_inspect_b0 (E : eT) (x1 : Int32) (Z : zT) (Q : Int32 → zT → Prop) : Prop :=
  v_X6_societyAt E x1 Z (fun a102 Z101 =>
  v_X5_fineStones E 0 a102 Z101 (fun x104 Z103 =>
  Q x104 Z103))
set_option maxHeartbeats 1000000 in
theorem u_X6_inspect_b0 {Q : Int32 → sT → Prop} {Q' : Int32 → zT → Prop} {x1 : Int32} {S : sT} {Z : zT} (hSt : cSt P) (hQ : ∀ x S Z, CC H E S Z → P S → Q' x Z → Q x S)   (hC : CC H E S Z) (hP : P S) (h : v_X6_inspect_b0 E x1 Z Q') : w_X6_inspect_b0 (H 0 9 0) x1 S Q := by
  unfold v_X6_inspect_b0 at h
  unfold w_X6_inspect_b0
  refine ⟨rK_Sub hC, ?_⟩
  refine u_X6_societyAt hSt (fun a102 S101 Z101 k_a102 hC hP h => ?_) hC hP h
  refine ⟨rK_Soc hC z02 k_a102, ?_⟩
  refine u_X5_fineStones (x0 := a102) hSt (fun x104 S103 Z103 hC hP h => ?_) z02 k_a102 hC hP h
  exact hQ _ _ _ hC hP h
def v_X6_inspect (E : eT) (x1 : Int32) (Z : zT) (Q : Int32 → zT → Prop) : Prop :=
  v_X6_inspect_b0 E x1 Z Q
set_option maxHeartbeats 1000000 in
theorem u_X6_inspect {Q : Int32 → sT → Prop} {Q' : Int32 → zT → Prop} {x1 : Int32} {S : sT} {Z : zT} (hSt : cSt P) (hQ : ∀ x S Z, CC H E S Z → P S → Q' x Z → Q x S)   (hC : CC H E S Z) (hP : P S) (h : v_X6_inspect E x1 Z Q') : w_X6_inspect (H 0 9 0) x1 S Q := by
  unfold v_X6_inspect at h
  unfold w_X6_inspect
  exact u_X6_inspect_b0 hSt hQ hC hP h
def v_X6_sell_b0 (E : eT) (x1 : Int32) (x2 : Int32) (Z : zT) (Q : Int32 → zT → Prop) : Prop :=
  v_X6_fieldAt E x1 Z (fun a102 Z101 =>
  (((1 : Int32) ≤ x2 →
  ∀ x105 : Int32, x105 = Z101 0 19 a102 →
  ((x2 ≤ x105 →
  ∀ x107 : Int32, x107 = Z101 0 19 a102 →
  ∀ x108 : Int32, x108 = x107 - x2 →
  ∀ Z109 : zT, Z109 = u3 Z101 0 19 a102 x108 →
  ∀ x110 : Int32, x110 = Z109 0 17 a102 →
  ∀ x111 : Int32, x111 = x110 + x2 →
  ∀ Z112 : zT, Z112 = u3 Z109 0 17 a102 x111 →
  ∀ x113 : Int32, x113 = Z112 0 17 a102 →
  Q x113 Z112) ∧
  (¬ x2 ≤ x105 →
  False))) ∧
  (¬ (1 : Int32) ≤ x2 →
  False)))
set_option maxHeartbeats 1000000 in
theorem u_X6_sell_b0 {Q : Int32 → sT → Prop} {Q' : Int32 → zT → Prop} {x1 : Int32} {x2 : Int32} {S : sT} {Z : zT} (hSt : cSt P) (hQ : ∀ x S Z, CC H E S Z → P S → Q' x Z → Q x S)   (hC : CC H E S Z) (hP : P S) (h : v_X6_sell_b0 E x1 x2 Z Q') : w_X6_sell_b0 (H 0 9 0) x1 x2 S Q := by
  unfold v_X6_sell_b0 at h
  unfold w_X6_sell_b0
  refine ⟨rK_Sub hC, ?_⟩
  refine u_X6_fieldAt hSt (fun a102 S101 Z101 k_a102 hC hP h => ?_) hC hP h
  refine ⟨rK_Fld hC z02 k_a102, ?_⟩
  refine ⟨_, rF_68 hC z02 k_a102, ?_⟩
  refine ⟨fun c => ?_, fun c => ?_⟩
  · replace h := h.1 c
    refine ⟨rK_Own hC z02 k_a102, ?_⟩
    intro x105 ex
    replace h := h x105 (ex.trans (rI_19 hC z02 k_a102))
    refine ⟨fun c => ?_, fun c => ?_⟩
    · replace h := h.1 c
      intro x107 ex
      replace h := h x107 (ex.trans (rI_19 hC z02 k_a102))
      intro x108 ex
      replace h := h x108 ex
      intro S109 eS
      obtain ⟨Z109, eZ, h⟩ := vEx h
      replace hC := wI_19 hC z02 k_a102 eS eZ
      replace hP := eS ▸ hSt _ 162 _ _ (by decide) hP
      clear eS eZ
      intro x110 ex
      replace h := h x110 (ex.trans (rI_17 hC z02 k_a102))
      intro x111 ex
      replace h := h x111 ex
      intro S112 eS
      obtain ⟨Z112, eZ, h⟩ := vEx h
      replace hC := wI_17 hC z02 k_a102 eS eZ
      replace hP := eS ▸ hSt _ 160 _ _ (by decide) hP
      clear eS eZ
      intro x113 ex
      replace h := h x113 (ex.trans (rI_17 hC z02 k_a102))
      exact hQ _ _ _ hC hP h
    · replace h := h.2 c
      exact h.elim
  · replace h := h.2 c
    exact h.elim
def v_X6_sell (E : eT) (x1 : Int32) (x2 : Int32) (Z : zT) (Q : Int32 → zT → Prop) : Prop :=
  v_X6_sell_b0 E x1 x2 Z Q
set_option maxHeartbeats 1000000 in
theorem u_X6_sell {Q : Int32 → sT → Prop} {Q' : Int32 → zT → Prop} {x1 : Int32} {x2 : Int32} {S : sT} {Z : zT} (hSt : cSt P) (hQ : ∀ x S Z, CC H E S Z → P S → Q' x Z → Q x S)   (hC : CC H E S Z) (hP : P S) (h : v_X6_sell E x1 x2 Z Q') : w_X6_sell (H 0 9 0) x1 x2 S Q := by
  unfold v_X6_sell at h
  unfold w_X6_sell
  exact u_X6_sell_b0 hSt hQ hC hP h
def v_X6_vote_b56 (E : eT) (x2 : Nat) (x4 : Int32) (Z : zT) (Q : Int32 → zT → Prop) : Prop :=
  ∀ Z101 : zT, Z101 = u3 Z 0 40 x2 (0 : Int32) →
  Q x4 Z101
set_option maxHeartbeats 1000000 in
theorem u_X6_vote_b56 {Q : Int32 → sT → Prop} {Q' : Int32 → zT → Prop} {x2 : Nat} {x4 : Int32} {S : sT} {Z : zT} (hSt : cSt P) (hQ : ∀ x S Z, CC H E S Z → P S → Q' x Z → Q x S)  (k_x2 : x2 < E.1) (hC : CC H E S Z) (hP : P S) (h : v_X6_vote_b56 E x2 x4 Z Q') : w_X6_vote_b56 (H 0 4 x2) x4 S Q := by
  unfold v_X6_vote_b56 at h
  unfold w_X6_vote_b56
  refine ⟨rK_Soc hC z02 k_x2, ?_⟩
  intro S101 eS
  obtain ⟨Z101, eZ, h⟩ := vEx h
  replace hC := wI_40 hC z02 k_x2 eS eZ
  replace hP := eS ▸ hSt _ 200 _ _ (by decide) hP
  clear eS eZ
  exact hQ _ _ _ hC hP h
def v_X6_vote_b0 (E : eT) (x1 : Int32) (Z : zT) (Q : Int32 → zT → Prop) : Prop :=
  v_X6_societyAt E x1 Z (fun a102 Z101 =>
  v_X2_modelOf E 0 x1 Z101 (fun r105 Z104 =>
  v_X5_countYes E 0 a102 r105 Z104 (fun x107 Z106 =>
  ((r105 = none →
  v_X6_vote_b56 E a102 x107 Z106 Q) ∧
  (∀ a108 : Nat, r105 = some a108 →
  ∀ x110 : Int32, x110 = (2 : Int32) * x107 →
  ∀ x113 : Int32, x113 = nI (ce_mem E a102).length →
  ((x110 ≤ x113 →
  v_X6_vote_b56 E a102 x107 Z106 Q) ∧
  (¬ x110 ≤ x113 →
  ∀ x115 : Int32, x115 = Z106 0 34 a108 →
  ∀ Z116 : zT, Z116 = u3 Z106 0 34 a102 x115 →
  ∀ x117 : Int32, x117 = Z116 0 35 a108 →
  ∀ Z118 : zT, Z118 = u3 Z116 0 35 a102 x117 →
  v_X6_vote_b56 E a102 x107 Z118 Q)))))))
set_option maxHeartbeats 1000000 in
theorem u_X6_vote_b0 {Q : Int32 → sT → Prop} {Q' : Int32 → zT → Prop} {x1 : Int32} {S : sT} {Z : zT} (hSt : cSt P) (hQ : ∀ x S Z, CC H E S Z → P S → Q' x Z → Q x S)   (hC : CC H E S Z) (hP : P S) (h : v_X6_vote_b0 E x1 Z Q') : w_X6_vote_b0 (H 0 9 0) x1 S Q := by
  unfold v_X6_vote_b0 at h
  unfold w_X6_vote_b0
  refine ⟨rK_Sub hC, ?_⟩
  refine u_X6_societyAt hSt (fun a102 S101 Z101 k_a102 hC hP h => ?_) hC hP h
  refine ⟨rK_Sub hC, ?_⟩
  refine ⟨_, rF_224 hC, ?_⟩
  refine ⟨rK_Hill hC z02, ?_⟩
  refine u_X2_modelOf hSt (fun r105 S104 Z104 k_r105 hC hP h => ?_) z02 hC hP h
  refine ⟨rK_Soc hC z02 k_a102, ?_⟩
  refine u_X5_countYes (x0 := a102) (x1 := r105) hSt (fun x107 S106 Z106 hC hP h => ?_) z02 k_a102 k_r105 hC hP h
  refine ⟨fun c => ?_, fun a c => ?_⟩
  · replace h := h.1 (optN c)
    exact u_X6_vote_b56 (x2 := a102) hSt hQ k_a102 hC hP h
  · obtain ⟨a108, cz, ea⟩ := optS c
    clear c
    subst ea
    replace h := h.2 a108 cz
    have k_a108 := k_r105 _ cz
    intro x110 ex
    replace h := h x110 ex
    refine ⟨rK_Soc hC z02 k_a102, ?_⟩
    refine ⟨_, rF_195 hC z02 k_a102, ?_⟩
    refine ⟨rK_LM hC z02 k_a102, ?_⟩
    refine us_size (rL_LM hC z02 k_a102) ?_
    replace h := h _ rfl
    refine ⟨fun c => ?_, fun c => ?_⟩
    · replace h := h.1 c
      exact u_X6_vote_b56 (x2 := a102) hSt hQ k_a102 hC hP h
    · replace h := h.2 c
      refine ⟨rK_Soc hC z02 k_a108, ?_⟩
      intro x115 ex
      replace h := h x115 (ex.trans (rI_34 hC z02 k_a108))
      refine ⟨rK_Soc hC z02 k_a102, ?_⟩
      intro S116 eS
      obtain ⟨Z116, eZ, h⟩ := vEx h
      replace hC := wI_34 hC z02 k_a102 eS eZ
      replace hP := eS ▸ hSt _ 196 _ _ (by decide) hP
      clear eS eZ
      intro x117 ex
      replace h := h x117 (ex.trans (rI_35 hC z02 k_a108))
      intro S118 eS
      obtain ⟨Z118, eZ, h⟩ := vEx h
      replace hC := wI_35 hC z02 k_a102 eS eZ
      replace hP := eS ▸ hSt _ 197 _ _ (by decide) hP
      clear eS eZ
      exact u_X6_vote_b56 (x2 := a102) hSt hQ k_a102 hC hP h
def v_X6_vote (E : eT) (x1 : Int32) (Z : zT) (Q : Int32 → zT → Prop) : Prop :=
  v_X6_vote_b0 E x1 Z Q
set_option maxHeartbeats 1000000 in
theorem u_X6_vote {Q : Int32 → sT → Prop} {Q' : Int32 → zT → Prop} {x1 : Int32} {S : sT} {Z : zT} (hSt : cSt P) (hQ : ∀ x S Z, CC H E S Z → P S → Q' x Z → Q x S)   (hC : CC H E S Z) (hP : P S) (h : v_X6_vote E x1 Z Q') : w_X6_vote (H 0 9 0) x1 S Q := by
  unfold v_X6_vote at h
  unfold w_X6_vote
  exact u_X6_vote_b0 hSt hQ hC hP h
def v_X6_ofField_b0 (E : eT) (x1 : Int32) (x2 : Int32) (Z : zT) (Q : Int32 → zT → Prop) : Prop :=
  v_X6_fieldAt E x1 Z (fun a102 Z101 =>
  ((x2 = 0 →
  ∀ a104 : Nat, a104 = E.2.2 a102 →
  ∀ x105 : Int32, x105 = nI a104 →
  Q x105 Z101) ∧
  (x2 = 1 →
  ∀ x107 : Int32, x107 = Z101 0 1 a102 →
  Q x107 Z101) ∧
  (x2 = 2 →
  ∀ x109 : Int32, x109 = Z101 0 2 a102 →
  Q x109 Z101) ∧
  (x2 = 3 →
  ∀ x111 : Int32, x111 = Z101 0 3 a102 →
  Q x111 Z101) ∧
  (x2 = 4 →
  ∀ x114 : Int32, x114 = Z101 0 4 a102 →
  Q x114 Z101) ∧
  (x2 = 5 →
  ∀ x117 : Int32, x117 = Z101 0 5 a102 →
  Q x117 Z101) ∧
  (x2 = 6 →
  ∀ x120 : Int32, x120 = Z101 0 6 a102 →
  Q x120 Z101) ∧
  (x2 = 7 →
  ∀ x123 : Int32, x123 = Z101 0 7 a102 →
  Q x123 Z101) ∧
  (x2 = 8 →
  ∀ x125 : Int32, x125 = Z101 0 8 a102 →
  Q x125 Z101) ∧
  (x2 = 9 →
  ∀ x128 : Int32, x128 = Z101 0 9 a102 →
  Q x128 Z101) ∧
  (x2 = 10 →
  v_X0_ripeYield E 0 a102 Z101 (fun x132 Z131 =>
  Q x132 Z131)) ∧
  (x2 = 11 →
  ∀ x135 : Int32, x135 = Z101 0 10 a102 →
  Q x135 Z101) ∧
  (x2 = 12 →
  ∀ x137 : Int32, x137 = Z101 0 11 a102 →
  Q x137 Z101) ∧
  (x2 = 13 →
  ∀ x139 : Int32, x139 = Z101 0 12 a102 →
  v_X6_oneIf E x139 Z101 (fun x141 Z140 =>
  Q x141 Z140)) ∧
  ((¬ x2 = 0 ∧ ¬ x2 = 1 ∧ ¬ x2 = 2 ∧ ¬ x2 = 3 ∧ ¬ x2 = 4 ∧ ¬ x2 = 5 ∧ ¬ x2 = 6 ∧ ¬ x2 = 7 ∧ ¬ x2 = 8 ∧ ¬ x2 = 9 ∧ ¬ x2 = 10 ∧ ¬ x2 = 11 ∧ ¬ x2 = 12 ∧ ¬ x2 = 13) →
  False)))
set_option maxHeartbeats 1000000 in
theorem u_X6_ofField_b0 {Q : Int32 → sT → Prop} {Q' : Int32 → zT → Prop} {x1 : Int32} {x2 : Int32} {S : sT} {Z : zT} (hSt : cSt P) (hQ : ∀ x S Z, CC H E S Z → P S → Q' x Z → Q x S)   (hC : CC H E S Z) (hP : P S) (h : v_X6_ofField_b0 E x1 x2 Z Q') : w_X6_ofField_b0 (H 0 9 0) x1 x2 S Q := by
  unfold v_X6_ofField_b0 at h
  unfold w_X6_ofField_b0
  refine ⟨rK_Sub hC, ?_⟩
  refine u_X6_fieldAt hSt (fun a102 S101 Z101 k_a102 hC hP h => ?_) hC hP h
  refine ⟨fun c => ?_, fun c => ?_, fun c => ?_, fun c => ?_, fun c => ?_, fun c => ?_, fun c => ?_, fun c => ?_, fun c => ?_, fun c => ?_, fun c => ?_, fun c => ?_, fun c => ?_, fun c => ?_, fun c => ?_⟩
  · replace h := h.1 c
    refine ⟨rK_Fld hC z02 k_a102, ?_⟩
    obtain ⟨a104, ea104, h⟩ := vEx h
    have k_a104 : a104 < E.1 := ea104.symm ▸ of_lt hC k_a102
    refine ⟨_, (rF_65 hC z02 k_a102).trans (congrArg (fun z => some (H 0 4 z)) ea104.symm), ?_⟩
    refine ⟨rK_Soc hC z02 k_a104, ?_⟩
    intro x105 ex
    replace h := h x105 (ex.trans (rG_192 hC z02 k_a104))
    exact hQ _ _ _ hC hP h
  · replace h := h.2.1 c
    refine ⟨rK_Fld hC z02 k_a102, ?_⟩
    intro x107 ex
    replace h := h x107 (ex.trans (rI_1 hC z02 k_a102))
    exact hQ _ _ _ hC hP h
  · replace h := h.2.2.1 c
    refine ⟨rK_Fld hC z02 k_a102, ?_⟩
    intro x109 ex
    replace h := h x109 (ex.trans (rI_2 hC z02 k_a102))
    exact hQ _ _ _ hC hP h
  · replace h := h.2.2.2.1 c
    refine ⟨rK_Fld hC z02 k_a102, ?_⟩
    intro x111 ex
    replace h := h x111 (ex.trans (rI_3 hC z02 k_a102))
    exact hQ _ _ _ hC hP h
  · replace h := h.2.2.2.2.1 c
    refine ⟨rK_Fld hC z02 k_a102, ?_⟩
    refine ⟨_, rF_69 hC z02 k_a102, ?_⟩
    refine ⟨rK_Crp hC z02 k_a102, ?_⟩
    intro x114 ex
    replace h := h x114 (ex.trans (rI_4 hC z02 k_a102))
    exact hQ _ _ _ hC hP h
  · replace h := h.2.2.2.2.2.1 c
    refine ⟨rK_Fld hC z02 k_a102, ?_⟩
    refine ⟨_, rF_69 hC z02 k_a102, ?_⟩
    refine ⟨rK_Crp hC z02 k_a102, ?_⟩
    intro x117 ex
    replace h := h x117 (ex.trans (rI_5 hC z02 k_a102))
    exact hQ _ _ _ hC hP h
  · replace h := h.2.2.2.2.2.2.1 c
    refine ⟨rK_Fld hC z02 k_a102, ?_⟩
    refine ⟨_, rF_69 hC z02 k_a102, ?_⟩
    refine ⟨rK_Crp hC z02 k_a102, ?_⟩
    intro x120 ex
    replace h := h x120 (ex.trans (rI_6 hC z02 k_a102))
    exact hQ _ _ _ hC hP h
  · replace h := h.2.2.2.2.2.2.2.1 c
    refine ⟨rK_Fld hC z02 k_a102, ?_⟩
    refine ⟨_, rF_69 hC z02 k_a102, ?_⟩
    refine ⟨rK_Crp hC z02 k_a102, ?_⟩
    intro x123 ex
    replace h := h x123 (ex.trans (rI_7 hC z02 k_a102))
    exact hQ _ _ _ hC hP h
  · replace h := h.2.2.2.2.2.2.2.2.1 c
    refine ⟨rK_Fld hC z02 k_a102, ?_⟩
    intro x125 ex
    replace h := h x125 (ex.trans (rI_8 hC z02 k_a102))
    exact hQ _ _ _ hC hP h
  · replace h := h.2.2.2.2.2.2.2.2.2.1 c
    refine ⟨rK_Fld hC z02 k_a102, ?_⟩
    refine ⟨_, rF_69 hC z02 k_a102, ?_⟩
    refine ⟨rK_Crp hC z02 k_a102, ?_⟩
    intro x128 ex
    replace h := h x128 (ex.trans (rI_9 hC z02 k_a102))
    exact hQ _ _ _ hC hP h
  · replace h := h.2.2.2.2.2.2.2.2.2.2.1 c
    refine ⟨rK_Fld hC z02 k_a102, ?_⟩
    refine ⟨_, rF_69 hC z02 k_a102, ?_⟩
    refine ⟨rK_Crp hC z02 k_a102, ?_⟩
    refine u_X0_ripeYield (x0 := a102) hSt (fun x132 S131 Z131 hC hP h => ?_) z02 k_a102 hC hP h
    exact hQ _ _ _ hC hP h
  · replace h := h.2.2.2.2.2.2.2.2.2.2.2.1 c
    refine ⟨rK_Fld hC z02 k_a102, ?_⟩
    refine ⟨_, rF_69 hC z02 k_a102, ?_⟩
    refine ⟨rK_Crp hC z02 k_a102, ?_⟩
    intro x135 ex
    replace h := h x135 (ex.trans (rI_10 hC z02 k_a102))
    exact hQ _ _ _ hC hP h
  · replace h := h.2.2.2.2.2.2.2.2.2.2.2.2.1 c
    refine ⟨rK_Fld hC z02 k_a102, ?_⟩
    intro x137 ex
    replace h := h x137 (ex.trans (rI_11 hC z02 k_a102))
    exact hQ _ _ _ hC hP h
  · replace h := h.2.2.2.2.2.2.2.2.2.2.2.2.2.1 c
    refine ⟨rK_Fld hC z02 k_a102, ?_⟩
    intro x139 ex
    replace h := h x139 (ex.trans (rI_12 hC z02 k_a102))
    refine u_X6_oneIf hSt (fun x141 S140 Z140 hC hP h => ?_) hC hP h
    exact hQ _ _ _ hC hP h
  · replace h := h.2.2.2.2.2.2.2.2.2.2.2.2.2.2 c
    exact h.elim
def v_X6_ofField (E : eT) (x1 : Int32) (x2 : Int32) (Z : zT) (Q : Int32 → zT → Prop) : Prop :=
  v_X6_ofField_b0 E x1 x2 Z Q
set_option maxHeartbeats 1000000 in
theorem u_X6_ofField {Q : Int32 → sT → Prop} {Q' : Int32 → zT → Prop} {x1 : Int32} {x2 : Int32} {S : sT} {Z : zT} (hSt : cSt P) (hQ : ∀ x S Z, CC H E S Z → P S → Q' x Z → Q x S)   (hC : CC H E S Z) (hP : P S) (h : v_X6_ofField E x1 x2 Z Q') : w_X6_ofField (H 0 9 0) x1 x2 S Q := by
  unfold v_X6_ofField at h
  unfold w_X6_ofField
  exact u_X6_ofField_b0 hSt hQ hC hP h
def v_X6_ofOwner_b0 (E : eT) (x1 : Int32) (x2 : Int32) (Z : zT) (Q : Int32 → zT → Prop) : Prop :=
  v_X6_fieldAt E x1 Z (fun a102 Z101 =>
  ((x2 = 0 →
  ∀ x105 : Int32, x105 = Z101 0 17 a102 →
  Q x105 Z101) ∧
  (x2 = 1 →
  ∀ x107 : Int32, x107 = Z101 0 18 a102 →
  Q x107 Z101) ∧
  (x2 = 2 →
  ∀ x109 : Int32, x109 = Z101 0 19 a102 →
  Q x109 Z101) ∧
  (x2 = 3 →
  v_X4_isExcluded E 0 a102 Z101 (fun x112 Z111 =>
  v_X6_oneIf E x112 Z111 (fun x114 Z113 =>
  Q x114 Z113))) ∧
  ((¬ x2 = 0 ∧ ¬ x2 = 1 ∧ ¬ x2 = 2 ∧ ¬ x2 = 3) →
  False)))
set_option maxHeartbeats 1000000 in
theorem u_X6_ofOwner_b0 {Q : Int32 → sT → Prop} {Q' : Int32 → zT → Prop} {x1 : Int32} {x2 : Int32} {S : sT} {Z : zT} (hSt : cSt P) (hQ : ∀ x S Z, CC H E S Z → P S → Q' x Z → Q x S)   (hC : CC H E S Z) (hP : P S) (h : v_X6_ofOwner_b0 E x1 x2 Z Q') : w_X6_ofOwner_b0 (H 0 9 0) x1 x2 S Q := by
  unfold v_X6_ofOwner_b0 at h
  unfold w_X6_ofOwner_b0
  refine ⟨rK_Sub hC, ?_⟩
  refine u_X6_fieldAt hSt (fun a102 S101 Z101 k_a102 hC hP h => ?_) hC hP h
  refine ⟨rK_Fld hC z02 k_a102, ?_⟩
  refine ⟨_, rF_68 hC z02 k_a102, ?_⟩
  refine ⟨fun c => ?_, fun c => ?_, fun c => ?_, fun c => ?_, fun c => ?_⟩
  · replace h := h.1 c
    refine ⟨rK_Own hC z02 k_a102, ?_⟩
    intro x105 ex
    replace h := h x105 (ex.trans (rI_17 hC z02 k_a102))
    exact hQ _ _ _ hC hP h
  · replace h := h.2.1 c
    refine ⟨rK_Own hC z02 k_a102, ?_⟩
    intro x107 ex
    replace h := h x107 (ex.trans (rI_18 hC z02 k_a102))
    exact hQ _ _ _ hC hP h
  · replace h := h.2.2.1 c
    refine ⟨rK_Own hC z02 k_a102, ?_⟩
    intro x109 ex
    replace h := h x109 (ex.trans (rI_19 hC z02 k_a102))
    exact hQ _ _ _ hC hP h
  · replace h := h.2.2.2.1 c
    refine ⟨rK_Own hC z02 k_a102, ?_⟩
    refine u_X4_isExcluded (x0 := a102) hSt (fun x112 S111 Z111 hC hP h => ?_) z02 k_a102 hC hP h
    refine u_X6_oneIf hSt (fun x114 S113 Z113 hC hP h => ?_) hC hP h
    exact hQ _ _ _ hC hP h
  · replace h := h.2.2.2.2 c
    exact h.elim
def v_X6_ofOwner (E : eT) (x1 : Int32) (x2 : Int32) (Z : zT) (Q : Int32 → zT → Prop) : Prop :=
  v_X6_ofOwner_b0 E x1 x2 Z Q
set_option maxHeartbeats 1000000 in
theorem u_X6_ofOwner {Q : Int32 → sT → Prop} {Q' : Int32 → zT → Prop} {x1 : Int32} {x2 : Int32} {S : sT} {Z : zT} (hSt : cSt P) (hQ : ∀ x S Z, CC H E S Z → P S → Q' x Z → Q x S)   (hC : CC H E S Z) (hP : P S) (h : v_X6_ofOwner E x1 x2 Z Q') : w_X6_ofOwner (H 0 9 0) x1 x2 S Q := by
  unfold v_X6_ofOwner at h
  unfold w_X6_ofOwner
  exact u_X6_ofOwner_b0 hSt hQ hC hP h
def v_X6_ofSociety_b0 (E : eT) (x1 : Int32) (x2 : Int32) (Z : zT) (Q : Int32 → zT → Prop) : Prop :=
  v_X6_societyAt E x1 Z (fun a102 Z101 =>
  ((x2 = 0 →
  ∀ x104 : Int32, x104 = Z101 0 34 a102 →
  Q x104 Z101) ∧
  (x2 = 1 →
  ∀ x106 : Int32, x106 = Z101 0 35 a102 →
  Q x106 Z101) ∧
  (x2 = 2 →
  ∀ x108 : Int32, x108 = Z101 0 36 a102 →
  Q x108 Z101) ∧
  (x2 = 3 →
  ∀ x110 : Int32, x110 = Z101 0 37 a102 →
  Q x110 Z101) ∧
  (x2 = 4 →
  v_X2_templeDay E 0 Z101 (fun x114 Z113 =>
  v_X5_isOpenOn E 0 a102 x114 Z113 (fun x116 Z115 =>
  v_X6_oneIf E x116 Z115 (fun x118 Z117 =>
  Q x118 Z117)))) ∧
  (x2 = 5 →
  ∀ x120 : Int32, x120 = Z101 0 40 a102 →
  Q x120 Z101) ∧
  (x2 = 6 →
  ∀ x124 : Int32, x124 = nI (ce_mem E a102).length →
  Q x124 Z101) ∧
  (x2 = 7 →
  ∀ x126 : Int32, x126 = Z101 0 41 a102 →
  Q x126 Z101) ∧
  (x2 = 8 →
  v_X5_nextInTurn E 0 a102 Z101 (fun r129 Z128 =>
  v_X6_numberOf E r129 Z128 (fun x131 Z130 =>
  Q x131 Z130))) ∧
  ((¬ x2 = 0 ∧ ¬ x2 = 1 ∧ ¬ x2 = 2 ∧ ¬ x2 = 3 ∧ ¬ x2 = 4 ∧ ¬ x2 = 5 ∧ ¬ x2 = 6 ∧ ¬ x2 = 7 ∧ ¬ x2 = 8) →
  False)))
set_option maxHeartbeats 1000000 in
theorem u_X6_ofSociety_b0 {Q : Int32 → sT → Prop} {Q' : Int32 → zT → Prop} {x1 : Int32} {x2 : Int32} {S : sT} {Z : zT} (hSt : cSt P) (hQ : ∀ x S Z, CC H E S Z → P S → Q' x Z → Q x S)   (hC : CC H E S Z) (hP : P S) (h : v_X6_ofSociety_b0 E x1 x2 Z Q') : w_X6_ofSociety_b0 (H 0 9 0) x1 x2 S Q := by
  unfold v_X6_ofSociety_b0 at h
  unfold w_X6_ofSociety_b0
  refine ⟨rK_Sub hC, ?_⟩
  refine u_X6_societyAt hSt (fun a102 S101 Z101 k_a102 hC hP h => ?_) hC hP h
  refine ⟨fun c => ?_, fun c => ?_, fun c => ?_, fun c => ?_, fun c => ?_, fun c => ?_, fun c => ?_, fun c => ?_, fun c => ?_, fun c => ?_⟩
  · replace h := h.1 c
    refine ⟨rK_Soc hC z02 k_a102, ?_⟩
    intro x104 ex
    replace h := h x104 (ex.trans (rI_34 hC z02 k_a102))
    exact hQ _ _ _ hC hP h
  · replace h := h.2.1 c
    refine ⟨rK_Soc hC z02 k_a102, ?_⟩
    intro x106 ex
    replace h := h x106 (ex.trans (rI_35 hC z02 k_a102))
    exact hQ _ _ _ hC hP h
  · replace h := h.2.2.1 c
    refine ⟨rK_Soc hC z02 k_a102, ?_⟩
    intro x108 ex
    replace h := h x108 (ex.trans (rI_36 hC z02 k_a102))
    exact hQ _ _ _ hC hP h
  · replace h := h.2.2.2.1 c
    refine ⟨rK_Soc hC z02 k_a102, ?_⟩
    intro x110 ex
    replace h := h x110 (ex.trans (rI_37 hC z02 k_a102))
    exact hQ _ _ _ hC hP h
  · replace h := h.2.2.2.2.1 c
    refine ⟨rK_Sub hC, ?_⟩
    refine ⟨_, rF_224 hC, ?_⟩
    refine ⟨rK_Hill hC z02, ?_⟩
    refine u_X2_templeDay hSt (fun x114 S113 Z113 hC hP h => ?_) z02 hC hP h
    refine ⟨rK_Soc hC z02 k_a102, ?_⟩
    refine u_X5_isOpenOn (x0 := a102) hSt (fun x116 S115 Z115 hC hP h => ?_) z02 k_a102 hC hP h
    refine u_X6_oneIf hSt (fun x118 S117 Z117 hC hP h => ?_) hC hP h
    exact hQ _ _ _ hC hP h
  · replace h := h.2.2.2.2.2.1 c
    refine ⟨rK_Soc hC z02 k_a102, ?_⟩
    intro x120 ex
    replace h := h x120 (ex.trans (rI_40 hC z02 k_a102))
    exact hQ _ _ _ hC hP h
  · replace h := h.2.2.2.2.2.2.1 c
    refine ⟨rK_Soc hC z02 k_a102, ?_⟩
    refine ⟨_, rF_195 hC z02 k_a102, ?_⟩
    refine ⟨rK_LM hC z02 k_a102, ?_⟩
    refine us_size (rL_LM hC z02 k_a102) ?_
    replace h := h _ rfl
    exact hQ _ _ _ hC hP h
  · replace h := h.2.2.2.2.2.2.2.1 c
    refine ⟨rK_Soc hC z02 k_a102, ?_⟩
    intro x126 ex
    replace h := h x126 (ex.trans (rI_41 hC z02 k_a102))
    exact hQ _ _ _ hC hP h
  · replace h := h.2.2.2.2.2.2.2.2.1 c
    refine ⟨rK_Soc hC z02 k_a102, ?_⟩
    refine u_X5_nextInTurn (x0 := a102) hSt (fun r129 S128 Z128 k_r129 hC hP h => ?_) z02 k_a102 hC hP h
    refine u_X6_numberOf (x0 := r129) hSt (fun x131 S130 Z130 hC hP h => ?_) k_r129 hC hP h
    exact hQ _ _ _ hC hP h
  · replace h := h.2.2.2.2.2.2.2.2.2 c
    exact h.elim
def v_X6_ofSociety (E : eT) (x1 : Int32) (x2 : Int32) (Z : zT) (Q : Int32 → zT → Prop) : Prop :=
  v_X6_ofSociety_b0 E x1 x2 Z Q
set_option maxHeartbeats 1000000 in
theorem u_X6_ofSociety {Q : Int32 → sT → Prop} {Q' : Int32 → zT → Prop} {x1 : Int32} {x2 : Int32} {S : sT} {Z : zT} (hSt : cSt P) (hQ : ∀ x S Z, CC H E S Z → P S → Q' x Z → Q x S)   (hC : CC H E S Z) (hP : P S) (h : v_X6_ofSociety E x1 x2 Z Q') : w_X6_ofSociety (H 0 9 0) x1 x2 S Q := by
  unfold v_X6_ofSociety at h
  unfold w_X6_ofSociety
  exact u_X6_ofSociety_b0 hSt hQ hC hP h
def v_X6_sumOfFields_b4 (E : eT)  (Q : Int32 → zT → Prop) : Nat → Int32 → Int32 → Int32 → zT → Prop
  | 0 => fun _ _ _ _ => False
  | n + 1 => fun x1 x2 x3 Z =>
    ∀ x104 : Int32, x104 = nI E.2.1 →
    ((x104 ≤ x3 →
    Q x2 Z) ∧
    (¬ x104 ≤ x3 →
    v_X6_ofField E x3 x1 Z (fun x107 Z106 =>
    ∀ x108 : Int32, x108 = x2 + x107 →
    ∀ x109 : Int32, x109 = x3 + 1 →
    v_X6_sumOfFields_b4 E Q n x1 x108 x109 Z106)))
set_option maxHeartbeats 1000000 in
theorem u_X6_sumOfFields_b4 {Q : Int32 → sT → Prop} {Q' : Int32 → zT → Prop} (hSt : cSt P) (hQ : ∀ x S Z, CC H E S Z → P S → Q' x Z → Q x S)  : ∀ (n : Nat) (x1 : Int32) (x2 : Int32) (x3 : Int32) (S : sT) (Z : zT), CC H E S Z → P S → v_X6_sumOfFields_b4 E  Q' n x1 x2 x3 Z → w_X6_sumOfFields_b4  Q n (H 0 9 0) x1 x2 x3 S := by
  intro n
  induction n with
  | zero => intro x1 x2 x3 S Z  hC hP h; exact absurd h id
  | succ n ih =>
    intro x1 x2 x3 S Z  hC hP h
    unfold v_X6_sumOfFields_b4 at h
    unfold w_X6_sumOfFields_b4
    refine ⟨rK_Sub hC, ?_⟩
    refine ⟨_, rF_224 hC, ?_⟩
    refine ⟨rK_Hill hC z02, ?_⟩
    refine ⟨_, rF_97 hC z02, ?_⟩
    refine ⟨rK_LF hC z02, ?_⟩
    refine us_size (rL_LF hC z02) ?_
    replace h := h _ rfl
    refine ⟨fun c => ?_, fun c => ?_⟩
    · replace h := h.1 c
      exact hQ _ _ _ hC hP h
    · replace h := h.2 c
      refine ⟨rK_Sub hC, ?_⟩
      refine u_X6_ofField hSt (fun x107 S106 Z106 hC hP h => ?_) hC hP h
      intro x108 ex
      replace h := h x108 ex
      intro x109 ex
      replace h := h x109 ex
      exact ih x1 x108 x109 _ _ hC hP h
def v_X6_sumOfFields_b0 (E : eT) (x1 : Int32) (Z : zT) (Q : Int32 → zT → Prop) : Prop :=
  ∃ n9 : Nat, 
  v_X6_sumOfFields_b4 E Q n9 x1 (0 : Int32) (0 : Int32) Z
set_option maxHeartbeats 1000000 in
theorem u_X6_sumOfFields_b0 {Q : Int32 → sT → Prop} {Q' : Int32 → zT → Prop} {x1 : Int32} {S : sT} {Z : zT} (hSt : cSt P) (hQ : ∀ x S Z, CC H E S Z → P S → Q' x Z → Q x S)   (hC : CC H E S Z) (hP : P S) (h : v_X6_sumOfFields_b0 E x1 Z Q') : w_X6_sumOfFields_b0 (H 0 9 0) x1 S Q := by
  unfold v_X6_sumOfFields_b0 at h
  unfold w_X6_sumOfFields_b0
  obtain ⟨n9, h⟩ := h
  refine ⟨n9, ?_⟩
  exact u_X6_sumOfFields_b4 hSt hQ n9 x1 (0 : Int32) (0 : Int32) _ _ hC hP h
def v_X6_sumOfFields (E : eT) (x1 : Int32) (Z : zT) (Q : Int32 → zT → Prop) : Prop :=
  v_X6_sumOfFields_b0 E x1 Z Q
set_option maxHeartbeats 1000000 in
theorem u_X6_sumOfFields {Q : Int32 → sT → Prop} {Q' : Int32 → zT → Prop} {x1 : Int32} {S : sT} {Z : zT} (hSt : cSt P) (hQ : ∀ x S Z, CC H E S Z → P S → Q' x Z → Q x S)   (hC : CC H E S Z) (hP : P S) (h : v_X6_sumOfFields E x1 Z Q') : w_X6_sumOfFields (H 0 9 0) x1 S Q := by
  unfold v_X6_sumOfFields at h
  unfold w_X6_sumOfFields
  exact u_X6_sumOfFields_b0 hSt hQ hC hP h
def v_X6_sumOfSocieties_b4 (E : eT)  (Q : Int32 → zT → Prop) : Nat → Int32 → Int32 → Int32 → zT → Prop
  | 0 => fun _ _ _ _ => False
  | n + 1 => fun x1 x2 x3 Z =>
    ∀ x104 : Int32, x104 = nI E.1 →
    ((x104 ≤ x3 →
    Q x2 Z) ∧
    (¬ x104 ≤ x3 →
    v_X6_ofSociety E x3 x1 Z (fun x107 Z106 =>
    ∀ x108 : Int32, x108 = x2 + x107 →
    ∀ x109 : Int32, x109 = x3 + 1 →
    v_X6_sumOfSocieties_b4 E Q n x1 x108 x109 Z106)))
set_option maxHeartbeats 1000000 in
theorem u_X6_sumOfSocieties_b4 {Q : Int32 → sT → Prop} {Q' : Int32 → zT → Prop} (hSt : cSt P) (hQ : ∀ x S Z, CC H E S Z → P S → Q' x Z → Q x S)  : ∀ (n : Nat) (x1 : Int32) (x2 : Int32) (x3 : Int32) (S : sT) (Z : zT), CC H E S Z → P S → v_X6_sumOfSocieties_b4 E  Q' n x1 x2 x3 Z → w_X6_sumOfSocieties_b4  Q n (H 0 9 0) x1 x2 x3 S := by
  intro n
  induction n with
  | zero => intro x1 x2 x3 S Z  hC hP h; exact absurd h id
  | succ n ih =>
    intro x1 x2 x3 S Z  hC hP h
    unfold v_X6_sumOfSocieties_b4 at h
    unfold w_X6_sumOfSocieties_b4
    refine ⟨rK_Sub hC, ?_⟩
    refine ⟨_, rF_224 hC, ?_⟩
    refine ⟨rK_Hill hC z02, ?_⟩
    refine ⟨_, rF_96 hC z02, ?_⟩
    refine ⟨rK_LS hC z02, ?_⟩
    refine us_size (rL_LS hC z02) ?_
    replace h := h _ rfl
    refine ⟨fun c => ?_, fun c => ?_⟩
    · replace h := h.1 c
      exact hQ _ _ _ hC hP h
    · replace h := h.2 c
      refine ⟨rK_Sub hC, ?_⟩
      refine u_X6_ofSociety hSt (fun x107 S106 Z106 hC hP h => ?_) hC hP h
      intro x108 ex
      replace h := h x108 ex
      intro x109 ex
      replace h := h x109 ex
      exact ih x1 x108 x109 _ _ hC hP h
def v_X6_sumOfSocieties_b0 (E : eT) (x1 : Int32) (Z : zT) (Q : Int32 → zT → Prop) : Prop :=
  ∃ n9 : Nat, 
  v_X6_sumOfSocieties_b4 E Q n9 x1 (0 : Int32) (0 : Int32) Z
set_option maxHeartbeats 1000000 in
theorem u_X6_sumOfSocieties_b0 {Q : Int32 → sT → Prop} {Q' : Int32 → zT → Prop} {x1 : Int32} {S : sT} {Z : zT} (hSt : cSt P) (hQ : ∀ x S Z, CC H E S Z → P S → Q' x Z → Q x S)   (hC : CC H E S Z) (hP : P S) (h : v_X6_sumOfSocieties_b0 E x1 Z Q') : w_X6_sumOfSocieties_b0 (H 0 9 0) x1 S Q := by
  unfold v_X6_sumOfSocieties_b0 at h
  unfold w_X6_sumOfSocieties_b0
  obtain ⟨n9, h⟩ := h
  refine ⟨n9, ?_⟩
  exact u_X6_sumOfSocieties_b4 hSt hQ n9 x1 (0 : Int32) (0 : Int32) _ _ hC hP h
def v_X6_sumOfSocieties (E : eT) (x1 : Int32) (Z : zT) (Q : Int32 → zT → Prop) : Prop :=
  v_X6_sumOfSocieties_b0 E x1 Z Q
set_option maxHeartbeats 1000000 in
theorem u_X6_sumOfSocieties {Q : Int32 → sT → Prop} {Q' : Int32 → zT → Prop} {x1 : Int32} {S : sT} {Z : zT} (hSt : cSt P) (hQ : ∀ x S Z, CC H E S Z → P S → Q' x Z → Q x S)   (hC : CC H E S Z) (hP : P S) (h : v_X6_sumOfSocieties E x1 Z Q') : w_X6_sumOfSocieties (H 0 9 0) x1 S Q := by
  unfold v_X6_sumOfSocieties at h
  unfold w_X6_sumOfSocieties
  exact u_X6_sumOfSocieties_b0 hSt hQ hC hP h
def v_X6_water_b0 (E : eT) (x1 : Int32) (Z : zT) (Q : Int32 → zT → Prop) : Prop :=
  ((x1 = 0 →
  ∀ x104 : Int32, x104 = Z 0 69 0 →
  Q x104 Z) ∧
  (x1 = 1 →
  v_X6_sumOfFields E (1 : Int32) Z (fun x107 Z106 =>
  Q x107 Z106)) ∧
  (x1 = 2 →
  ∀ x110 : Int32, x110 = Z 0 68 0 →
  Q x110 Z) ∧
  (x1 = 3 →
  v_X6_sumOfSocieties E (3 : Int32) Z (fun x113 Z112 =>
  Q x113 Z112)) ∧
  (x1 = 4 →
  ∀ x117 : Int32, x117 = Z 0 70 0 →
  Q x117 Z) ∧
  (x1 = 5 →
  ∀ x121 : Int32, x121 = Z 0 71 0 →
  Q x121 Z) ∧
  (x1 = 6 →
  ∀ x125 : Int32, x125 = Z 0 72 0 →
  Q x125 Z) ∧
  ((¬ x1 = 0 ∧ ¬ x1 = 1 ∧ ¬ x1 = 2 ∧ ¬ x1 = 3 ∧ ¬ x1 = 4 ∧ ¬ x1 = 5 ∧ ¬ x1 = 6) →
  False))
set_option maxHeartbeats 1000000 in
theorem u_X6_water_b0 {Q : Int32 → sT → Prop} {Q' : Int32 → zT → Prop} {x1 : Int32} {S : sT} {Z : zT} (hSt : cSt P) (hQ : ∀ x S Z, CC H E S Z → P S → Q' x Z → Q x S)   (hC : CC H E S Z) (hP : P S) (h : v_X6_water_b0 E x1 Z Q') : w_X6_water_b0 (H 0 9 0) x1 S Q := by
  unfold v_X6_water_b0 at h
  unfold w_X6_water_b0
  refine ⟨fun c => ?_, fun c => ?_, fun c => ?_, fun c => ?_, fun c => ?_, fun c => ?_, fun c => ?_, fun c => ?_⟩
  · replace h := h.1 c
    refine ⟨rK_Sub hC, ?_⟩
    refine ⟨_, rF_224 hC, ?_⟩
    refine ⟨rK_Hill hC z02, ?_⟩
    refine ⟨_, rF_98 hC z02, ?_⟩
    refine ⟨rK_Led hC z02, ?_⟩
    intro x104 ex
    replace h := h x104 (ex.trans (rI_69 hC z02 z01))
    exact hQ _ _ _ hC hP h
  · replace h := h.2.1 c
    refine ⟨rK_Sub hC, ?_⟩
    refine u_X6_sumOfFields hSt (fun x107 S106 Z106 hC hP h => ?_) hC hP h
    exact hQ _ _ _ hC hP h
  · replace h := h.2.2.1 c
    refine ⟨rK_Sub hC, ?_⟩
    refine ⟨_, rF_224 hC, ?_⟩
    refine ⟨rK_Hill hC z02, ?_⟩
    intro x110 ex
    replace h := h x110 (ex.trans (rI_68 hC z02 z01))
    exact hQ _ _ _ hC hP h
  · replace h := h.2.2.2.1 c
    refine ⟨rK_Sub hC, ?_⟩
    refine u_X6_sumOfSocieties hSt (fun x113 S112 Z112 hC hP h => ?_) hC hP h
    exact hQ _ _ _ hC hP h
  · replace h := h.2.2.2.2.1 c
    refine ⟨rK_Sub hC, ?_⟩
    refine ⟨_, rF_224 hC, ?_⟩
    refine ⟨rK_Hill hC z02, ?_⟩
    refine ⟨_, rF_98 hC z02, ?_⟩
    refine ⟨rK_Led hC z02, ?_⟩
    intro x117 ex
    replace h := h x117 (ex.trans (rI_70 hC z02 z01))
    exact hQ _ _ _ hC hP h
  · replace h := h.2.2.2.2.2.1 c
    refine ⟨rK_Sub hC, ?_⟩
    refine ⟨_, rF_224 hC, ?_⟩
    refine ⟨rK_Hill hC z02, ?_⟩
    refine ⟨_, rF_98 hC z02, ?_⟩
    refine ⟨rK_Led hC z02, ?_⟩
    intro x121 ex
    replace h := h x121 (ex.trans (rI_71 hC z02 z01))
    exact hQ _ _ _ hC hP h
  · replace h := h.2.2.2.2.2.2.1 c
    refine ⟨rK_Sub hC, ?_⟩
    refine ⟨_, rF_224 hC, ?_⟩
    refine ⟨rK_Hill hC z02, ?_⟩
    refine ⟨_, rF_98 hC z02, ?_⟩
    refine ⟨rK_Led hC z02, ?_⟩
    intro x125 ex
    replace h := h x125 (ex.trans (rI_72 hC z02 z01))
    exact hQ _ _ _ hC hP h
  · replace h := h.2.2.2.2.2.2.2 c
    exact h.elim
def v_X6_water (E : eT) (x1 : Int32) (Z : zT) (Q : Int32 → zT → Prop) : Prop :=
  v_X6_water_b0 E x1 Z Q
set_option maxHeartbeats 1000000 in
theorem u_X6_water {Q : Int32 → sT → Prop} {Q' : Int32 → zT → Prop} {x1 : Int32} {S : sT} {Z : zT} (hSt : cSt P) (hQ : ∀ x S Z, CC H E S Z → P S → Q' x Z → Q x S)   (hC : CC H E S Z) (hP : P S) (h : v_X6_water E x1 Z Q') : w_X6_water (H 0 9 0) x1 S Q := by
  unfold v_X6_water at h
  unfold w_X6_water
  exact u_X6_water_b0 hSt hQ hC hP h
def v_X6_isClosed_b50 (E : eT) (y0 : Int32) (Z : zT) (Q : Int32 → zT → Prop) : Prop :=
  (y0 = 0 ∨ y0 = 1) ∧
  Q y0 Z
set_option maxHeartbeats 1000000 in
theorem u_X6_isClosed_b50 {Q : Int32 → sT → Prop} {Q' : Int32 → zT → Prop} {y0 : Int32} {S : sT} {Z : zT} (hSt : cSt P) (hQ : ∀ x S Z, CC H E S Z → P S → Q' x Z → Q x S)   (hC : CC H E S Z) (hP : P S) (h : v_X6_isClosed_b50 E y0 Z Q') : w_X6_isClosed_b50 y0 S Q := by
  unfold v_X6_isClosed_b50 at h
  unfold w_X6_isClosed_b50
  obtain ⟨hn, h⟩ := h
  refine ⟨hn, ?_⟩
  exact hQ _ _ _ hC hP h
def v_X6_isClosed_b0 (E : eT) (Z : zT) (Q : Int32 → zT → Prop) : Prop :=
  v_X6_sumOfFields E (1 : Int32) Z (fun x102 Z101 =>
  ∀ x104 : Int32, x104 = Z101 0 68 0 →
  ∀ x105 : Int32, x105 = x102 + x104 →
  v_X6_sumOfSocieties E (3 : Int32) Z101 (fun x107 Z106 =>
  ∀ x108 : Int32, x108 = x105 + x107 →
  ∀ x111 : Int32, x111 = Z106 0 69 0 →
  v_X3_sumOfGone E 0 Z106 (fun x115 Z114 =>
  ∀ x116 : Int32, x116 = x108 + x115 →
  ((¬ x111 = x116 →
  v_X6_isClosed_b50 E (0 : Int32) Z114 Q) ∧
  (x111 = x116 →
  v_X6_isClosed_b50 E (1 : Int32) Z114 Q)))))
set_option maxHeartbeats 1000000 in
theorem u_X6_isClosed_b0 {Q : Int32 → sT → Prop} {Q' : Int32 → zT → Prop}  {S : sT} {Z : zT} (hSt : cSt P) (hQ : ∀ x S Z, CC H E S Z → P S → Q' x Z → Q x S)   (hC : CC H E S Z) (hP : P S) (h : v_X6_isClosed_b0 E Z Q') : w_X6_isClosed_b0 (H 0 9 0) S Q := by
  unfold v_X6_isClosed_b0 at h
  unfold w_X6_isClosed_b0
  refine ⟨rK_Sub hC, ?_⟩
  refine u_X6_sumOfFields hSt (fun x102 S101 Z101 hC hP h => ?_) hC hP h
  refine ⟨rK_Sub hC, ?_⟩
  refine ⟨_, rF_224 hC, ?_⟩
  refine ⟨rK_Hill hC z02, ?_⟩
  intro x104 ex
  replace h := h x104 (ex.trans (rI_68 hC z02 z01))
  intro x105 ex
  replace h := h x105 ex
  refine u_X6_sumOfSocieties hSt (fun x107 S106 Z106 hC hP h => ?_) hC hP h
  intro x108 ex
  replace h := h x108 ex
  refine ⟨rK_Sub hC, ?_⟩
  refine ⟨_, rF_224 hC, ?_⟩
  refine ⟨rK_Hill hC z02, ?_⟩
  refine ⟨_, rF_98 hC z02, ?_⟩
  refine ⟨rK_Led hC z02, ?_⟩
  intro x111 ex
  replace h := h x111 (ex.trans (rI_69 hC z02 z01))
  refine ⟨_, rF_224 hC, ?_⟩
  refine ⟨rK_Hill hC z02, ?_⟩
  refine ⟨_, rF_98 hC z02, ?_⟩
  refine ⟨rK_Led hC z02, ?_⟩
  refine u_X3_sumOfGone hSt (fun x115 S114 Z114 hC hP h => ?_) z02 hC hP h
  intro x116 ex
  replace h := h x116 ex
  refine ⟨fun c => ?_, fun c => ?_⟩
  · replace h := h.1 c
    exact u_X6_isClosed_b50 hSt hQ hC hP h
  · replace h := h.2 c
    exact u_X6_isClosed_b50 hSt hQ hC hP h
def v_X6_isClosed (E : eT) (Z : zT) (Q : Int32 → zT → Prop) : Prop :=
  v_X6_isClosed_b0 E Z Q
set_option maxHeartbeats 1000000 in
theorem u_X6_isClosed {Q : Int32 → sT → Prop} {Q' : Int32 → zT → Prop}  {S : sT} {Z : zT} (hSt : cSt P) (hQ : ∀ x S Z, CC H E S Z → P S → Q' x Z → Q x S)   (hC : CC H E S Z) (hP : P S) (h : v_X6_isClosed E Z Q') : w_X6_isClosed (H 0 9 0) S Q := by
  unfold v_X6_isClosed at h
  unfold w_X6_isClosed
  exact u_X6_isClosed_b0 hSt hQ hC hP h
def v_X6_thought_b24 (E : eT) (y0 : Int32) (Z : zT) (Q : Int32 → zT → Prop) : Prop :=
  Q y0 Z
set_option maxHeartbeats 1000000 in
theorem u_X6_thought_b24 {Q : Int32 → sT → Prop} {Q' : Int32 → zT → Prop} {y0 : Int32} {S : sT} {Z : zT} (hSt : cSt P) (hQ : ∀ x S Z, CC H E S Z → P S → Q' x Z → Q x S)   (hC : CC H E S Z) (hP : P S) (h : v_X6_thought_b24 E y0 Z Q') : w_X6_thought_b24 y0 S Q := by
  unfold v_X6_thought_b24 at h
  unfold w_X6_thought_b24
  exact hQ _ _ _ hC hP h
def v_X6_thought_b0 (E : eT) (x1 : Int32) (x2 : Int32) (Z : zT) (Q : Int32 → zT → Prop) : Prop :=
  v_X6_fieldAt E x1 Z (fun a102 Z101 =>
  ((x2 = 0 →
  ∀ x105 : Int32, x105 = Z101 0 20 a102 →
  v_X6_thought_b24 E x105 Z101 Q) ∧
  (¬ x2 = 0 →
  ∀ x106 : Int32, x106 = Z101 0 21 a102 →
  v_X6_thought_b24 E x106 Z101 Q)))
set_option maxHeartbeats 1000000 in
theorem u_X6_thought_b0 {Q : Int32 → sT → Prop} {Q' : Int32 → zT → Prop} {x1 : Int32} {x2 : Int32} {S : sT} {Z : zT} (hSt : cSt P) (hQ : ∀ x S Z, CC H E S Z → P S → Q' x Z → Q x S)   (hC : CC H E S Z) (hP : P S) (h : v_X6_thought_b0 E x1 x2 Z Q') : w_X6_thought_b0 (H 0 9 0) x1 x2 S Q := by
  unfold v_X6_thought_b0 at h
  unfold w_X6_thought_b0
  refine ⟨rK_Sub hC, ?_⟩
  refine u_X6_fieldAt hSt (fun a102 S101 Z101 k_a102 hC hP h => ?_) hC hP h
  refine ⟨rK_Fld hC z02 k_a102, ?_⟩
  refine ⟨_, rF_69 hC z02 k_a102, ?_⟩
  refine ⟨fun c => ?_, fun c => ?_⟩
  · replace h := h.1 c
    refine ⟨rK_Crp hC z02 k_a102, ?_⟩
    intro x105 ex
    replace h := h x105 (ex.trans (rI_20 hC z02 k_a102))
    exact u_X6_thought_b24 hSt hQ hC hP h
  · replace h := h.2 c
    refine ⟨rK_Crp hC z02 k_a102, ?_⟩
    intro x106 ex
    replace h := h x106 (ex.trans (rI_21 hC z02 k_a102))
    exact u_X6_thought_b24 hSt hQ hC hP h
def v_X6_thought (E : eT) (x1 : Int32) (x2 : Int32) (Z : zT) (Q : Int32 → zT → Prop) : Prop :=
  v_X6_thought_b0 E x1 x2 Z Q
set_option maxHeartbeats 1000000 in
theorem u_X6_thought {Q : Int32 → sT → Prop} {Q' : Int32 → zT → Prop} {x1 : Int32} {x2 : Int32} {S : sT} {Z : zT} (hSt : cSt P) (hQ : ∀ x S Z, CC H E S Z → P S → Q' x Z → Q x S)   (hC : CC H E S Z) (hP : P S) (h : v_X6_thought E x1 x2 Z Q') : w_X6_thought (H 0 9 0) x1 x2 S Q := by
  unfold v_X6_thought at h
  unfold w_X6_thought
  exact u_X6_thought_b0 hSt hQ hC hP h
def v_X6_sumOfOwners_b4 (E : eT)  (Q : Int32 → zT → Prop) : Nat → Int32 → Int32 → Int32 → zT → Prop
  | 0 => fun _ _ _ _ => False
  | n + 1 => fun x1 x2 x3 Z =>
    ∀ x104 : Int32, x104 = nI E.2.1 →
    ((x104 ≤ x3 →
    Q x2 Z) ∧
    (¬ x104 ≤ x3 →
    v_X6_ofOwner E x3 x1 Z (fun x107 Z106 =>
    ∀ x108 : Int32, x108 = x2 + x107 →
    ∀ x109 : Int32, x109 = x3 + 1 →
    v_X6_sumOfOwners_b4 E Q n x1 x108 x109 Z106)))
set_option maxHeartbeats 1000000 in
theorem u_X6_sumOfOwners_b4 {Q : Int32 → sT → Prop} {Q' : Int32 → zT → Prop} (hSt : cSt P) (hQ : ∀ x S Z, CC H E S Z → P S → Q' x Z → Q x S)  : ∀ (n : Nat) (x1 : Int32) (x2 : Int32) (x3 : Int32) (S : sT) (Z : zT), CC H E S Z → P S → v_X6_sumOfOwners_b4 E  Q' n x1 x2 x3 Z → w_X6_sumOfOwners_b4  Q n (H 0 9 0) x1 x2 x3 S := by
  intro n
  induction n with
  | zero => intro x1 x2 x3 S Z  hC hP h; exact absurd h id
  | succ n ih =>
    intro x1 x2 x3 S Z  hC hP h
    unfold v_X6_sumOfOwners_b4 at h
    unfold w_X6_sumOfOwners_b4
    refine ⟨rK_Sub hC, ?_⟩
    refine ⟨_, rF_224 hC, ?_⟩
    refine ⟨rK_Hill hC z02, ?_⟩
    refine ⟨_, rF_97 hC z02, ?_⟩
    refine ⟨rK_LF hC z02, ?_⟩
    refine us_size (rL_LF hC z02) ?_
    replace h := h _ rfl
    refine ⟨fun c => ?_, fun c => ?_⟩
    · replace h := h.1 c
      exact hQ _ _ _ hC hP h
    · replace h := h.2 c
      refine ⟨rK_Sub hC, ?_⟩
      refine u_X6_ofOwner hSt (fun x107 S106 Z106 hC hP h => ?_) hC hP h
      intro x108 ex
      replace h := h x108 ex
      intro x109 ex
      replace h := h x109 ex
      exact ih x1 x108 x109 _ _ hC hP h
def v_X6_sumOfOwners_b0 (E : eT) (x1 : Int32) (Z : zT) (Q : Int32 → zT → Prop) : Prop :=
  ∃ n9 : Nat, 
  v_X6_sumOfOwners_b4 E Q n9 x1 (0 : Int32) (0 : Int32) Z
set_option maxHeartbeats 1000000 in
theorem u_X6_sumOfOwners_b0 {Q : Int32 → sT → Prop} {Q' : Int32 → zT → Prop} {x1 : Int32} {S : sT} {Z : zT} (hSt : cSt P) (hQ : ∀ x S Z, CC H E S Z → P S → Q' x Z → Q x S)   (hC : CC H E S Z) (hP : P S) (h : v_X6_sumOfOwners_b0 E x1 Z Q') : w_X6_sumOfOwners_b0 (H 0 9 0) x1 S Q := by
  unfold v_X6_sumOfOwners_b0 at h
  unfold w_X6_sumOfOwners_b0
  obtain ⟨n9, h⟩ := h
  refine ⟨n9, ?_⟩
  exact u_X6_sumOfOwners_b4 hSt hQ n9 x1 (0 : Int32) (0 : Int32) _ _ hC hP h
def v_X6_sumOfOwners (E : eT) (x1 : Int32) (Z : zT) (Q : Int32 → zT → Prop) : Prop :=
  v_X6_sumOfOwners_b0 E x1 Z Q
set_option maxHeartbeats 1000000 in
theorem u_X6_sumOfOwners {Q : Int32 → sT → Prop} {Q' : Int32 → zT → Prop} {x1 : Int32} {S : sT} {Z : zT} (hSt : cSt P) (hQ : ∀ x S Z, CC H E S Z → P S → Q' x Z → Q x S)   (hC : CC H E S Z) (hP : P S) (h : v_X6_sumOfOwners E x1 Z Q') : w_X6_sumOfOwners (H 0 9 0) x1 S Q := by
  unfold v_X6_sumOfOwners at h
  unfold w_X6_sumOfOwners
  exact u_X6_sumOfOwners_b0 hSt hQ hC hP h
def v_X6_many_b0 (E : eT) (x1 : Int32) (Z : zT) (Q : Int32 → zT → Prop) : Prop :=
  ((x1 = 0 →
  ∀ x105 : Int32, x105 = nI E.1 →
  Q x105 Z) ∧
  (x1 = 1 →
  ∀ x110 : Int32, x110 = nI E.2.1 →
  Q x110 Z) ∧
  (x1 = 2 →
  ∀ x113 : Int32, x113 = Z 0 64 0 →
  Q x113 Z) ∧
  (x1 = 3 →
  v_X2_templeDay E 0 Z (fun x117 Z116 =>
  Q x117 Z116)) ∧
  (x1 = 4 →
  v_X2_isDark E 0 Z (fun x121 Z120 =>
  v_X6_oneIf E x121 Z120 (fun x123 Z122 =>
  Q x123 Z122))) ∧
  (x1 = 5 →
  v_X6_sumOfFields E (8 : Int32) Z (fun x126 Z125 =>
  Q x126 Z125)) ∧
  (x1 = 6 →
  v_X6_sumOfOwners E (0 : Int32) Z (fun x129 Z128 =>
  Q x129 Z128)) ∧
  (x1 = 7 →
  v_X6_sumOfSocieties E (2 : Int32) Z (fun x132 Z131 =>
  Q x132 Z131)) ∧
  (x1 = 8 →
  v_X6_sumOfOwners E (3 : Int32) Z (fun x135 Z134 =>
  Q x135 Z134)) ∧
  (x1 = 9 →
  ∀ x138 : Int32, x138 = Z 0 73 0 →
  Q x138 Z) ∧
  (x1 = 10 →
  ∀ x141 : Int32, x141 = Z 0 74 0 →
  Q x141 Z) ∧
  (x1 = 11 →
  v_X6_sumOfStones E Z (fun x144 Z143 =>
  Q x144 Z143)) ∧
  ((¬ x1 = 0 ∧ ¬ x1 = 1 ∧ ¬ x1 = 2 ∧ ¬ x1 = 3 ∧ ¬ x1 = 4 ∧ ¬ x1 = 5 ∧ ¬ x1 = 6 ∧ ¬ x1 = 7 ∧ ¬ x1 = 8 ∧ ¬ x1 = 9 ∧ ¬ x1 = 10 ∧ ¬ x1 = 11) →
  False))
set_option maxHeartbeats 1000000 in
theorem u_X6_many_b0 {Q : Int32 → sT → Prop} {Q' : Int32 → zT → Prop} {x1 : Int32} {S : sT} {Z : zT} (hSt : cSt P) (hQ : ∀ x S Z, CC H E S Z → P S → Q' x Z → Q x S)   (hC : CC H E S Z) (hP : P S) (h : v_X6_many_b0 E x1 Z Q') : w_X6_many_b0 (H 0 9 0) x1 S Q := by
  unfold v_X6_many_b0 at h
  unfold w_X6_many_b0
  refine ⟨fun c => ?_, fun c => ?_, fun c => ?_, fun c => ?_, fun c => ?_, fun c => ?_, fun c => ?_, fun c => ?_, fun c => ?_, fun c => ?_, fun c => ?_, fun c => ?_, fun c => ?_⟩
  · replace h := h.1 c
    refine ⟨rK_Sub hC, ?_⟩
    refine ⟨_, rF_224 hC, ?_⟩
    refine ⟨rK_Hill hC z02, ?_⟩
    refine ⟨_, rF_96 hC z02, ?_⟩
    refine ⟨rK_LS hC z02, ?_⟩
    refine us_size (rL_LS hC z02) ?_
    replace h := h _ rfl
    exact hQ _ _ _ hC hP h
  · replace h := h.2.1 c
    refine ⟨rK_Sub hC, ?_⟩
    refine ⟨_, rF_224 hC, ?_⟩
    refine ⟨rK_Hill hC z02, ?_⟩
    refine ⟨_, rF_97 hC z02, ?_⟩
    refine ⟨rK_LF hC z02, ?_⟩
    refine us_size (rL_LF hC z02) ?_
    replace h := h _ rfl
    exact hQ _ _ _ hC hP h
  · replace h := h.2.2.1 c
    refine ⟨rK_Sub hC, ?_⟩
    refine ⟨_, rF_224 hC, ?_⟩
    refine ⟨rK_Hill hC z02, ?_⟩
    intro x113 ex
    replace h := h x113 (ex.trans (rI_64 hC z02 z01))
    exact hQ _ _ _ hC hP h
  · replace h := h.2.2.2.1 c
    refine ⟨rK_Sub hC, ?_⟩
    refine ⟨_, rF_224 hC, ?_⟩
    refine ⟨rK_Hill hC z02, ?_⟩
    refine u_X2_templeDay hSt (fun x117 S116 Z116 hC hP h => ?_) z02 hC hP h
    exact hQ _ _ _ hC hP h
  · replace h := h.2.2.2.2.1 c
    refine ⟨rK_Sub hC, ?_⟩
    refine ⟨_, rF_224 hC, ?_⟩
    refine ⟨rK_Hill hC z02, ?_⟩
    refine u_X2_isDark hSt (fun x121 S120 Z120 hC hP h => ?_) z02 hC hP h
    refine u_X6_oneIf hSt (fun x123 S122 Z122 hC hP h => ?_) hC hP h
    exact hQ _ _ _ hC hP h
  · replace h := h.2.2.2.2.2.1 c
    refine ⟨rK_Sub hC, ?_⟩
    refine u_X6_sumOfFields hSt (fun x126 S125 Z125 hC hP h => ?_) hC hP h
    exact hQ _ _ _ hC hP h
  · replace h := h.2.2.2.2.2.2.1 c
    refine ⟨rK_Sub hC, ?_⟩
    refine u_X6_sumOfOwners hSt (fun x129 S128 Z128 hC hP h => ?_) hC hP h
    exact hQ _ _ _ hC hP h
  · replace h := h.2.2.2.2.2.2.2.1 c
    refine ⟨rK_Sub hC, ?_⟩
    refine u_X6_sumOfSocieties hSt (fun x132 S131 Z131 hC hP h => ?_) hC hP h
    exact hQ _ _ _ hC hP h
  · replace h := h.2.2.2.2.2.2.2.2.1 c
    refine ⟨rK_Sub hC, ?_⟩
    refine u_X6_sumOfOwners hSt (fun x135 S134 Z134 hC hP h => ?_) hC hP h
    exact hQ _ _ _ hC hP h
  · replace h := h.2.2.2.2.2.2.2.2.2.1 c
    refine ⟨rK_Sub hC, ?_⟩
    refine ⟨_, rF_224 hC, ?_⟩
    refine ⟨rK_Hill hC z02, ?_⟩
    intro x138 ex
    replace h := h x138 (ex.trans (rI_73 hC z02 z01))
    exact hQ _ _ _ hC hP h
  · replace h := h.2.2.2.2.2.2.2.2.2.2.1 c
    refine ⟨rK_Sub hC, ?_⟩
    refine ⟨_, rF_224 hC, ?_⟩
    refine ⟨rK_Hill hC z02, ?_⟩
    intro x141 ex
    replace h := h x141 (ex.trans (rI_74 hC z02 z01))
    exact hQ _ _ _ hC hP h
  · replace h := h.2.2.2.2.2.2.2.2.2.2.2.1 c
    refine ⟨rK_Sub hC, ?_⟩
    refine u_X6_sumOfStones hSt (fun x144 S143 Z143 hC hP h => ?_) hC hP h
    exact hQ _ _ _ hC hP h
  · replace h := h.2.2.2.2.2.2.2.2.2.2.2.2 c
    exact h.elim
def v_X6_many (E : eT) (x1 : Int32) (Z : zT) (Q : Int32 → zT → Prop) : Prop :=
  v_X6_many_b0 E x1 Z Q
set_option maxHeartbeats 1000000 in
theorem u_X6_many {Q : Int32 → sT → Prop} {Q' : Int32 → zT → Prop} {x1 : Int32} {S : sT} {Z : zT} (hSt : cSt P) (hQ : ∀ x S Z, CC H E S Z → P S → Q' x Z → Q x S)   (hC : CC H E S Z) (hP : P S) (h : v_X6_many E x1 Z Q') : w_X6_many (H 0 9 0) x1 S Q := by
  unfold v_X6_many at h
  unfold w_X6_many
  exact u_X6_many_b0 hSt hQ hC hP h
def v_X6_suspect_b0 (E : eT) (x1 : Int32) (Z : zT) (Q : Int32 → zT → Prop) : Prop :=
  v_X6_societyAt E x1 Z (fun a102 Z101 =>
  v_X5_mostAboveNotch E 0 a102 Z101 (fun r104 Z103 =>
  v_X6_numberOf E r104 Z103 (fun x106 Z105 =>
  Q x106 Z105)))
set_option maxHeartbeats 1000000 in
theorem u_X6_suspect_b0 {Q : Int32 → sT → Prop} {Q' : Int32 → zT → Prop} {x1 : Int32} {S : sT} {Z : zT} (hSt : cSt P) (hQ : ∀ x S Z, CC H E S Z → P S → Q' x Z → Q x S)   (hC : CC H E S Z) (hP : P S) (h : v_X6_suspect_b0 E x1 Z Q') : w_X6_suspect_b0 (H 0 9 0) x1 S Q := by
  unfold v_X6_suspect_b0 at h
  unfold w_X6_suspect_b0
  refine ⟨rK_Sub hC, ?_⟩
  refine u_X6_societyAt hSt (fun a102 S101 Z101 k_a102 hC hP h => ?_) hC hP h
  refine ⟨rK_Soc hC z02 k_a102, ?_⟩
  refine u_X5_mostAboveNotch (x0 := a102) hSt (fun r104 S103 Z103 k_r104 hC hP h => ?_) z02 k_a102 hC hP h
  refine u_X6_numberOf (x0 := r104) hSt (fun x106 S105 Z105 hC hP h => ?_) k_r104 hC hP h
  exact hQ _ _ _ hC hP h
def v_X6_suspect (E : eT) (x1 : Int32) (Z : zT) (Q : Int32 → zT → Prop) : Prop :=
  v_X6_suspect_b0 E x1 Z Q
set_option maxHeartbeats 1000000 in
theorem u_X6_suspect {Q : Int32 → sT → Prop} {Q' : Int32 → zT → Prop} {x1 : Int32} {S : sT} {Z : zT} (hSt : cSt P) (hQ : ∀ x S Z, CC H E S Z → P S → Q' x Z → Q x S)   (hC : CC H E S Z) (hP : P S) (h : v_X6_suspect E x1 Z Q') : w_X6_suspect (H 0 9 0) x1 S Q := by
  unfold v_X6_suspect at h
  unfold w_X6_suspect
  exact u_X6_suspect_b0 hSt hQ hC hP h
def v_X6_checkDays_b0 (E : eT) (x0 : Int32) (x1 : Int32) (Z : zT) (Q : zT → Prop) : Prop :=
  v_X6_isWithin E x0 (1 : Int32) x1 Z (fun x102 Z101 =>
  ((¬ x102 = 0 →
  Q Z101) ∧
  (x102 = 0 →
  False)))
set_option maxHeartbeats 1000000 in
theorem u_X6_checkDays_b0 {Q : sT → Prop} {Q' : zT → Prop} {x0 : Int32} {x1 : Int32} {S : sT} {Z : zT} (hSt : cSt P) (hQ : ∀ S Z, CC H E S Z → P S → Q' Z → Q S)   (hC : CC H E S Z) (hP : P S) (h : v_X6_checkDays_b0 E x0 x1 Z Q') : w_X6_checkDays_b0 x0 x1 S Q := by
  unfold v_X6_checkDays_b0 at h
  unfold w_X6_checkDays_b0
  refine u_X6_isWithin hSt (fun x102 S101 Z101 hC hP h => ?_) hC hP h
  refine ⟨fun c => ?_, fun c => ?_⟩
  · replace h := h.1 c
    exact hQ _ _ hC hP h
  · replace h := h.2 c
    exact h.elim
def v_X6_checkDays (E : eT) (x0 : Int32) (x1 : Int32) (Z : zT) (Q : zT → Prop) : Prop :=
  v_X6_checkDays_b0 E x0 x1 Z Q
set_option maxHeartbeats 1000000 in
theorem u_X6_checkDays {Q : sT → Prop} {Q' : zT → Prop} {x0 : Int32} {x1 : Int32} {S : sT} {Z : zT} (hSt : cSt P) (hQ : ∀ S Z, CC H E S Z → P S → Q' Z → Q S)   (hC : CC H E S Z) (hP : P S) (h : v_X6_checkDays E x0 x1 Z Q') : w_X6_checkDays x0 x1 S Q := by
  unfold v_X6_checkDays at h
  unfold w_X6_checkDays
  exact u_X6_checkDays_b0 hSt hQ hC hP h
def v_X6_ripeIn_b27 (E : eT)  (Q : Int32 → zT → Prop) : Nat → Int32 → Int32 → Int32 → zT → Prop
  | 0 => fun _ _ _ _ => False
  | n + 1 => fun x1 x2 x3 Z =>
    ((x1 < x3 →
    Q (-1 : Int32) Z) ∧
    (¬ x1 < x3 →
    ∀ x104 : Int32, x104 = Z 0 65 0 →
    ∀ x106 : Int32, x106 = Z 0 66 0 →
    ∀ x108 : Int32, x108 = Z 0 67 0 →
    v_X2_passDay E 1 x104 x106 x108 Z (fun Z109 =>
    v_X2_countRipe E 1 Z109 (fun x112 Z111 =>
    ((x112 ≤ x2 →
    ∀ x114 : Int32, x114 = x3 + 1 →
    v_X6_ripeIn_b27 E Q n x1 x2 x114 Z111) ∧
    (¬ x112 ≤ x2 →
    Q x3 Z111))))))
set_option maxHeartbeats 1000000 in
theorem u_X6_ripeIn_b27 {Q : Int32 → sT → Prop} {Q' : Int32 → zT → Prop} (hSt : cSt P) (hQ : ∀ x S Z, CC H E S Z → P S → Q' x Z → Q x S)  : ∀ (n : Nat) (x1 : Int32) (x2 : Int32) (x3 : Int32) (S : sT) (Z : zT), CC H E S Z → P S → v_X6_ripeIn_b27 E  Q' n x1 x2 x3 Z → w_X6_ripeIn_b27  Q n (H 0 9 0) x1 x2 x3 S := by
  intro n
  induction n with
  | zero => intro x1 x2 x3 S Z  hC hP h; exact absurd h id
  | succ n ih =>
    intro x1 x2 x3 S Z  hC hP h
    unfold v_X6_ripeIn_b27 at h
    unfold w_X6_ripeIn_b27
    refine ⟨fun c => ?_, fun c => ?_⟩
    · replace h := h.1 c
      exact hQ _ _ _ hC hP h
    · replace h := h.2 c
      refine ⟨rK_Sub hC, ?_⟩
      refine ⟨_, rF_225 hC, ?_⟩
      refine ⟨_, rF_224 hC, ?_⟩
      refine ⟨rK_Hill hC z02, ?_⟩
      intro x104 ex
      replace h := h x104 (ex.trans (rI_65 hC z02 z01))
      refine ⟨_, rF_224 hC, ?_⟩
      refine ⟨rK_Hill hC z02, ?_⟩
      intro x106 ex
      replace h := h x106 (ex.trans (rI_66 hC z02 z01))
      refine ⟨_, rF_224 hC, ?_⟩
      refine ⟨rK_Hill hC z02, ?_⟩
      intro x108 ex
      replace h := h x108 (ex.trans (rI_67 hC z02 z01))
      refine ⟨rK_Hill hC z12, ?_⟩
      refine u_X2_passDay hSt (fun S109 Z109 hC hP h => ?_) z12 hC hP h
      refine ⟨rK_Sub hC, ?_⟩
      refine ⟨_, rF_225 hC, ?_⟩
      refine ⟨rK_Hill hC z12, ?_⟩
      refine u_X2_countRipe hSt (fun x112 S111 Z111 hC hP h => ?_) z12 hC hP h
      refine ⟨fun c => ?_, fun c => ?_⟩
      · replace h := h.1 c
        intro x114 ex
        replace h := h x114 ex
        exact ih x1 x2 x114 _ _ hC hP h
      · replace h := h.2 c
        exact hQ _ _ _ hC hP h
def v_X6_ripeIn_b0 (E : eT) (x1 : Int32) (Z : zT) (Q : Int32 → zT → Prop) : Prop :=
  v_X6_checkDays E x1 (40 : Int32) Z (fun Z101 =>
  v_X2_copyFrom E Z101 (fun Z104 =>
  v_X2_countRipe E 0 Z104 (fun x107 Z106 =>
  ∃ n9 : Nat, 
  v_X6_ripeIn_b27 E Q n9 x1 x107 (1 : Int32) Z106)))
set_option maxHeartbeats 1000000 in
theorem u_X6_ripeIn_b0 {Q : Int32 → sT → Prop} {Q' : Int32 → zT → Prop} {x1 : Int32} {S : sT} {Z : zT} (hSt : cSt P) (hQ : ∀ x S Z, CC H E S Z → P S → Q' x Z → Q x S)   (hC : CC H E S Z) (hP : P S) (h : v_X6_ripeIn_b0 E x1 Z Q') : w_X6_ripeIn_b0 (H 0 9 0) x1 S Q := by
  unfold v_X6_ripeIn_b0 at h
  unfold w_X6_ripeIn_b0
  refine u_X6_checkDays hSt (fun S101 Z101 hC hP h => ?_) hC hP h
  refine ⟨rK_Sub hC, ?_⟩
  refine ⟨_, rF_225 hC, ?_⟩
  refine ⟨_, rF_224 hC, ?_⟩
  refine ⟨rK_Hill hC z12, ?_⟩
  refine u_X2_copyFrom hSt (fun S104 Z104 hC hP h => ?_) hC hP h
  refine ⟨rK_Sub hC, ?_⟩
  refine ⟨_, rF_224 hC, ?_⟩
  refine ⟨rK_Hill hC z02, ?_⟩
  refine u_X2_countRipe hSt (fun x107 S106 Z106 hC hP h => ?_) z02 hC hP h
  obtain ⟨n9, h⟩ := h
  refine ⟨n9, ?_⟩
  exact u_X6_ripeIn_b27 hSt hQ n9 x1 x107 (1 : Int32) _ _ hC hP h
def v_X6_ripeIn (E : eT) (x1 : Int32) (Z : zT) (Q : Int32 → zT → Prop) : Prop :=
  v_X6_ripeIn_b0 E x1 Z Q
set_option maxHeartbeats 1000000 in
theorem u_X6_ripeIn {Q : Int32 → sT → Prop} {Q' : Int32 → zT → Prop} {x1 : Int32} {S : sT} {Z : zT} (hSt : cSt P) (hQ : ∀ x S Z, CC H E S Z → P S → Q' x Z → Q x S)   (hC : CC H E S Z) (hP : P S) (h : v_X6_ripeIn E x1 Z Q') : w_X6_ripeIn (H 0 9 0) x1 S Q := by
  unfold v_X6_ripeIn at h
  unfold w_X6_ripeIn
  exact u_X6_ripeIn_b0 hSt hQ hC hP h
def v_X6_plan_b80 (E : eT) (x1 : Int32) (x2 : Int32) (x3 : Int32) (x4 : Int32) (x5 : Int32) (x6 : Int32) (Z : zT) (kk49 : Int32 → Int32 → Int32 → Int32 → Int32 → Int32 → zT → Prop) (Q : Int32 → zT → Prop) : Prop :=
  ∀ x101 : Int32, x101 = x6 + 1 →
  kk49 x1 x2 x3 x4 x5 x101 Z
set_option maxHeartbeats 1000000 in
theorem u_X6_plan_b80 {Q : Int32 → sT → Prop} {Q' : Int32 → zT → Prop} {x1 : Int32} {x2 : Int32} {x3 : Int32} {x4 : Int32} {x5 : Int32} {x6 : Int32} {S : sT} {Z : zT} (hSt : cSt P) (hQ : ∀ x S Z, CC H E S Z → P S → Q' x Z → Q x S) {kk49 : Nat → Int32 → Int32 → Int32 → Int32 → Int32 → Int32 → sT → Prop} {kk49' : Int32 → Int32 → Int32 → Int32 → Int32 → Int32 → zT → Prop} (hkk49 : ∀ (x1 : Int32) (x2 : Int32) (x3 : Int32) (x4 : Int32) (x5 : Int32) (x6 : Int32) S Z, CC H E S Z → P S → kk49' x1 x2 x3 x4 x5 x6 Z → kk49 (H 0 9 0) x1 x2 x3 x4 x5 x6 S)  (hC : CC H E S Z) (hP : P S) (h : v_X6_plan_b80 E x1 x2 x3 x4 x5 x6 Z kk49' Q') : w_X6_plan_b80 (H 0 9 0) x1 x2 x3 x4 x5 x6 S kk49 Q := by
  unfold v_X6_plan_b80 at h
  unfold w_X6_plan_b80
  intro x101 ex
  replace h := h x101 ex
  exact hkk49 x1 x2 x3 x4 x5 x101 _ _  hC hP h
def v_X6_plan_b49 (E : eT)  (Q : Int32 → zT → Prop) : Nat → Int32 → Int32 → Int32 → Int32 → Int32 → Int32 → zT → Prop
  | 0 => fun _ _ _ _ _ _ _ => False
  | n + 1 => fun x1 x2 x3 x4 x5 x6 Z =>
    ((x3 ≤ x6 →
    Q x4 Z) ∧
    (¬ x3 ≤ x6 →
    v_X6_yieldByPlan E x6 x1 x2 Z (fun x103 Z102 =>
    ((x103 ≤ x5 →
    v_X6_plan_b80 E x1 x2 x3 x4 x5 x6 Z102 (fun x1 x2 x3 x4 x5 x6 Z => v_X6_plan_b49 E Q n x1 x2 x3 x4 x5 x6 Z) Q) ∧
    (¬ x103 ≤ x5 →
    v_X6_plan_b80 E x1 x2 x3 x6 x103 x6 Z102 (fun x1 x2 x3 x4 x5 x6 Z => v_X6_plan_b49 E Q n x1 x2 x3 x4 x5 x6 Z) Q)))))
set_option maxHeartbeats 1000000 in
theorem u_X6_plan_b49 {Q : Int32 → sT → Prop} {Q' : Int32 → zT → Prop} (hSt : cSt P) (hQ : ∀ x S Z, CC H E S Z → P S → Q' x Z → Q x S)  : ∀ (n : Nat) (x1 : Int32) (x2 : Int32) (x3 : Int32) (x4 : Int32) (x5 : Int32) (x6 : Int32) (S : sT) (Z : zT), CC H E S Z → P S → v_X6_plan_b49 E  Q' n x1 x2 x3 x4 x5 x6 Z → w_X6_plan_b49  Q n (H 0 9 0) x1 x2 x3 x4 x5 x6 S := by
  intro n
  induction n with
  | zero => intro x1 x2 x3 x4 x5 x6 S Z  hC hP h; exact absurd h id
  | succ n ih =>
    intro x1 x2 x3 x4 x5 x6 S Z  hC hP h
    unfold v_X6_plan_b49 at h
    unfold w_X6_plan_b49
    refine ⟨fun c => ?_, fun c => ?_⟩
    · replace h := h.1 c
      exact hQ _ _ _ hC hP h
    · replace h := h.2 c
      refine ⟨rK_Sub hC, ?_⟩
      refine u_X6_yieldByPlan hSt (fun x103 S102 Z102 hC hP h => ?_) hC hP h
      refine ⟨fun c => ?_, fun c => ?_⟩
      · replace h := h.1 c
        exact u_X6_plan_b80 hSt hQ (fun x1 x2 x3 x4 x5 x6 S Z hC hP h => ih x1 x2 x3 x4 x5 x6 _ _ hC hP h) hC hP h
      · replace h := h.2 c
        exact u_X6_plan_b80 hSt hQ (fun x1 x2 x3 x4 x5 x6 S Z hC hP h => ih x1 x2 x3 x4 x5 x6 _ _ hC hP h) hC hP h
def v_X6_plan_b15 (E : eT)  (Q : Int32 → zT → Prop) : Nat → Int32 → Int32 → Int32 → Int32 → zT → Prop
  | 0 => fun _ _ _ _ _ => False
  | n + 1 => fun x1 x2 x3 x4 Z =>
    ∀ x104 : Int32, x104 = nI E.1 →
    ((x104 ≤ x4 →
    ∃ n9 : Nat, 
    v_X6_plan_b49 E Q n9 x1 x2 x3 (0 : Int32) (-1 : Int32) (0 : Int32) Z) ∧
    (¬ x104 ≤ x4 →
    ∀ x106 : Int32, x106 = x3 * (3 : Int32) →
    ∀ x107 : Int32, x107 = x4 + 1 →
    v_X6_plan_b15 E Q n x1 x2 x106 x107 Z))
set_option maxHeartbeats 1000000 in
theorem u_X6_plan_b15 {Q : Int32 → sT → Prop} {Q' : Int32 → zT → Prop} (hSt : cSt P) (hQ : ∀ x S Z, CC H E S Z → P S → Q' x Z → Q x S)  : ∀ (n : Nat) (x1 : Int32) (x2 : Int32) (x3 : Int32) (x4 : Int32) (S : sT) (Z : zT), CC H E S Z → P S → v_X6_plan_b15 E  Q' n x1 x2 x3 x4 Z → w_X6_plan_b15  Q n (H 0 9 0) x1 x2 x3 x4 S := by
  intro n
  induction n with
  | zero => intro x1 x2 x3 x4 S Z  hC hP h; exact absurd h id
  | succ n ih =>
    intro x1 x2 x3 x4 S Z  hC hP h
    unfold v_X6_plan_b15 at h
    unfold w_X6_plan_b15
    refine ⟨rK_Sub hC, ?_⟩
    refine ⟨_, rF_224 hC, ?_⟩
    refine ⟨rK_Hill hC z02, ?_⟩
    refine ⟨_, rF_96 hC z02, ?_⟩
    refine ⟨rK_LS hC z02, ?_⟩
    refine us_size (rL_LS hC z02) ?_
    replace h := h _ rfl
    refine ⟨fun c => ?_, fun c => ?_⟩
    · replace h := h.1 c
      obtain ⟨n9, h⟩ := h
      refine ⟨n9, ?_⟩
      exact u_X6_plan_b49 hSt hQ n9 x1 x2 x3 (0 : Int32) (-1 : Int32) (0 : Int32) _ _ hC hP h
    · replace h := h.2 c
      intro x106 ex
      replace h := h x106 ex
      intro x107 ex
      replace h := h x107 ex
      exact ih x1 x2 x106 x107 _ _ hC hP h
def v_X6_plan_b0 (E : eT) (x1 : Int32) (x2 : Int32) (Z : zT) (Q : Int32 → zT → Prop) : Prop :=
  v_X6_checkKind E x1 Z (fun Z101 =>
  v_X6_checkDays E x2 (30 : Int32) Z101 (fun Z102 =>
  ∃ n9 : Nat, 
  v_X6_plan_b15 E Q n9 x1 x2 (1 : Int32) (0 : Int32) Z102))
set_option maxHeartbeats 1000000 in
theorem u_X6_plan_b0 {Q : Int32 → sT → Prop} {Q' : Int32 → zT → Prop} {x1 : Int32} {x2 : Int32} {S : sT} {Z : zT} (hSt : cSt P) (hQ : ∀ x S Z, CC H E S Z → P S → Q' x Z → Q x S)   (hC : CC H E S Z) (hP : P S) (h : v_X6_plan_b0 E x1 x2 Z Q') : w_X6_plan_b0 (H 0 9 0) x1 x2 S Q := by
  unfold v_X6_plan_b0 at h
  unfold w_X6_plan_b0
  refine u_X6_checkKind hSt (fun S101 Z101 hC hP h => ?_) hC hP h
  refine u_X6_checkDays hSt (fun S102 Z102 hC hP h => ?_) hC hP h
  obtain ⟨n9, h⟩ := h
  refine ⟨n9, ?_⟩
  exact u_X6_plan_b15 hSt hQ n9 x1 x2 (1 : Int32) (0 : Int32) _ _ hC hP h
def v_X6_plan (E : eT) (x1 : Int32) (x2 : Int32) (Z : zT) (Q : Int32 → zT → Prop) : Prop :=
  v_X6_plan_b0 E x1 x2 Z Q
set_option maxHeartbeats 1000000 in
theorem u_X6_plan {Q : Int32 → sT → Prop} {Q' : Int32 → zT → Prop} {x1 : Int32} {x2 : Int32} {S : sT} {Z : zT} (hSt : cSt P) (hQ : ∀ x S Z, CC H E S Z → P S → Q' x Z → Q x S)   (hC : CC H E S Z) (hP : P S) (h : v_X6_plan E x1 x2 Z Q') : w_X6_plan (H 0 9 0) x1 x2 S Q := by
  unfold v_X6_plan at h
  unfold w_X6_plan
  exact u_X6_plan_b0 hSt hQ hC hP h
def v_X6_mixField_b36 (E : eT)  (Q : Int64 → zT → Prop) : Nat → Int32 → Int64 → Int32 → zT → Prop
  | 0 => fun _ _ _ _ => False
  | n + 1 => fun x3 x4 x6 Z =>
    (((3 : Int32) < x6 →
    v_X6_thought E x3 (0 : Int32) Z (fun x103 Z102 =>
    v_X6_mix E x4 x103 Z102 (fun j105 Z104 =>
    v_X6_thought E x3 (1 : Int32) Z104 (fun x107 Z106 =>
    v_X6_mix E j105 x107 Z106 (fun j109 Z108 =>
    v_X2_yieldOf E 1 x3 Z108 (fun x112 Z111 =>
    v_X6_mix E j109 x112 Z111 (fun j114 Z113 =>
    Q j114 Z113))))))) ∧
    (¬ (3 : Int32) < x6 →
    v_X6_ofOwner E x3 x6 Z (fun x116 Z115 =>
    v_X6_mix E x4 x116 Z115 (fun j118 Z117 =>
    ∀ x119 : Int32, x119 = x6 + 1 →
    v_X6_mixField_b36 E Q n x3 j118 x119 Z117))))
set_option maxHeartbeats 1000000 in
theorem u_X6_mixField_b36 {Q : Int64 → sT → Prop} {Q' : Int64 → zT → Prop} (hSt : cSt P) (hQ : ∀ x S Z, CC H E S Z → P S → Q' x Z → Q x S)  : ∀ (n : Nat) (x3 : Int32) (x4 : Int64) (x6 : Int32) (S : sT) (Z : zT), CC H E S Z → P S → v_X6_mixField_b36 E  Q' n x3 x4 x6 Z → w_X6_mixField_b36  Q n (H 0 9 0) x3 x4 x6 S := by
  intro n
  induction n with
  | zero => intro x3 x4 x6 S Z  hC hP h; exact absurd h id
  | succ n ih =>
    intro x3 x4 x6 S Z  hC hP h
    unfold v_X6_mixField_b36 at h
    unfold w_X6_mixField_b36
    refine ⟨fun c => ?_, fun c => ?_⟩
    · replace h := h.1 c
      refine ⟨rK_Sub hC, ?_⟩
      refine u_X6_thought hSt (fun x103 S102 Z102 hC hP h => ?_) hC hP h
      refine u_X6_mix hSt (fun j105 S104 Z104 hC hP h => ?_) hC hP h
      refine ⟨rK_Sub hC, ?_⟩
      refine u_X6_thought hSt (fun x107 S106 Z106 hC hP h => ?_) hC hP h
      refine u_X6_mix hSt (fun j109 S108 Z108 hC hP h => ?_) hC hP h
      refine ⟨rK_Sub hC, ?_⟩
      refine ⟨_, rF_225 hC, ?_⟩
      refine ⟨rK_Hill hC z12, ?_⟩
      refine u_X2_yieldOf hSt (fun x112 S111 Z111 hC hP h => ?_) z12 hC hP h
      refine u_X6_mix hSt (fun j114 S113 Z113 hC hP h => ?_) hC hP h
      exact hQ _ _ _ hC hP h
    · replace h := h.2 c
      refine ⟨rK_Sub hC, ?_⟩
      refine u_X6_ofOwner hSt (fun x116 S115 Z115 hC hP h => ?_) hC hP h
      refine u_X6_mix hSt (fun j118 S117 Z117 hC hP h => ?_) hC hP h
      intro x119 ex
      replace h := h x119 ex
      exact ih x3 j118 x119 _ _ hC hP h
def v_X6_mixField_b6 (E : eT)  (Q : Int64 → zT → Prop) : Nat → Int32 → Int64 → Int32 → zT → Prop
  | 0 => fun _ _ _ _ => False
  | n + 1 => fun x3 x4 x6 Z =>
    (((13 : Int32) < x6 →
    ∃ n9 : Nat, 
    v_X6_mixField_b36 E Q n9 x3 x4 (0 : Int32) Z) ∧
    (¬ (13 : Int32) < x6 →
    v_X6_ofField E x3 x6 Z (fun x103 Z102 =>
    v_X6_mix E x4 x103 Z102 (fun j105 Z104 =>
    ∀ x106 : Int32, x106 = x6 + 1 →
    v_X6_mixField_b6 E Q n x3 j105 x106 Z104))))
set_option maxHeartbeats 1000000 in
theorem u_X6_mixField_b6 {Q : Int64 → sT → Prop} {Q' : Int64 → zT → Prop} (hSt : cSt P) (hQ : ∀ x S Z, CC H E S Z → P S → Q' x Z → Q x S)  : ∀ (n : Nat) (x3 : Int32) (x4 : Int64) (x6 : Int32) (S : sT) (Z : zT), CC H E S Z → P S → v_X6_mixField_b6 E  Q' n x3 x4 x6 Z → w_X6_mixField_b6  Q n (H 0 9 0) x3 x4 x6 S := by
  intro n
  induction n with
  | zero => intro x3 x4 x6 S Z  hC hP h; exact absurd h id
  | succ n ih =>
    intro x3 x4 x6 S Z  hC hP h
    unfold v_X6_mixField_b6 at h
    unfold w_X6_mixField_b6
    refine ⟨fun c => ?_, fun c => ?_⟩
    · replace h := h.1 c
      obtain ⟨n9, h⟩ := h
      refine ⟨n9, ?_⟩
      exact u_X6_mixField_b36 hSt hQ n9 x3 x4 (0 : Int32) _ _ hC hP h
    · replace h := h.2 c
      refine ⟨rK_Sub hC, ?_⟩
      refine u_X6_ofField hSt (fun x103 S102 Z102 hC hP h => ?_) hC hP h
      refine u_X6_mix hSt (fun j105 S104 Z104 hC hP h => ?_) hC hP h
      intro x106 ex
      replace h := h x106 ex
      exact ih x3 j105 x106 _ _ hC hP h
def v_X6_mixField_b0 (E : eT) (x1 : Int64) (x3 : Int32) (Z : zT) (Q : Int64 → zT → Prop) : Prop :=
  ∃ n9 : Nat, 
  v_X6_mixField_b6 E Q n9 x3 x1 (0 : Int32) Z
set_option maxHeartbeats 1000000 in
theorem u_X6_mixField_b0 {Q : Int64 → sT → Prop} {Q' : Int64 → zT → Prop} {x1 : Int64} {x3 : Int32} {S : sT} {Z : zT} (hSt : cSt P) (hQ : ∀ x S Z, CC H E S Z → P S → Q' x Z → Q x S)   (hC : CC H E S Z) (hP : P S) (h : v_X6_mixField_b0 E x1 x3 Z Q') : w_X6_mixField_b0 (H 0 9 0) x1 x3 S Q := by
  unfold v_X6_mixField_b0 at h
  unfold w_X6_mixField_b0
  obtain ⟨n9, h⟩ := h
  refine ⟨n9, ?_⟩
  exact u_X6_mixField_b6 hSt hQ n9 x3 x1 (0 : Int32) _ _ hC hP h
def v_X6_mixField (E : eT) (x1 : Int64) (x3 : Int32) (Z : zT) (Q : Int64 → zT → Prop) : Prop :=
  v_X6_mixField_b0 E x1 x3 Z Q
set_option maxHeartbeats 1000000 in
theorem u_X6_mixField {Q : Int64 → sT → Prop} {Q' : Int64 → zT → Prop} {x1 : Int64} {x3 : Int32} {S : sT} {Z : zT} (hSt : cSt P) (hQ : ∀ x S Z, CC H E S Z → P S → Q' x Z → Q x S)   (hC : CC H E S Z) (hP : P S) (h : v_X6_mixField E x1 x3 Z Q') : w_X6_mixField (H 0 9 0) x1 x3 S Q := by
  unfold v_X6_mixField at h
  unfold w_X6_mixField
  exact u_X6_mixField_b0 hSt hQ hC hP h
def v_X6_mixSociety_b6 (E : eT)  (Q : Int64 → zT → Prop) : Nat → Int32 → Int64 → Int32 → zT → Prop
  | 0 => fun _ _ _ _ => False
  | n + 1 => fun x3 x4 x6 Z =>
    (((8 : Int32) < x6 →
    v_X6_suspect E x3 Z (fun x103 Z102 =>
    v_X6_mix E x4 x103 Z102 (fun j105 Z104 =>
    Q j105 Z104))) ∧
    (¬ (8 : Int32) < x6 →
    v_X6_ofSociety E x3 x6 Z (fun x107 Z106 =>
    v_X6_mix E x4 x107 Z106 (fun j109 Z108 =>
    ∀ x110 : Int32, x110 = x6 + 1 →
    v_X6_mixSociety_b6 E Q n x3 j109 x110 Z108))))
set_option maxHeartbeats 1000000 in
theorem u_X6_mixSociety_b6 {Q : Int64 → sT → Prop} {Q' : Int64 → zT → Prop} (hSt : cSt P) (hQ : ∀ x S Z, CC H E S Z → P S → Q' x Z → Q x S)  : ∀ (n : Nat) (x3 : Int32) (x4 : Int64) (x6 : Int32) (S : sT) (Z : zT), CC H E S Z → P S → v_X6_mixSociety_b6 E  Q' n x3 x4 x6 Z → w_X6_mixSociety_b6  Q n (H 0 9 0) x3 x4 x6 S := by
  intro n
  induction n with
  | zero => intro x3 x4 x6 S Z  hC hP h; exact absurd h id
  | succ n ih =>
    intro x3 x4 x6 S Z  hC hP h
    unfold v_X6_mixSociety_b6 at h
    unfold w_X6_mixSociety_b6
    refine ⟨fun c => ?_, fun c => ?_⟩
    · replace h := h.1 c
      refine ⟨rK_Sub hC, ?_⟩
      refine u_X6_suspect hSt (fun x103 S102 Z102 hC hP h => ?_) hC hP h
      refine u_X6_mix hSt (fun j105 S104 Z104 hC hP h => ?_) hC hP h
      exact hQ _ _ _ hC hP h
    · replace h := h.2 c
      refine ⟨rK_Sub hC, ?_⟩
      refine u_X6_ofSociety hSt (fun x107 S106 Z106 hC hP h => ?_) hC hP h
      refine u_X6_mix hSt (fun j109 S108 Z108 hC hP h => ?_) hC hP h
      intro x110 ex
      replace h := h x110 ex
      exact ih x3 j109 x110 _ _ hC hP h
def v_X6_mixSociety_b0 (E : eT) (x1 : Int64) (x3 : Int32) (Z : zT) (Q : Int64 → zT → Prop) : Prop :=
  ∃ n9 : Nat, 
  v_X6_mixSociety_b6 E Q n9 x3 x1 (0 : Int32) Z
set_option maxHeartbeats 1000000 in
theorem u_X6_mixSociety_b0 {Q : Int64 → sT → Prop} {Q' : Int64 → zT → Prop} {x1 : Int64} {x3 : Int32} {S : sT} {Z : zT} (hSt : cSt P) (hQ : ∀ x S Z, CC H E S Z → P S → Q' x Z → Q x S)   (hC : CC H E S Z) (hP : P S) (h : v_X6_mixSociety_b0 E x1 x3 Z Q') : w_X6_mixSociety_b0 (H 0 9 0) x1 x3 S Q := by
  unfold v_X6_mixSociety_b0 at h
  unfold w_X6_mixSociety_b0
  obtain ⟨n9, h⟩ := h
  refine ⟨n9, ?_⟩
  exact u_X6_mixSociety_b6 hSt hQ n9 x3 x1 (0 : Int32) _ _ hC hP h
def v_X6_mixSociety (E : eT) (x1 : Int64) (x3 : Int32) (Z : zT) (Q : Int64 → zT → Prop) : Prop :=
  v_X6_mixSociety_b0 E x1 x3 Z Q
set_option maxHeartbeats 1000000 in
theorem u_X6_mixSociety {Q : Int64 → sT → Prop} {Q' : Int64 → zT → Prop} {x1 : Int64} {x3 : Int32} {S : sT} {Z : zT} (hSt : cSt P) (hQ : ∀ x S Z, CC H E S Z → P S → Q' x Z → Q x S)   (hC : CC H E S Z) (hP : P S) (h : v_X6_mixSociety E x1 x3 Z Q') : w_X6_mixSociety (H 0 9 0) x1 x3 S Q := by
  unfold v_X6_mixSociety at h
  unfold w_X6_mixSociety
  exact u_X6_mixSociety_b0 hSt hQ hC hP h
def v_X6_digest_b100 (E : eT)  (Q : Int64 → zT → Prop) : Nat → Int64 → Int32 → zT → Prop
  | 0 => fun _ _ _ => False
  | n + 1 => fun x1 x3 Z =>
    ∀ x104 : Int32, x104 = nI E.2.1 →
    ((x104 ≤ x3 →
    v_X6_ripeIn E (10 : Int32) Z (fun x107 Z106 =>
    v_X6_mix E x1 x107 Z106 (fun j109 Z108 =>
    v_X6_plan E (0 : Int32) (12 : Int32) Z108 (fun x111 Z110 =>
    v_X6_mix E j109 x111 Z110 (fun j113 Z112 =>
    Q j113 Z112))))) ∧
    (¬ x104 ≤ x3 →
    v_X6_mixField E x1 x3 Z (fun j115 Z114 =>
    ∀ x116 : Int32, x116 = x3 + 1 →
    v_X6_digest_b100 E Q n j115 x116 Z114)))
set_option maxHeartbeats 1000000 in
theorem u_X6_digest_b100 {Q : Int64 → sT → Prop} {Q' : Int64 → zT → Prop} (hSt : cSt P) (hQ : ∀ x S Z, CC H E S Z → P S → Q' x Z → Q x S)  : ∀ (n : Nat) (x1 : Int64) (x3 : Int32) (S : sT) (Z : zT), CC H E S Z → P S → v_X6_digest_b100 E  Q' n x1 x3 Z → w_X6_digest_b100  Q n (H 0 9 0) x1 x3 S := by
  intro n
  induction n with
  | zero => intro x1 x3 S Z  hC hP h; exact absurd h id
  | succ n ih =>
    intro x1 x3 S Z  hC hP h
    unfold v_X6_digest_b100 at h
    unfold w_X6_digest_b100
    refine ⟨rK_Sub hC, ?_⟩
    refine ⟨_, rF_224 hC, ?_⟩
    refine ⟨rK_Hill hC z02, ?_⟩
    refine ⟨_, rF_97 hC z02, ?_⟩
    refine ⟨rK_LF hC z02, ?_⟩
    refine us_size (rL_LF hC z02) ?_
    replace h := h _ rfl
    refine ⟨fun c => ?_, fun c => ?_⟩
    · replace h := h.1 c
      refine ⟨rK_Sub hC, ?_⟩
      refine u_X6_ripeIn hSt (fun x107 S106 Z106 hC hP h => ?_) hC hP h
      refine u_X6_mix hSt (fun j109 S108 Z108 hC hP h => ?_) hC hP h
      refine ⟨rK_Sub hC, ?_⟩
      refine u_X6_plan hSt (fun x111 S110 Z110 hC hP h => ?_) hC hP h
      refine u_X6_mix hSt (fun j113 S112 Z112 hC hP h => ?_) hC hP h
      exact hQ _ _ _ hC hP h
    · replace h := h.2 c
      refine ⟨rK_Sub hC, ?_⟩
      refine u_X6_mixField hSt (fun j115 S114 Z114 hC hP h => ?_) hC hP h
      intro x116 ex
      replace h := h x116 ex
      exact ih j115 x116 _ _ hC hP h
def v_X6_digest_b66 (E : eT)  (Q : Int64 → zT → Prop) : Nat → Int64 → Int32 → zT → Prop
  | 0 => fun _ _ _ => False
  | n + 1 => fun x1 x3 Z =>
    ∀ x104 : Int32, x104 = nI E.1 →
    ((x104 ≤ x3 →
    v_X6_tryDays E (5 : Int32) Z (fun Z106 =>
    ∃ n9 : Nat, 
    v_X6_digest_b100 E Q n9 x1 (0 : Int32) Z106)) ∧
    (¬ x104 ≤ x3 →
    v_X6_mixSociety E x1 x3 Z (fun j108 Z107 =>
    ∀ x109 : Int32, x109 = x3 + 1 →
    v_X6_digest_b66 E Q n j108 x109 Z107)))
set_option maxHeartbeats 1000000 in
theorem u_X6_digest_b66 {Q : Int64 → sT → Prop} {Q' : Int64 → zT → Prop} (hSt : cSt P) (hQ : ∀ x S Z, CC H E S Z → P S → Q' x Z → Q x S)  : ∀ (n : Nat) (x1 : Int64) (x3 : Int32) (S : sT) (Z : zT), CC H E S Z → P S → v_X6_digest_b66 E  Q' n x1 x3 Z → w_X6_digest_b66  Q n (H 0 9 0) x1 x3 S := by
  intro n
  induction n with
  | zero => intro x1 x3 S Z  hC hP h; exact absurd h id
  | succ n ih =>
    intro x1 x3 S Z  hC hP h
    unfold v_X6_digest_b66 at h
    unfold w_X6_digest_b66
    refine ⟨rK_Sub hC, ?_⟩
    refine ⟨_, rF_224 hC, ?_⟩
    refine ⟨rK_Hill hC z02, ?_⟩
    refine ⟨_, rF_96 hC z02, ?_⟩
    refine ⟨rK_LS hC z02, ?_⟩
    refine us_size (rL_LS hC z02) ?_
    replace h := h _ rfl
    refine ⟨fun c => ?_, fun c => ?_⟩
    · replace h := h.1 c
      refine ⟨rK_Sub hC, ?_⟩
      refine u_X6_tryDays hSt (fun S106 Z106 hC hP h => ?_) hC hP h
      obtain ⟨n9, h⟩ := h
      refine ⟨n9, ?_⟩
      exact u_X6_digest_b100 hSt hQ n9 x1 (0 : Int32) _ _ hC hP h
    · replace h := h.2 c
      refine ⟨rK_Sub hC, ?_⟩
      refine u_X6_mixSociety hSt (fun j108 S107 Z107 hC hP h => ?_) hC hP h
      intro x109 ex
      replace h := h x109 ex
      exact ih j108 x109 _ _ hC hP h
def v_X6_digest_b30 (E : eT)  (Q : Int64 → zT → Prop) : Nat → Int64 → Int32 → zT → Prop
  | 0 => fun _ _ _ => False
  | n + 1 => fun x1 x3 Z =>
    (((6 : Int32) < x3 →
    v_X6_isClosed E Z (fun x103 Z102 =>
    v_X6_oneIf E x103 Z102 (fun x105 Z104 =>
    v_X6_mix E x1 x105 Z104 (fun j107 Z106 =>
    ∃ n9 : Nat, 
    v_X6_digest_b66 E Q n9 j107 (0 : Int32) Z106)))) ∧
    (¬ (6 : Int32) < x3 →
    v_X6_water E x3 Z (fun x109 Z108 =>
    v_X6_mix E x1 x109 Z108 (fun j111 Z110 =>
    ∀ x112 : Int32, x112 = x3 + 1 →
    v_X6_digest_b30 E Q n j111 x112 Z110))))
set_option maxHeartbeats 1000000 in
theorem u_X6_digest_b30 {Q : Int64 → sT → Prop} {Q' : Int64 → zT → Prop} (hSt : cSt P) (hQ : ∀ x S Z, CC H E S Z → P S → Q' x Z → Q x S)  : ∀ (n : Nat) (x1 : Int64) (x3 : Int32) (S : sT) (Z : zT), CC H E S Z → P S → v_X6_digest_b30 E  Q' n x1 x3 Z → w_X6_digest_b30  Q n (H 0 9 0) x1 x3 S := by
  intro n
  induction n with
  | zero => intro x1 x3 S Z  hC hP h; exact absurd h id
  | succ n ih =>
    intro x1 x3 S Z  hC hP h
    unfold v_X6_digest_b30 at h
    unfold w_X6_digest_b30
    refine ⟨fun c => ?_, fun c => ?_⟩
    · replace h := h.1 c
      refine ⟨rK_Sub hC, ?_⟩
      refine u_X6_isClosed hSt (fun x103 S102 Z102 hC hP h => ?_) hC hP h
      refine u_X6_oneIf hSt (fun x105 S104 Z104 hC hP h => ?_) hC hP h
      refine u_X6_mix hSt (fun j107 S106 Z106 hC hP h => ?_) hC hP h
      obtain ⟨n9, h⟩ := h
      refine ⟨n9, ?_⟩
      exact u_X6_digest_b66 hSt hQ n9 j107 (0 : Int32) _ _ hC hP h
    · replace h := h.2 c
      refine ⟨rK_Sub hC, ?_⟩
      refine u_X6_water hSt (fun x109 S108 Z108 hC hP h => ?_) hC hP h
      refine u_X6_mix hSt (fun j111 S110 Z110 hC hP h => ?_) hC hP h
      intro x112 ex
      replace h := h x112 ex
      exact ih j111 x112 _ _ hC hP h
def v_X6_digest_b6 (E : eT)  (Q : Int64 → zT → Prop) : Nat → Int64 → Int32 → zT → Prop
  | 0 => fun _ _ _ => False
  | n + 1 => fun x1 x3 Z =>
    (((11 : Int32) < x3 →
    ∃ n9 : Nat, 
    v_X6_digest_b30 E Q n9 x1 (0 : Int32) Z) ∧
    (¬ (11 : Int32) < x3 →
    v_X6_many E x3 Z (fun x103 Z102 =>
    v_X6_mix E x1 x103 Z102 (fun j105 Z104 =>
    ∀ x106 : Int32, x106 = x3 + 1 →
    v_X6_digest_b6 E Q n j105 x106 Z104))))
set_option maxHeartbeats 1000000 in
theorem u_X6_digest_b6 {Q : Int64 → sT → Prop} {Q' : Int64 → zT → Prop} (hSt : cSt P) (hQ : ∀ x S Z, CC H E S Z → P S → Q' x Z → Q x S)  : ∀ (n : Nat) (x1 : Int64) (x3 : Int32) (S : sT) (Z : zT), CC H E S Z → P S → v_X6_digest_b6 E  Q' n x1 x3 Z → w_X6_digest_b6  Q n (H 0 9 0) x1 x3 S := by
  intro n
  induction n with
  | zero => intro x1 x3 S Z  hC hP h; exact absurd h id
  | succ n ih =>
    intro x1 x3 S Z  hC hP h
    unfold v_X6_digest_b6 at h
    unfold w_X6_digest_b6
    refine ⟨fun c => ?_, fun c => ?_⟩
    · replace h := h.1 c
      obtain ⟨n9, h⟩ := h
      refine ⟨n9, ?_⟩
      exact u_X6_digest_b30 hSt hQ n9 x1 (0 : Int32) _ _ hC hP h
    · replace h := h.2 c
      refine ⟨rK_Sub hC, ?_⟩
      refine u_X6_many hSt (fun x103 S102 Z102 hC hP h => ?_) hC hP h
      refine u_X6_mix hSt (fun j105 S104 Z104 hC hP h => ?_) hC hP h
      intro x106 ex
      replace h := h x106 ex
      exact ih j105 x106 _ _ hC hP h
def v_X6_digest_b0 (E : eT) (Z : zT) (Q : Int64 → zT → Prop) : Prop :=
  ∃ n9 : Nat, 
  v_X6_digest_b6 E Q n9 (58173 : Int64) (0 : Int32) Z
set_option maxHeartbeats 1000000 in
theorem u_X6_digest_b0 {Q : Int64 → sT → Prop} {Q' : Int64 → zT → Prop}  {S : sT} {Z : zT} (hSt : cSt P) (hQ : ∀ x S Z, CC H E S Z → P S → Q' x Z → Q x S)   (hC : CC H E S Z) (hP : P S) (h : v_X6_digest_b0 E Z Q') : w_X6_digest_b0 (H 0 9 0) S Q := by
  unfold v_X6_digest_b0 at h
  unfold w_X6_digest_b0
  obtain ⟨n9, h⟩ := h
  refine ⟨n9, ?_⟩
  exact u_X6_digest_b6 hSt hQ n9 (58173 : Int64) (0 : Int32) _ _ hC hP h
def v_X6_digest (E : eT) (Z : zT) (Q : Int64 → zT → Prop) : Prop :=
  v_X6_digest_b0 E Z Q
set_option maxHeartbeats 1000000 in
theorem u_X6_digest {Q : Int64 → sT → Prop} {Q' : Int64 → zT → Prop}  {S : sT} {Z : zT} (hSt : cSt P) (hQ : ∀ x S Z, CC H E S Z → P S → Q' x Z → Q x S)   (hC : CC H E S Z) (hP : P S) (h : v_X6_digest E Z Q') : w_X6_digest (H 0 9 0) S Q := by
  unfold v_X6_digest at h
  unfold w_X6_digest
  exact u_X6_digest_b0 hSt hQ hC hP h
end
