section
variable {X : Nat → Nat → Nat} {E : fT} {P : sT → Prop}
def v_X7_isOpen_b45 (E : fT) (y0 : Int32) (Z : yT) (Q : Int32 → yT → Prop) : Prop :=
  (y0 = 0 ∨ y0 = 1) ∧
  Q y0 Z
set_option maxHeartbeats 1000000 in
theorem u_X7_isOpen_b45 {Q : Int32 → sT → Prop} {Q' : Int32 → yT → Prop} {y0 : Int32} {S : sT} {Z : yT} (hSt : rSt X E P) (hQ : ∀ x S Z, RC X E S Z → P S → Q' x Z → Q x S)   (hC : RC X E S Z) (hP : P S) (h : v_X7_isOpen_b45 E y0 Z Q') : w_X7_isOpen_b45 y0 S Q := by
  unfold v_X7_isOpen_b45 at h
  unfold w_X7_isOpen_b45
  obtain ⟨hn, h⟩ := h
  refine ⟨hn, ?_⟩
  exact hQ _ _ _ hC hP h
def v_X7_isOpen_b0 (E : fT) (x1 : Int32) (Z : yT) (Q : Int32 → yT → Prop) : Prop :=
  ∀ x103 : Int32, x103 = Z 64 0 →
  ∀ x104 : Int32, x104 = x103 - x103 / (210 : Int32) * (210 : Int32) →
  vp_in x1 E.1 ∧
  ∀ a107 : Nat, a107 = Int32.toNatClampNeg x1 →
  ∀ x109 : Int32, x109 = Z 34 a107 →
  ∀ x110 : Int32, x110 = x104 - x109 →
  ∀ x111 : Int32, x111 = x110 + (210 : Int32) →
  ∀ x112 : Int32, x112 = x111 - x111 / (210 : Int32) * (210 : Int32) →
  vp_in x1 E.1 ∧
  ∀ a115 : Nat, a115 = Int32.toNatClampNeg x1 →
  ∀ x117 : Int32, x117 = Z 35 a115 →
  ((x117 ≤ x112 →
  v_X7_isOpen_b45 E (0 : Int32) Z Q) ∧
  (¬ x117 ≤ x112 →
  v_X7_isOpen_b45 E (1 : Int32) Z Q))
set_option maxHeartbeats 1000000 in
theorem u_X7_isOpen_b0 {Q : Int32 → sT → Prop} {Q' : Int32 → yT → Prop} {x1 : Int32} {S : sT} {Z : yT} (hSt : rSt X E P) (hQ : ∀ x S Z, RC X E S Z → P S → Q' x Z → Q x S)   (hC : RC X E S Z) (hP : P S) (h : v_X7_isOpen_b0 E x1 Z Q') : w_X7_isOpen_b0 (X 1 0) x1 S Q := by
  unfold v_X7_isOpen_b0 at h
  unfold w_X7_isOpen_b0
  refine ⟨rK_Wld hC, ?_⟩
  refine ⟨_, rF_258 hC, ?_⟩
  refine ⟨rK_All hC, ?_⟩
  refine ⟨(rN_All hC).symm ▸ vp_lit0_11, ?_⟩
  intro x103 ex
  replace h := h x103 (ex.trans (rB_All hC  q_lit0 (by decide)))
  intro x104 ex
  replace h := h x104 ex
  refine ⟨_, rF_256 hC, ?_⟩
  refine ⟨rK_SArr hC, ?_⟩
  obtain ⟨i_x1_E1, h⟩ := h
  refine ⟨(rN_SArr hC).symm ▸ i_x1_E1, ?_⟩
  obtain ⟨a107, ea107, h⟩ := vEx h
  have k_a107 := vp_lk i_x1_E1 ea107
  refine ⟨_, (rP_SArr hC (vp_lt i_x1_E1)).trans (congrArg (fun z => some (X 4 z)) ea107.symm), ?_⟩
  refine ⟨rK_SR hC k_a107, ?_⟩
  refine ⟨(rN_SR hC k_a107).symm ▸ vp_lit2_10, ?_⟩
  intro x109 ex
  replace h := h x109 (ex.trans (rB_SR hC k_a107 q_lit2 (by decide)))
  intro x110 ex
  replace h := h x110 ex
  intro x111 ex
  replace h := h x111 ex
  intro x112 ex
  replace h := h x112 ex
  refine ⟨_, rF_256 hC, ?_⟩
  refine ⟨rK_SArr hC, ?_⟩
  obtain ⟨i_x1_E1, h⟩ := h
  refine ⟨(rN_SArr hC).symm ▸ i_x1_E1, ?_⟩
  obtain ⟨a115, ea115, h⟩ := vEx h
  have k_a115 := vp_lk i_x1_E1 ea115
  refine ⟨_, (rP_SArr hC (vp_lt i_x1_E1)).trans (congrArg (fun z => some (X 4 z)) ea115.symm), ?_⟩
  refine ⟨rK_SR hC k_a115, ?_⟩
  refine ⟨(rN_SR hC k_a115).symm ▸ vp_lit3_10, ?_⟩
  intro x117 ex
  replace h := h x117 (ex.trans (rB_SR hC k_a115 q_lit3 (by decide)))
  refine ⟨fun c => ?_, fun c => ?_⟩
  · replace h := h.1 c
    exact u_X7_isOpen_b45 hSt hQ hC hP h
  · replace h := h.2 c
    exact u_X7_isOpen_b45 hSt hQ hC hP h
def v_X7_isOpen (E : fT) (x1 : Int32) (Z : yT) (Q : Int32 → yT → Prop) : Prop :=
  v_X7_isOpen_b0 E x1 Z Q
set_option maxHeartbeats 1000000 in
theorem u_X7_isOpen {Q : Int32 → sT → Prop} {Q' : Int32 → yT → Prop} {x1 : Int32} {S : sT} {Z : yT} (hSt : rSt X E P) (hQ : ∀ x S Z, RC X E S Z → P S → Q' x Z → Q x S)   (hC : RC X E S Z) (hP : P S) (h : v_X7_isOpen E x1 Z Q') : w_X7_isOpen (X 1 0) x1 S Q := by
  unfold v_X7_isOpen at h
  unfold w_X7_isOpen
  exact u_X7_isOpen_b0 hSt hQ hC hP h
def v_X8_is_b15 (E : fT) (y0 : Int32) (Z : yT) (Q : Int32 → yT → Prop) : Prop :=
  (y0 = 0 ∨ y0 = 1) ∧
  Q y0 Z
set_option maxHeartbeats 1000000 in
theorem u_X8_is_b15 {Q : Int32 → sT → Prop} {Q' : Int32 → yT → Prop} {y0 : Int32} {S : sT} {Z : yT} (hSt : rSt X E P) (hQ : ∀ x S Z, RC X E S Z → P S → Q' x Z → Q x S)   (hC : RC X E S Z) (hP : P S) (h : v_X8_is_b15 E y0 Z Q') : w_X8_is_b15 y0 S Q := by
  unfold v_X8_is_b15 at h
  unfold w_X8_is_b15
  obtain ⟨hn, h⟩ := h
  refine ⟨hn, ?_⟩
  exact hQ _ _ _ hC hP h
def v_X8_is_b14 (E : fT) (Z : yT) (Q : Int32 → yT → Prop) : Prop :=
  v_X8_is_b15 E (0 : Int32) Z Q
set_option maxHeartbeats 1000000 in
theorem u_X8_is_b14 {Q : Int32 → sT → Prop} {Q' : Int32 → yT → Prop}  {S : sT} {Z : yT} (hSt : rSt X E P) (hQ : ∀ x S Z, RC X E S Z → P S → Q' x Z → Q x S)   (hC : RC X E S Z) (hP : P S) (h : v_X8_is_b14 E Z Q') : w_X8_is_b14 S Q := by
  unfold v_X8_is_b14 at h
  unfold w_X8_is_b14
  exact u_X8_is_b15 hSt hQ hC hP h
def v_X8_is_b0 (E : fT) (x0 : Int32) (x1 : Int32) (x2 : Int32) (Z : yT) (Q : Int32 → yT → Prop) : Prop :=
  ((x0 < x1 →
  v_X8_is_b14 E Z Q) ∧
  (¬ x0 < x1 →
  ((x2 < x0 →
  v_X8_is_b14 E Z Q) ∧
  (¬ x2 < x0 →
  v_X8_is_b15 E (1 : Int32) Z Q))))
set_option maxHeartbeats 1000000 in
theorem u_X8_is_b0 {Q : Int32 → sT → Prop} {Q' : Int32 → yT → Prop} {x0 : Int32} {x1 : Int32} {x2 : Int32} {S : sT} {Z : yT} (hSt : rSt X E P) (hQ : ∀ x S Z, RC X E S Z → P S → Q' x Z → Q x S)   (hC : RC X E S Z) (hP : P S) (h : v_X8_is_b0 E x0 x1 x2 Z Q') : w_X8_is_b0 x0 x1 x2 S Q := by
  unfold v_X8_is_b0 at h
  unfold w_X8_is_b0
  refine ⟨fun c => ?_, fun c => ?_⟩
  · replace h := h.1 c
    exact u_X8_is_b14 hSt hQ hC hP h
  · replace h := h.2 c
    refine ⟨fun c => ?_, fun c => ?_⟩
    · replace h := h.1 c
      exact u_X8_is_b14 hSt hQ hC hP h
    · replace h := h.2 c
      exact u_X8_is_b15 hSt hQ hC hP h
def v_X8_is (E : fT) (x0 : Int32) (x1 : Int32) (x2 : Int32) (Z : yT) (Q : Int32 → yT → Prop) : Prop :=
  v_X8_is_b0 E x0 x1 x2 Z Q
set_option maxHeartbeats 1000000 in
theorem u_X8_is {Q : Int32 → sT → Prop} {Q' : Int32 → yT → Prop} {x0 : Int32} {x1 : Int32} {x2 : Int32} {S : sT} {Z : yT} (hSt : rSt X E P) (hQ : ∀ x S Z, RC X E S Z → P S → Q' x Z → Q x S)   (hC : RC X E S Z) (hP : P S) (h : v_X8_is E x0 x1 x2 Z Q') : w_X8_is x0 x1 x2 S Q := by
  unfold v_X8_is at h
  unfold w_X8_is
  exact u_X8_is_b0 hSt hQ hC hP h
def v_X7_fly_b171 (E : fT)  (Q : yT → Prop) : Nat → Int32 → yT → Prop
  | 0 => fun _ _ => False
  | n + 1 => fun x1 Z =>
    ∀ x102 : Int32, x102 = nI E.2.1 →
    ((x102 ≤ x1 →
    Q Z) ∧
    (¬ x102 ≤ x1 →
    vp_in x1 E.2.1 ∧
    ∀ a106 : Nat, a106 = Int32.toNatClampNeg x1 →
    vp_in x1 E.2.1 ∧
    ∀ a109 : Nat, a109 = Int32.toNatClampNeg x1 →
    ∀ x111 : Int32, x111 = Z 8 a109 →
    vp_in x1 12 ∧
    ∀ x114 : Int32, x114 = Z 23 (Int32.toNatClampNeg x1) →
    ∀ x115 : Int32, x115 = x111 + x114 →
    ∀ x116 : Int32, x116 = s_min (99 : Int32) x115 →
    ∀ Z118 : yT, Z118 = s_up2 Z 8 a106 x116 →
    ∀ x119 : Int32, x119 = x1 + 1 →
    v_X7_fly_b171 E Q n x119 Z118))
set_option maxHeartbeats 1000000 in
theorem u_X7_fly_b171 {Q : sT → Prop} {Q' : yT → Prop} (hSt : rSt X E P) (hQ : ∀ S Z, RC X E S Z → P S → Q' Z → Q S)  : ∀ (n : Nat) (x1 : Int32) (S : sT) (Z : yT), RC X E S Z → P S → v_X7_fly_b171 E  Q' n x1 Z → w_X7_fly_b171  Q n (X 1 0) x1 S := by
  intro n
  induction n with
  | zero => intro x1 S Z  hC hP h; exact absurd h id
  | succ n ih =>
    intro x1 S Z  hC hP h
    unfold v_X7_fly_b171 at h
    unfold w_X7_fly_b171
    refine ⟨rK_Wld hC, ?_⟩
    refine ⟨_, rF_257 hC, ?_⟩
    refine ⟨rK_FArr hC, ?_⟩
    intro x102 ex
    replace h := h x102 (ex.trans (congrArg nI (rN_FArr hC)))
    refine ⟨fun c => ?_, fun c => ?_⟩
    · replace h := h.1 c
      exact hQ _ _ hC hP h
    · replace h := h.2 c
      refine ⟨_, rF_257 hC, ?_⟩
      refine ⟨rK_FArr hC, ?_⟩
      obtain ⟨i_x1_E21, h⟩ := h
      refine ⟨(rN_FArr hC).symm ▸ i_x1_E21, ?_⟩
      obtain ⟨a106, ea106, h⟩ := vEx h
      have k_a106 := vp_lk i_x1_E21 ea106
      refine ⟨_, (rP_FArr hC (vp_lt i_x1_E21)).trans (congrArg (fun z => some (X 5 z)) ea106.symm), ?_⟩
      refine ⟨_, rF_257 hC, ?_⟩
      refine ⟨rK_FArr hC, ?_⟩
      obtain ⟨i_x1_E21, h⟩ := h
      refine ⟨(rN_FArr hC).symm ▸ i_x1_E21, ?_⟩
      obtain ⟨a109, ea109, h⟩ := vEx h
      have k_a109 := vp_lk i_x1_E21 ea109
      refine ⟨_, (rP_FArr hC (vp_lt i_x1_E21)).trans (congrArg (fun z => some (X 5 z)) ea109.symm), ?_⟩
      refine ⟨rK_FR hC k_a109, ?_⟩
      refine ⟨(rN_FR hC k_a109).symm ▸ vp_lit8_22, ?_⟩
      intro x111 ex
      replace h := h x111 (ex.trans (rB_FR hC k_a109 q_lit8 (by decide)))
      refine ⟨_, rF_260 hC, ?_⟩
      refine ⟨rK_More hC, ?_⟩
      obtain ⟨i_x1_12, h⟩ := h
      refine ⟨(rN_More hC).symm ▸ i_x1_12, ?_⟩
      intro x114 ex
      replace h := h x114 (ex.trans (rB_More hC rfl (vp_lt i_x1_12)))
      intro x115 ex
      replace h := h x115 ex
      intro x116 ex
      replace h := h x116 ex
      refine ⟨rK_FR hC k_a106, ?_⟩
      refine ⟨(rN_FR hC k_a106).symm ▸ vp_lit8_22, ?_⟩
      intro S118 eS
      obtain ⟨Z118, eZ, h⟩ := vEx h
      replace hC := wB_FR hC k_a106 q_lit8 (by decide) eS eZ
      replace hP := eS ▸ hSt.1 _ 5 a106 _ _ (Or.inr (Or.inl ⟨rfl, k_a106⟩)) hP
      clear eS eZ
      intro x119 ex
      replace h := h x119 ex
      exact ih x119 _ _ hC hP h
def v_X7_fly_b157 (E : fT) (x1 : Int32) (x2 : Int32) (x3 : Int32) (Z : yT) (kk26 : Int32 → yT → Prop) (kk67 : Int32 → Int32 → Int32 → yT → Prop) (Q : yT → Prop) : Prop :=
  ∀ x101 : Int32, x101 = x3 + 2 →
  kk67 x1 x2 x101 Z
set_option maxHeartbeats 1000000 in
theorem u_X7_fly_b157 {Q : sT → Prop} {Q' : yT → Prop} {x1 : Int32} {x2 : Int32} {x3 : Int32} {S : sT} {Z : yT} (hSt : rSt X E P) (hQ : ∀ S Z, RC X E S Z → P S → Q' Z → Q S) {kk26 : Nat → Int32 → sT → Prop} {kk26' : Int32 → yT → Prop} (hkk26 : ∀ (x1 : Int32) S Z, RC X E S Z → P S → kk26' x1 Z → kk26 (X 1 0) x1 S) {kk67 : Nat → Int32 → Int32 → Int32 → sT → Prop} {kk67' : Int32 → Int32 → Int32 → yT → Prop} (hkk67 : ∀ (x1 : Int32) (x2 : Int32) (x3 : Int32) S Z, RC X E S Z → P S → kk67' x1 x2 x3 Z → kk67 (X 1 0) x1 x2 x3 S)  (hC : RC X E S Z) (hP : P S) (h : v_X7_fly_b157 E x1 x2 x3 Z kk26' kk67' Q') : w_X7_fly_b157 (X 1 0) x1 x2 x3 S kk26 kk67 Q := by
  unfold v_X7_fly_b157 at h
  unfold w_X7_fly_b157
  intro x101 ex
  replace h := h x101 ex
  exact hkk67 x1 x2 x101 _ _  hC hP h
def v_X7_fly_b118 (E : fT) (x1 : Int32) (x2 : Int32) (x3 : Int32) (x4 : Int32) (Z : yT) (kk26 : Int32 → yT → Prop) (kk67 : Int32 → Int32 → Int32 → yT → Prop) (Q : yT → Prop) : Prop :=
  ((x4 < 0 →
  v_X7_fly_b157 E x1 x2 x3 Z kk26 kk67 Q) ∧
  (¬ x4 < 0 →
  ∀ x103 : Int32, x103 = nI E.2.1 →
  ((x4 < x103 →
  vp_in x1 12 ∧
  ∀ x107 : Int32, x107 = Z 23 (Int32.toNatClampNeg x1) →
  ∀ x108 : Int32, x108 = x107 - x2 →
  vp_in x1 12 ∧
  ∀ Z110 : yT, Z110 = s_up2 Z 23 (Int32.toNatClampNeg x1) x108 →
  vp_in x4 12 ∧
  ∀ x113 : Int32, x113 = Z110 23 (Int32.toNatClampNeg x4) →
  ∀ x114 : Int32, x114 = x113 + x2 →
  vp_in x4 12 ∧
  ∀ Z116 : yT, Z116 = s_up2 Z110 23 (Int32.toNatClampNeg x4) x114 →
  v_X7_fly_b157 E x1 x2 x3 Z116 kk26 kk67 Q) ∧
  (¬ x4 < x103 →
  v_X7_fly_b157 E x1 x2 x3 Z kk26 kk67 Q))))
set_option maxHeartbeats 1000000 in
theorem u_X7_fly_b118 {Q : sT → Prop} {Q' : yT → Prop} {x1 : Int32} {x2 : Int32} {x3 : Int32} {x4 : Int32} {S : sT} {Z : yT} (hSt : rSt X E P) (hQ : ∀ S Z, RC X E S Z → P S → Q' Z → Q S) {kk26 : Nat → Int32 → sT → Prop} {kk26' : Int32 → yT → Prop} (hkk26 : ∀ (x1 : Int32) S Z, RC X E S Z → P S → kk26' x1 Z → kk26 (X 1 0) x1 S) {kk67 : Nat → Int32 → Int32 → Int32 → sT → Prop} {kk67' : Int32 → Int32 → Int32 → yT → Prop} (hkk67 : ∀ (x1 : Int32) (x2 : Int32) (x3 : Int32) S Z, RC X E S Z → P S → kk67' x1 x2 x3 Z → kk67 (X 1 0) x1 x2 x3 S)  (hC : RC X E S Z) (hP : P S) (h : v_X7_fly_b118 E x1 x2 x3 x4 Z kk26' kk67' Q') : w_X7_fly_b118 (X 1 0) x1 x2 x3 x4 S kk26 kk67 Q := by
  unfold v_X7_fly_b118 at h
  unfold w_X7_fly_b118
  refine ⟨fun c => ?_, fun c => ?_⟩
  · replace h := h.1 c
    exact u_X7_fly_b157 hSt hQ hkk26 hkk67 hC hP h
  · replace h := h.2 c
    refine ⟨rK_Wld hC, ?_⟩
    refine ⟨_, rF_257 hC, ?_⟩
    refine ⟨rK_FArr hC, ?_⟩
    intro x103 ex
    replace h := h x103 (ex.trans (congrArg nI (rN_FArr hC)))
    refine ⟨fun c => ?_, fun c => ?_⟩
    · replace h := h.1 c
      refine ⟨_, rF_260 hC, ?_⟩
      refine ⟨rK_More hC, ?_⟩
      obtain ⟨i_x1_12, h⟩ := h
      refine ⟨(rN_More hC).symm ▸ i_x1_12, ?_⟩
      intro x107 ex
      replace h := h x107 (ex.trans (rB_More hC rfl (vp_lt i_x1_12)))
      intro x108 ex
      replace h := h x108 ex
      obtain ⟨i_x1_12, h⟩ := h
      refine ⟨(rN_More hC).symm ▸ i_x1_12, ?_⟩
      intro S110 eS
      obtain ⟨Z110, eZ, h⟩ := vEx h
      replace hC := wB_More hC rfl (vp_lt i_x1_12) eS eZ
      replace hP := eS ▸ hSt.1 _ 8 0 _ _ (st_More) hP
      clear eS eZ
      refine ⟨_, rF_260 hC, ?_⟩
      refine ⟨rK_More hC, ?_⟩
      obtain ⟨i_x4_12, h⟩ := h
      refine ⟨(rN_More hC).symm ▸ i_x4_12, ?_⟩
      intro x113 ex
      replace h := h x113 (ex.trans (rB_More hC rfl (vp_lt i_x4_12)))
      intro x114 ex
      replace h := h x114 ex
      obtain ⟨i_x4_12, h⟩ := h
      refine ⟨(rN_More hC).symm ▸ i_x4_12, ?_⟩
      intro S116 eS
      obtain ⟨Z116, eZ, h⟩ := vEx h
      replace hC := wB_More hC rfl (vp_lt i_x4_12) eS eZ
      replace hP := eS ▸ hSt.1 _ 8 0 _ _ (st_More) hP
      clear eS eZ
      exact u_X7_fly_b157 hSt hQ hkk26 hkk67 hC hP h
    · replace h := h.2 c
      exact u_X7_fly_b157 hSt hQ hkk26 hkk67 hC hP h
def v_X7_fly_b77 (E : fT) (kk26 : Int32 → yT → Prop) (kk67 : Int32 → Int32 → Int32 → yT → Prop) (Q : yT → Prop) : Nat → Int32 → Int32 → Int32 → Int32 → yT → Prop
  | 0 => fun _ _ _ _ _ => False
  | n + 1 => fun x1 x2 x3 x4 Z =>
    ((x4 < 0 →
    v_X7_fly_b118 E x1 x2 x3 x4 Z kk26 kk67 Q) ∧
    (¬ x4 < 0 →
    ∀ x103 : Int32, x103 = nI E.2.1 →
    ((x103 ≤ x4 →
    v_X7_fly_b118 E x1 x2 x3 x4 Z kk26 kk67 Q) ∧
    (¬ x103 ≤ x4 →
    vp_in x4 E.2.1 ∧
    ∀ a107 : Nat, a107 = Int32.toNatClampNeg x4 →
    ∀ x109 : Int32, x109 = Z 4 a107 →
    v_X8_is E x109 (2 : Int32) (4 : Int32) Z (fun x111 Z110 =>
    ((¬ x111 = 0 →
    v_X7_fly_b118 E x1 x2 x3 x4 Z110 kk26 kk67 Q) ∧
    (x111 = 0 →
    ∀ x113 : Int32, x113 = x4 + x3 →
    v_X7_fly_b77 E kk26 kk67 Q n x1 x2 x3 x113 Z110)))))))
set_option maxHeartbeats 1000000 in
theorem u_X7_fly_b77 {Q : sT → Prop} {Q' : yT → Prop} (hSt : rSt X E P) (hQ : ∀ S Z, RC X E S Z → P S → Q' Z → Q S) {kk26 : Nat → Int32 → sT → Prop} {kk26' : Int32 → yT → Prop} (hkk26 : ∀ (x1 : Int32) S Z, RC X E S Z → P S → kk26' x1 Z → kk26 (X 1 0) x1 S) {kk67 : Nat → Int32 → Int32 → Int32 → sT → Prop} {kk67' : Int32 → Int32 → Int32 → yT → Prop} (hkk67 : ∀ (x1 : Int32) (x2 : Int32) (x3 : Int32) S Z, RC X E S Z → P S → kk67' x1 x2 x3 Z → kk67 (X 1 0) x1 x2 x3 S) : ∀ (n : Nat) (x1 : Int32) (x2 : Int32) (x3 : Int32) (x4 : Int32) (S : sT) (Z : yT), RC X E S Z → P S → v_X7_fly_b77 E kk26' kk67' Q' n x1 x2 x3 x4 Z → w_X7_fly_b77 kk26 kk67 Q n (X 1 0) x1 x2 x3 x4 S := by
  intro n
  induction n with
  | zero => intro x1 x2 x3 x4 S Z  hC hP h; exact absurd h id
  | succ n ih =>
    intro x1 x2 x3 x4 S Z  hC hP h
    unfold v_X7_fly_b77 at h
    unfold w_X7_fly_b77
    refine ⟨fun c => ?_, fun c => ?_⟩
    · replace h := h.1 c
      exact u_X7_fly_b118 hSt hQ hkk26 hkk67 hC hP h
    · replace h := h.2 c
      refine ⟨rK_Wld hC, ?_⟩
      refine ⟨_, rF_257 hC, ?_⟩
      refine ⟨rK_FArr hC, ?_⟩
      intro x103 ex
      replace h := h x103 (ex.trans (congrArg nI (rN_FArr hC)))
      refine ⟨fun c => ?_, fun c => ?_⟩
      · replace h := h.1 c
        exact u_X7_fly_b118 hSt hQ hkk26 hkk67 hC hP h
      · replace h := h.2 c
        refine ⟨_, rF_257 hC, ?_⟩
        refine ⟨rK_FArr hC, ?_⟩
        obtain ⟨i_x4_E21, h⟩ := h
        refine ⟨(rN_FArr hC).symm ▸ i_x4_E21, ?_⟩
        obtain ⟨a107, ea107, h⟩ := vEx h
        have k_a107 := vp_lk i_x4_E21 ea107
        refine ⟨_, (rP_FArr hC (vp_lt i_x4_E21)).trans (congrArg (fun z => some (X 5 z)) ea107.symm), ?_⟩
        refine ⟨rK_FR hC k_a107, ?_⟩
        refine ⟨(rN_FR hC k_a107).symm ▸ vp_lit4_22, ?_⟩
        intro x109 ex
        replace h := h x109 (ex.trans (rB_FR hC k_a107 q_lit4 (by decide)))
        refine u_X8_is hSt (fun x111 S110 Z110 hC hP h => ?_) hC hP h
        refine ⟨fun c => ?_, fun c => ?_⟩
        · replace h := h.1 c
          exact u_X7_fly_b118 hSt hQ hkk26 hkk67 hC hP h
        · replace h := h.2 c
          intro x113 ex
          replace h := h x113 ex
          exact ih x1 x2 x3 x113 _ _ hC hP h
def v_X7_fly_b67 (E : fT) (kk26 : Int32 → yT → Prop) (Q : yT → Prop) : Nat → Int32 → Int32 → Int32 → yT → Prop
  | 0 => fun _ _ _ _ => False
  | n + 1 => fun x1 x2 x3 Z =>
    (((2 : Int32) ≤ x3 →
    ∀ x102 : Int32, x102 = x1 + 1 →
    kk26 x102 Z) ∧
    (¬ (2 : Int32) ≤ x3 →
    ∀ x103 : Int32, x103 = x1 + x3 →
    ∃ n9 : Nat, 
    v_X7_fly_b77 E kk26 (fun x1 x2 x3 Z => v_X7_fly_b67 E kk26 Q n x1 x2 x3 Z) Q n9 x1 x2 x3 x103 Z))
set_option maxHeartbeats 1000000 in
theorem u_X7_fly_b67 {Q : sT → Prop} {Q' : yT → Prop} (hSt : rSt X E P) (hQ : ∀ S Z, RC X E S Z → P S → Q' Z → Q S) {kk26 : Nat → Int32 → sT → Prop} {kk26' : Int32 → yT → Prop} (hkk26 : ∀ (x1 : Int32) S Z, RC X E S Z → P S → kk26' x1 Z → kk26 (X 1 0) x1 S) : ∀ (n : Nat) (x1 : Int32) (x2 : Int32) (x3 : Int32) (S : sT) (Z : yT), RC X E S Z → P S → v_X7_fly_b67 E kk26' Q' n x1 x2 x3 Z → w_X7_fly_b67 kk26 Q n (X 1 0) x1 x2 x3 S := by
  intro n
  induction n with
  | zero => intro x1 x2 x3 S Z  hC hP h; exact absurd h id
  | succ n ih =>
    intro x1 x2 x3 S Z  hC hP h
    unfold v_X7_fly_b67 at h
    unfold w_X7_fly_b67
    refine ⟨fun c => ?_, fun c => ?_⟩
    · replace h := h.1 c
      intro x102 ex
      replace h := h x102 ex
      exact hkk26 x102 _ _  hC hP h
    · replace h := h.2 c
      intro x103 ex
      replace h := h x103 ex
      obtain ⟨n9, h⟩ := h
      refine ⟨n9, ?_⟩
      exact u_X7_fly_b77 hSt hQ hkk26 (fun x1 x2 x3 S Z hC hP h => ih x1 x2 x3 _ _ hC hP h) n9 x1 x2 x3 x103 _ _ hC hP h
def v_X7_fly_b64 (E : fT) (x1 : Int32) (y0 : Int32) (Z : yT) (kk26 : Int32 → yT → Prop) (Q : yT → Prop) : Prop :=
  ∃ n9 : Nat, 
  v_X7_fly_b67 E kk26 Q n9 x1 y0 (-1 : Int32) Z
set_option maxHeartbeats 1000000 in
theorem u_X7_fly_b64 {Q : sT → Prop} {Q' : yT → Prop} {x1 : Int32} {y0 : Int32} {S : sT} {Z : yT} (hSt : rSt X E P) (hQ : ∀ S Z, RC X E S Z → P S → Q' Z → Q S) {kk26 : Nat → Int32 → sT → Prop} {kk26' : Int32 → yT → Prop} (hkk26 : ∀ (x1 : Int32) S Z, RC X E S Z → P S → kk26' x1 Z → kk26 (X 1 0) x1 S)  (hC : RC X E S Z) (hP : P S) (h : v_X7_fly_b64 E x1 y0 Z kk26' Q') : w_X7_fly_b64 (X 1 0) x1 y0 S kk26 Q := by
  unfold v_X7_fly_b64 at h
  unfold w_X7_fly_b64
  obtain ⟨n9, h⟩ := h
  refine ⟨n9, ?_⟩
  exact u_X7_fly_b67 hSt hQ hkk26 n9 x1 y0 (-1 : Int32) _ _ hC hP h
def v_X7_fly_b26 (E : fT)  (Q : yT → Prop) : Nat → Int32 → yT → Prop
  | 0 => fun _ _ => False
  | n + 1 => fun x1 Z =>
    ∀ x102 : Int32, x102 = nI E.2.1 →
    ((x102 ≤ x1 →
    ∃ n9 : Nat, 
    v_X7_fly_b171 E Q n9 (0 : Int32) Z) ∧
    (¬ x102 ≤ x1 →
    vp_in x1 E.2.1 ∧
    ∀ a106 : Nat, a106 = Int32.toNatClampNeg x1 →
    ∀ x108 : Int32, x108 = Z 8 a106 →
    ((x108 ≤ (20 : Int32) →
    v_X7_fly_b64 E x1 (0 : Int32) Z (fun x1 Z => v_X7_fly_b26 E Q n x1 Z) Q) ∧
    (¬ x108 ≤ (20 : Int32) →
    vp_in x1 E.2.1 ∧
    ∀ a112 : Nat, a112 = Int32.toNatClampNeg x1 →
    ∀ x114 : Int32, x114 = Z 8 a112 →
    ∀ x115 : Int32, x115 = x114 / (5 : Int32) →
    v_X7_fly_b64 E x1 x115 Z (fun x1 Z => v_X7_fly_b26 E Q n x1 Z) Q))))
set_option maxHeartbeats 1000000 in
theorem u_X7_fly_b26 {Q : sT → Prop} {Q' : yT → Prop} (hSt : rSt X E P) (hQ : ∀ S Z, RC X E S Z → P S → Q' Z → Q S)  : ∀ (n : Nat) (x1 : Int32) (S : sT) (Z : yT), RC X E S Z → P S → v_X7_fly_b26 E  Q' n x1 Z → w_X7_fly_b26  Q n (X 1 0) x1 S := by
  intro n
  induction n with
  | zero => intro x1 S Z  hC hP h; exact absurd h id
  | succ n ih =>
    intro x1 S Z  hC hP h
    unfold v_X7_fly_b26 at h
    unfold w_X7_fly_b26
    refine ⟨rK_Wld hC, ?_⟩
    refine ⟨_, rF_257 hC, ?_⟩
    refine ⟨rK_FArr hC, ?_⟩
    intro x102 ex
    replace h := h x102 (ex.trans (congrArg nI (rN_FArr hC)))
    refine ⟨fun c => ?_, fun c => ?_⟩
    · replace h := h.1 c
      obtain ⟨n9, h⟩ := h
      refine ⟨n9, ?_⟩
      exact u_X7_fly_b171 hSt hQ n9 (0 : Int32) _ _ hC hP h
    · replace h := h.2 c
      refine ⟨_, rF_257 hC, ?_⟩
      refine ⟨rK_FArr hC, ?_⟩
      obtain ⟨i_x1_E21, h⟩ := h
      refine ⟨(rN_FArr hC).symm ▸ i_x1_E21, ?_⟩
      obtain ⟨a106, ea106, h⟩ := vEx h
      have k_a106 := vp_lk i_x1_E21 ea106
      refine ⟨_, (rP_FArr hC (vp_lt i_x1_E21)).trans (congrArg (fun z => some (X 5 z)) ea106.symm), ?_⟩
      refine ⟨rK_FR hC k_a106, ?_⟩
      refine ⟨(rN_FR hC k_a106).symm ▸ vp_lit8_22, ?_⟩
      intro x108 ex
      replace h := h x108 (ex.trans (rB_FR hC k_a106 q_lit8 (by decide)))
      refine ⟨fun c => ?_, fun c => ?_⟩
      · replace h := h.1 c
        exact u_X7_fly_b64 hSt hQ (fun x1 S Z hC hP h => ih x1 _ _ hC hP h) hC hP h
      · replace h := h.2 c
        refine ⟨_, rF_257 hC, ?_⟩
        refine ⟨rK_FArr hC, ?_⟩
        obtain ⟨i_x1_E21, h⟩ := h
        refine ⟨(rN_FArr hC).symm ▸ i_x1_E21, ?_⟩
        obtain ⟨a112, ea112, h⟩ := vEx h
        have k_a112 := vp_lk i_x1_E21 ea112
        refine ⟨_, (rP_FArr hC (vp_lt i_x1_E21)).trans (congrArg (fun z => some (X 5 z)) ea112.symm), ?_⟩
        refine ⟨rK_FR hC k_a112, ?_⟩
        refine ⟨(rN_FR hC k_a112).symm ▸ vp_lit8_22, ?_⟩
        intro x114 ex
        replace h := h x114 (ex.trans (rB_FR hC k_a112 q_lit8 (by decide)))
        intro x115 ex
        replace h := h x115 ex
        exact u_X7_fly_b64 hSt hQ (fun x1 S Z hC hP h => ih x1 _ _ hC hP h) hC hP h
def v_X7_fly_b2 (E : fT)  (Q : yT → Prop) : Nat → Int32 → yT → Prop
  | 0 => fun _ _ => False
  | n + 1 => fun x1 Z =>
    ∀ x102 : Int32, x102 = nI E.2.1 →
    ((x102 ≤ x1 →
    ∃ n9 : Nat, 
    v_X7_fly_b26 E Q n9 (0 : Int32) Z) ∧
    (¬ x102 ≤ x1 →
    vp_in x1 12 ∧
    ∀ Z106 : yT, Z106 = s_up2 Z 23 (Int32.toNatClampNeg x1) (0 : Int32) →
    ∀ x107 : Int32, x107 = x1 + 1 →
    v_X7_fly_b2 E Q n x107 Z106))
set_option maxHeartbeats 1000000 in
theorem u_X7_fly_b2 {Q : sT → Prop} {Q' : yT → Prop} (hSt : rSt X E P) (hQ : ∀ S Z, RC X E S Z → P S → Q' Z → Q S)  : ∀ (n : Nat) (x1 : Int32) (S : sT) (Z : yT), RC X E S Z → P S → v_X7_fly_b2 E  Q' n x1 Z → w_X7_fly_b2  Q n (X 1 0) x1 S := by
  intro n
  induction n with
  | zero => intro x1 S Z  hC hP h; exact absurd h id
  | succ n ih =>
    intro x1 S Z  hC hP h
    unfold v_X7_fly_b2 at h
    unfold w_X7_fly_b2
    refine ⟨rK_Wld hC, ?_⟩
    refine ⟨_, rF_257 hC, ?_⟩
    refine ⟨rK_FArr hC, ?_⟩
    intro x102 ex
    replace h := h x102 (ex.trans (congrArg nI (rN_FArr hC)))
    refine ⟨fun c => ?_, fun c => ?_⟩
    · replace h := h.1 c
      obtain ⟨n9, h⟩ := h
      refine ⟨n9, ?_⟩
      exact u_X7_fly_b26 hSt hQ n9 (0 : Int32) _ _ hC hP h
    · replace h := h.2 c
      refine ⟨_, rF_260 hC, ?_⟩
      refine ⟨rK_More hC, ?_⟩
      obtain ⟨i_x1_12, h⟩ := h
      refine ⟨(rN_More hC).symm ▸ i_x1_12, ?_⟩
      intro S106 eS
      obtain ⟨Z106, eZ, h⟩ := vEx h
      replace hC := wB_More hC rfl (vp_lt i_x1_12) eS eZ
      replace hP := eS ▸ hSt.1 _ 8 0 _ _ (st_More) hP
      clear eS eZ
      intro x107 ex
      replace h := h x107 ex
      exact ih x107 _ _ hC hP h
def v_X7_fly_b0 (E : fT) (Z : yT) (Q : yT → Prop) : Prop :=
  ∃ n9 : Nat, 
  v_X7_fly_b2 E Q n9 (0 : Int32) Z
set_option maxHeartbeats 1000000 in
theorem u_X7_fly_b0 {Q : sT → Prop} {Q' : yT → Prop}  {S : sT} {Z : yT} (hSt : rSt X E P) (hQ : ∀ S Z, RC X E S Z → P S → Q' Z → Q S)   (hC : RC X E S Z) (hP : P S) (h : v_X7_fly_b0 E Z Q') : w_X7_fly_b0 (X 1 0) S Q := by
  unfold v_X7_fly_b0 at h
  unfold w_X7_fly_b0
  obtain ⟨n9, h⟩ := h
  refine ⟨n9, ?_⟩
  exact u_X7_fly_b2 hSt hQ n9 (0 : Int32) _ _ hC hP h
def v_X7_fly (E : fT) (Z : yT) (Q : yT → Prop) : Prop :=
  v_X7_fly_b0 E Z Q
set_option maxHeartbeats 1000000 in
theorem u_X7_fly {Q : sT → Prop} {Q' : yT → Prop}  {S : sT} {Z : yT} (hSt : rSt X E P) (hQ : ∀ S Z, RC X E S Z → P S → Q' Z → Q S)   (hC : RC X E S Z) (hP : P S) (h : v_X7_fly E Z Q') : w_X7_fly (X 1 0) S Q := by
  unfold v_X7_fly at h
  unfold w_X7_fly
  exact u_X7_fly_b0 hSt hQ hC hP h
def v_X7_live_b45 (E : fT) (x1 : Nat) (x2 : Int32) (Z : yT) (Q : yT → Prop) : Prop :=
  ∀ x101 : Int32, x101 = s_min (99 : Int32) x2 →
  ∀ x102 : Int32, x102 = s_max (0 : Int32) x101 →
  ∀ Z104 : yT, Z104 = s_up2 Z 8 x1 x102 →
  Q Z104
set_option maxHeartbeats 1000000 in
theorem u_X7_live_b45 {Q : sT → Prop} {Q' : yT → Prop} {x1 : Nat} {x2 : Int32} {S : sT} {Z : yT} (hSt : rSt X E P) (hQ : ∀ S Z, RC X E S Z → P S → Q' Z → Q S)  (k_x1 : x1 < E.2.1) (hC : RC X E S Z) (hP : P S) (h : v_X7_live_b45 E x1 x2 Z Q') : w_X7_live_b45 (X 5 x1) x2 S Q := by
  unfold v_X7_live_b45 at h
  unfold w_X7_live_b45
  intro x101 ex
  replace h := h x101 ex
  intro x102 ex
  replace h := h x102 ex
  refine ⟨rK_FR hC k_x1, ?_⟩
  refine ⟨(rN_FR hC k_x1).symm ▸ vp_lit8_22, ?_⟩
  intro S104 eS
  obtain ⟨Z104, eZ, h⟩ := vEx h
  replace hC := wB_FR hC k_x1 q_lit8 (by decide) eS eZ
  replace hP := eS ▸ hSt.1 _ 5 x1 _ _ (Or.inr (Or.inl ⟨rfl, k_x1⟩)) hP
  clear eS eZ
  exact hQ _ _ hC hP h
def v_X7_live_b34 (E : fT) (x1 : Nat) (x2 : Int32) (Z : yT) (Q : yT → Prop) : Prop :=
  ∀ x102 : Int32, x102 = Z 16 x1 →
  ((¬ x102 = (1 : Int32) →
  v_X7_live_b45 E x1 x2 Z Q) ∧
  (x102 = (1 : Int32) →
  ∀ x104 : Int32, x104 = x2 + (-4) →
  v_X7_live_b45 E x1 x104 Z Q))
set_option maxHeartbeats 1000000 in
theorem u_X7_live_b34 {Q : sT → Prop} {Q' : yT → Prop} {x1 : Nat} {x2 : Int32} {S : sT} {Z : yT} (hSt : rSt X E P) (hQ : ∀ S Z, RC X E S Z → P S → Q' Z → Q S)  (k_x1 : x1 < E.2.1) (hC : RC X E S Z) (hP : P S) (h : v_X7_live_b34 E x1 x2 Z Q') : w_X7_live_b34 (X 5 x1) x2 S Q := by
  unfold v_X7_live_b34 at h
  unfold w_X7_live_b34
  refine ⟨rK_FR hC k_x1, ?_⟩
  refine ⟨(rN_FR hC k_x1).symm ▸ vp_lit16_22, ?_⟩
  intro x102 ex
  replace h := h x102 (ex.trans (rB_FR hC k_x1 q_lit16 (by decide)))
  refine ⟨fun c => ?_, fun c => ?_⟩
  · replace h := h.1 c
    exact u_X7_live_b45 (x1 := x1) hSt hQ k_x1 hC hP h
  · replace h := h.2 c
    intro x104 ex
    replace h := h x104 ex
    exact u_X7_live_b45 (x1 := x1) hSt hQ k_x1 hC hP h
def v_X7_live_b0 (E : fT) (x1 : Nat) (Z : yT) (Q : yT → Prop) : Prop :=
  ∀ x102 : Int32, x102 = Z 8 x1 →
  ∀ x104 : Int32, x104 = Z 4 x1 →
  (((2 : Int32) ≤ x104 →
  ∀ x107 : Int32, x107 = Z 4 x1 →
  (((5 : Int32) ≤ x107 →
  v_X7_live_b34 E x1 x102 Z Q) ∧
  (¬ (5 : Int32) ≤ x107 →
  ∀ x109 : Int32, x109 = x102 / (4 : Int32) →
  ∀ x110 : Int32, x110 = (1 : Int32) + x109 →
  ∀ x111 : Int32, x111 = x102 + x110 →
  v_X7_live_b34 E x1 x111 Z Q))) ∧
  (¬ (2 : Int32) ≤ x104 →
  ∀ x112 : Int32, x112 = x102 / (2 : Int32) →
  v_X7_live_b34 E x1 x112 Z Q))
set_option maxHeartbeats 1000000 in
theorem u_X7_live_b0 {Q : sT → Prop} {Q' : yT → Prop} {x1 : Nat} {S : sT} {Z : yT} (hSt : rSt X E P) (hQ : ∀ S Z, RC X E S Z → P S → Q' Z → Q S)  (k_x1 : x1 < E.2.1) (hC : RC X E S Z) (hP : P S) (h : v_X7_live_b0 E x1 Z Q') : w_X7_live_b0 (X 5 x1) S Q := by
  unfold v_X7_live_b0 at h
  unfold w_X7_live_b0
  refine ⟨rK_FR hC k_x1, ?_⟩
  refine ⟨(rN_FR hC k_x1).symm ▸ vp_lit8_22, ?_⟩
  intro x102 ex
  replace h := h x102 (ex.trans (rB_FR hC k_x1 q_lit8 (by decide)))
  refine ⟨(rN_FR hC k_x1).symm ▸ vp_lit4_22, ?_⟩
  intro x104 ex
  replace h := h x104 (ex.trans (rB_FR hC k_x1 q_lit4 (by decide)))
  refine ⟨fun c => ?_, fun c => ?_⟩
  · replace h := h.1 c
    refine ⟨(rN_FR hC k_x1).symm ▸ vp_lit4_22, ?_⟩
    intro x107 ex
    replace h := h x107 (ex.trans (rB_FR hC k_x1 q_lit4 (by decide)))
    refine ⟨fun c => ?_, fun c => ?_⟩
    · replace h := h.1 c
      exact u_X7_live_b34 (x1 := x1) hSt hQ k_x1 hC hP h
    · replace h := h.2 c
      intro x109 ex
      replace h := h x109 ex
      intro x110 ex
      replace h := h x110 ex
      intro x111 ex
      replace h := h x111 ex
      exact u_X7_live_b34 (x1 := x1) hSt hQ k_x1 hC hP h
  · replace h := h.2 c
    intro x112 ex
    replace h := h x112 ex
    exact u_X7_live_b34 (x1 := x1) hSt hQ k_x1 hC hP h
def v_X7_live (E : fT) (x1 : Nat) (Z : yT) (Q : yT → Prop) : Prop :=
  v_X7_live_b0 E x1 Z Q
set_option maxHeartbeats 1000000 in
theorem u_X7_live {Q : sT → Prop} {Q' : yT → Prop} {x1 : Nat} {S : sT} {Z : yT} (hSt : rSt X E P) (hQ : ∀ S Z, RC X E S Z → P S → Q' Z → Q S)  (k_x1 : x1 < E.2.1) (hC : RC X E S Z) (hP : P S) (h : v_X7_live E x1 Z Q') : w_X7_live (X 1 0) (X 5 x1) S Q := by
  unfold v_X7_live at h
  unfold w_X7_live
  exact u_X7_live_b0 (x1 := x1) hSt hQ k_x1 hC hP h
def v_X7_grow_b215 (E : fT) (Z : yT) (Q : yT → Prop) : Prop :=
  Q Z
set_option maxHeartbeats 1000000 in
theorem u_X7_grow_b215 {Q : sT → Prop} {Q' : yT → Prop}  {S : sT} {Z : yT} (hSt : rSt X E P) (hQ : ∀ S Z, RC X E S Z → P S → Q' Z → Q S)   (hC : RC X E S Z) (hP : P S) (h : v_X7_grow_b215 E Z Q') : w_X7_grow_b215 S Q := by
  unfold v_X7_grow_b215 at h
  unfold w_X7_grow_b215
  exact hQ _ _ hC hP h
def v_X7_grow_b192 (E : fT) (x1 : Nat) (y0 : Int32) (y1 : Int32) (y2 : Int32) (y3 : Nat) (Z : yT) (Q : yT → Prop) : Prop :=
  ∀ x101 : Int32, x101 = y1 + y0 →
  vp_in y2 22 ∧
  ∀ Z103 : yT, Z103 = s_up2 Z (Int32.toNatClampNeg y2) y3 x101 →
  ∀ x105 : Int32, x105 = Z103 4 x1 →
  (((5 : Int32) ≤ x105 →
  v_X7_grow_b215 E Z103 Q) ∧
  (¬ (5 : Int32) ≤ x105 →
  ∀ x108 : Int32, x108 = Z103 9 x1 →
  ∀ x109 : Int32, x109 = x108 - (1 : Int32) →
  ∀ x110 : Int32, x110 = s_max (0 : Int32) x109 →
  ∀ Z112 : yT, Z112 = s_up2 Z103 9 x1 x110 →
  v_X7_grow_b215 E Z112 Q))
set_option maxHeartbeats 1000000 in
theorem u_X7_grow_b192 {Q : sT → Prop} {Q' : yT → Prop} {x1 : Nat} {y0 : Int32} {y1 : Int32} {y2 : Int32} {y3 : Nat} {S : sT} {Z : yT} (hSt : rSt X E P) (hQ : ∀ S Z, RC X E S Z → P S → Q' Z → Q S)  (k_x1 : x1 < E.2.1) (k_y3 : y3 < E.2.1) (hC : RC X E S Z) (hP : P S) (h : v_X7_grow_b192 E x1 y0 y1 y2 y3 Z Q') : w_X7_grow_b192 (X 5 x1) y0 y1 y2 (X 5 y3) S Q := by
  unfold v_X7_grow_b192 at h
  unfold w_X7_grow_b192
  intro x101 ex
  replace h := h x101 ex
  refine ⟨rK_FR hC k_y3, ?_⟩
  obtain ⟨i_y2_22, h⟩ := h
  refine ⟨(rN_FR hC k_y3).symm ▸ i_y2_22, ?_⟩
  intro S103 eS
  obtain ⟨Z103, eZ, h⟩ := vEx h
  replace hC := wB_FR hC k_y3 rfl (vp_lt i_y2_22) eS eZ
  replace hP := eS ▸ hSt.1 _ 5 y3 _ _ (Or.inr (Or.inl ⟨rfl, k_y3⟩)) hP
  clear eS eZ
  refine ⟨rK_FR hC k_x1, ?_⟩
  refine ⟨(rN_FR hC k_x1).symm ▸ vp_lit4_22, ?_⟩
  intro x105 ex
  replace h := h x105 (ex.trans (rB_FR hC k_x1 q_lit4 (by decide)))
  refine ⟨fun c => ?_, fun c => ?_⟩
  · replace h := h.1 c
    exact u_X7_grow_b215 hSt hQ hC hP h
  · replace h := h.2 c
    refine ⟨(rN_FR hC k_x1).symm ▸ vp_lit9_22, ?_⟩
    intro x108 ex
    replace h := h x108 (ex.trans (rB_FR hC k_x1 q_lit9 (by decide)))
    intro x109 ex
    replace h := h x109 ex
    intro x110 ex
    replace h := h x110 ex
    refine ⟨(rN_FR hC k_x1).symm ▸ vp_lit9_22, ?_⟩
    intro S112 eS
    obtain ⟨Z112, eZ, h⟩ := vEx h
    replace hC := wB_FR hC k_x1 q_lit9 (by decide) eS eZ
    replace hP := eS ▸ hSt.1 _ 5 x1 _ _ (Or.inr (Or.inl ⟨rfl, k_x1⟩)) hP
    clear eS eZ
    exact u_X7_grow_b215 hSt hQ hC hP h
def v_X7_grow_b184 (E : fT) (x1 : Nat) (y0 : Int32) (y1 : Int32) (y2 : Int32) (y3 : Int32) (y4 : Nat) (Z : yT) (Q : yT → Prop) : Prop :=
  ((y1 < y0 →
  v_X7_grow_b192 E x1 (0 : Int32) y2 y3 y4 Z Q) ∧
  (¬ y1 < y0 →
  v_X7_grow_b192 E x1 (1 : Int32) y2 y3 y4 Z Q))
set_option maxHeartbeats 1000000 in
theorem u_X7_grow_b184 {Q : sT → Prop} {Q' : yT → Prop} {x1 : Nat} {y0 : Int32} {y1 : Int32} {y2 : Int32} {y3 : Int32} {y4 : Nat} {S : sT} {Z : yT} (hSt : rSt X E P) (hQ : ∀ S Z, RC X E S Z → P S → Q' Z → Q S)  (k_x1 : x1 < E.2.1) (k_y4 : y4 < E.2.1) (hC : RC X E S Z) (hP : P S) (h : v_X7_grow_b184 E x1 y0 y1 y2 y3 y4 Z Q') : w_X7_grow_b184 (X 5 x1) y0 y1 y2 y3 (X 5 y4) S Q := by
  unfold v_X7_grow_b184 at h
  unfold w_X7_grow_b184
  refine ⟨fun c => ?_, fun c => ?_⟩
  · replace h := h.1 c
    exact u_X7_grow_b192 (x1 := x1) (y3 := y4) hSt hQ k_x1 k_y4 hC hP h
  · replace h := h.2 c
    exact u_X7_grow_b192 (x1 := x1) (y3 := y4) hSt hQ k_x1 k_y4 hC hP h
def v_X7_grow_b158 (E : fT) (x1 : Nat) (x6 : Int32) (y0 : Int32) (y1 : Int32) (y2 : Int32) (y3 : Nat) (Z : yT) (Q : yT → Prop) : Prop :=
  ∀ x101 : Int32, x101 = y1 + y0 →
  ∀ x103 : Int32, x103 = Z 6 x1 →
  ((¬ x6 = (2 : Int32) →
  ∀ x105 : Int32, x105 = (50 : Int32) * x6 →
  ∀ x106 : Int32, x106 = (150 : Int32) + x105 →
  v_X7_grow_b184 E x1 x106 x103 x101 y2 y3 Z Q) ∧
  (x6 = (2 : Int32) →
  v_X7_grow_b184 E x1 (260 : Int32) x103 x101 y2 y3 Z Q))
set_option maxHeartbeats 1000000 in
theorem u_X7_grow_b158 {Q : sT → Prop} {Q' : yT → Prop} {x1 : Nat} {x6 : Int32} {y0 : Int32} {y1 : Int32} {y2 : Int32} {y3 : Nat} {S : sT} {Z : yT} (hSt : rSt X E P) (hQ : ∀ S Z, RC X E S Z → P S → Q' Z → Q S)  (k_x1 : x1 < E.2.1) (k_y3 : y3 < E.2.1) (hC : RC X E S Z) (hP : P S) (h : v_X7_grow_b158 E x1 x6 y0 y1 y2 y3 Z Q') : w_X7_grow_b158 (X 5 x1) x6 y0 y1 y2 (X 5 y3) S Q := by
  unfold v_X7_grow_b158 at h
  unfold w_X7_grow_b158
  intro x101 ex
  replace h := h x101 ex
  refine ⟨rK_FR hC k_x1, ?_⟩
  refine ⟨(rN_FR hC k_x1).symm ▸ vp_lit6_22, ?_⟩
  intro x103 ex
  replace h := h x103 (ex.trans (rB_FR hC k_x1 q_lit6 (by decide)))
  refine ⟨fun c => ?_, fun c => ?_⟩
  · replace h := h.1 c
    intro x105 ex
    replace h := h x105 ex
    intro x106 ex
    replace h := h x106 ex
    exact u_X7_grow_b184 (x1 := x1) (y4 := y3) hSt hQ k_x1 k_y3 hC hP h
  · replace h := h.2 c
    exact u_X7_grow_b184 (x1 := x1) (y4 := y3) hSt hQ k_x1 k_y3 hC hP h
def v_X7_grow_b137 (E : fT) (x1 : Nat) (x6 : Int32) (y0 : Int32) (y1 : Int32) (y2 : Int32) (y3 : Nat) (Z : yT) (Q : yT → Prop) : Prop :=
  ∀ x101 : Int32, x101 = y1 + y0 →
  ∀ x103 : Int32, x103 = Z 6 x1 →
  ∀ x104 : Int32, x104 = (40 : Int32) * x6 →
  ∀ x105 : Int32, x105 = (100 : Int32) + x104 →
  ((x103 < x105 →
  v_X7_grow_b158 E x1 x6 (0 : Int32) x101 y2 y3 Z Q) ∧
  (¬ x103 < x105 →
  v_X7_grow_b158 E x1 x6 (1 : Int32) x101 y2 y3 Z Q))
set_option maxHeartbeats 1000000 in
theorem u_X7_grow_b137 {Q : sT → Prop} {Q' : yT → Prop} {x1 : Nat} {x6 : Int32} {y0 : Int32} {y1 : Int32} {y2 : Int32} {y3 : Nat} {S : sT} {Z : yT} (hSt : rSt X E P) (hQ : ∀ S Z, RC X E S Z → P S → Q' Z → Q S)  (k_x1 : x1 < E.2.1) (k_y3 : y3 < E.2.1) (hC : RC X E S Z) (hP : P S) (h : v_X7_grow_b137 E x1 x6 y0 y1 y2 y3 Z Q') : w_X7_grow_b137 (X 5 x1) x6 y0 y1 y2 (X 5 y3) S Q := by
  unfold v_X7_grow_b137 at h
  unfold w_X7_grow_b137
  intro x101 ex
  replace h := h x101 ex
  refine ⟨rK_FR hC k_x1, ?_⟩
  refine ⟨(rN_FR hC k_x1).symm ▸ vp_lit6_22, ?_⟩
  intro x103 ex
  replace h := h x103 (ex.trans (rB_FR hC k_x1 q_lit6 (by decide)))
  intro x104 ex
  replace h := h x104 ex
  intro x105 ex
  replace h := h x105 ex
  refine ⟨fun c => ?_, fun c => ?_⟩
  · replace h := h.1 c
    exact u_X7_grow_b158 (x1 := x1) (y3 := y3) hSt hQ k_x1 k_y3 hC hP h
  · replace h := h.2 c
    exact u_X7_grow_b158 (x1 := x1) (y3 := y3) hSt hQ k_x1 k_y3 hC hP h
def v_X7_grow_b78 (E : fT) (x1 : Nat) (y0 : Int32) (y1 : Int32) (Z : yT) (Q : yT → Prop) : Prop :=
  ∀ x101 : Int32, x101 = y1 + y0 →
  ∀ x103 : Int32, x103 = Z 7 x1 →
  ∀ x104 : Int32, x104 = x103 - x101 →
  ∀ x105 : Int32, x105 = s_max (0 : Int32) x104 →
  ∀ Z107 : yT, Z107 = s_up2 Z 7 x1 x105 →
  ∀ x109 : Int32, x109 = Z107 6 x1 →
  ∀ x112 : Int32, x112 = Z107 66 0 →
  ∀ x113 : Int32, x113 = x109 + x112 →
  ∀ Z115 : yT, Z115 = s_up2 Z107 6 x1 x113 →
  ∀ x117 : Int32, x117 = Z115 5 x1 →
  ∀ x119 : Int32, x119 = Z115 6 x1 →
  ∀ x120 : Int32, x120 = (20 : Int32) * x117 →
  ∀ x121 : Int32, x121 = (60 : Int32) + x120 →
  ((x119 < x121 →
  v_X7_grow_b137 E x1 x117 (0 : Int32) (2 : Int32) (4 : Int32) x1 Z115 Q) ∧
  (¬ x119 < x121 →
  v_X7_grow_b137 E x1 x117 (1 : Int32) (2 : Int32) (4 : Int32) x1 Z115 Q))
set_option maxHeartbeats 1000000 in
theorem u_X7_grow_b78 {Q : sT → Prop} {Q' : yT → Prop} {x1 : Nat} {y0 : Int32} {y1 : Int32} {S : sT} {Z : yT} (hSt : rSt X E P) (hQ : ∀ S Z, RC X E S Z → P S → Q' Z → Q S)  (k_x1 : x1 < E.2.1) (hC : RC X E S Z) (hP : P S) (h : v_X7_grow_b78 E x1 y0 y1 Z Q') : w_X7_grow_b78 (X 1 0) (X 5 x1) y0 y1 S Q := by
  unfold v_X7_grow_b78 at h
  unfold w_X7_grow_b78
  intro x101 ex
  replace h := h x101 ex
  refine ⟨rK_FR hC k_x1, ?_⟩
  refine ⟨(rN_FR hC k_x1).symm ▸ vp_lit7_22, ?_⟩
  intro x103 ex
  replace h := h x103 (ex.trans (rB_FR hC k_x1 q_lit7 (by decide)))
  intro x104 ex
  replace h := h x104 ex
  intro x105 ex
  replace h := h x105 ex
  refine ⟨(rN_FR hC k_x1).symm ▸ vp_lit7_22, ?_⟩
  intro S107 eS
  obtain ⟨Z107, eZ, h⟩ := vEx h
  replace hC := wB_FR hC k_x1 q_lit7 (by decide) eS eZ
  replace hP := eS ▸ hSt.1 _ 5 x1 _ _ (Or.inr (Or.inl ⟨rfl, k_x1⟩)) hP
  clear eS eZ
  refine ⟨(rN_FR hC k_x1).symm ▸ vp_lit6_22, ?_⟩
  intro x109 ex
  replace h := h x109 (ex.trans (rB_FR hC k_x1 q_lit6 (by decide)))
  refine ⟨rK_Wld hC, ?_⟩
  refine ⟨_, rF_258 hC, ?_⟩
  refine ⟨rK_All hC, ?_⟩
  refine ⟨(rN_All hC).symm ▸ vp_lit2_11, ?_⟩
  intro x112 ex
  replace h := h x112 (ex.trans (rB_All hC  q_lit2 (by decide)))
  intro x113 ex
  replace h := h x113 ex
  refine ⟨(rN_FR hC k_x1).symm ▸ vp_lit6_22, ?_⟩
  intro S115 eS
  obtain ⟨Z115, eZ, h⟩ := vEx h
  replace hC := wB_FR hC k_x1 q_lit6 (by decide) eS eZ
  replace hP := eS ▸ hSt.1 _ 5 x1 _ _ (Or.inr (Or.inl ⟨rfl, k_x1⟩)) hP
  clear eS eZ
  refine ⟨(rN_FR hC k_x1).symm ▸ vp_lit5_22, ?_⟩
  intro x117 ex
  replace h := h x117 (ex.trans (rB_FR hC k_x1 q_lit5 (by decide)))
  refine ⟨(rN_FR hC k_x1).symm ▸ vp_lit6_22, ?_⟩
  intro x119 ex
  replace h := h x119 (ex.trans (rB_FR hC k_x1 q_lit6 (by decide)))
  intro x120 ex
  replace h := h x120 ex
  intro x121 ex
  replace h := h x121 ex
  refine ⟨fun c => ?_, fun c => ?_⟩
  · replace h := h.1 c
    exact u_X7_grow_b137 (x1 := x1) (y3 := x1) hSt hQ k_x1 k_x1 hC hP h
  · replace h := h.2 c
    exact u_X7_grow_b137 (x1 := x1) (y3 := x1) hSt hQ k_x1 k_x1 hC hP h
def v_X7_grow_b44 (E : fT) (x1 : Nat) (x3 : Int32) (y0 : Int32) (Z : yT) (Q : yT → Prop) : Prop :=
  ∀ x102 : Int32, x102 = Z 8 x1 →
  ∀ x103 : Int32, x103 = x102 / (20 : Int32) →
  ∀ x105 : Int32, x105 = Z 1 x1 →
  (((2 : Int32) ≤ x105 →
  ∀ x108 : Int32, x108 = Z 1 x1 →
  ((x108 ≤ (20 : Int32) →
  v_X7_grow_b78 E x1 (0 : Int32) x103 Z Q) ∧
  (¬ x108 ≤ (20 : Int32) →
  v_X7_grow_b78 E x1 y0 x103 Z Q))) ∧
  (¬ (2 : Int32) ≤ x105 →
  v_X7_grow_b78 E x1 x3 x103 Z Q))
set_option maxHeartbeats 1000000 in
theorem u_X7_grow_b44 {Q : sT → Prop} {Q' : yT → Prop} {x1 : Nat} {x3 : Int32} {y0 : Int32} {S : sT} {Z : yT} (hSt : rSt X E P) (hQ : ∀ S Z, RC X E S Z → P S → Q' Z → Q S)  (k_x1 : x1 < E.2.1) (hC : RC X E S Z) (hP : P S) (h : v_X7_grow_b44 E x1 x3 y0 Z Q') : w_X7_grow_b44 (X 1 0) (X 5 x1) x3 y0 S Q := by
  unfold v_X7_grow_b44 at h
  unfold w_X7_grow_b44
  refine ⟨rK_FR hC k_x1, ?_⟩
  refine ⟨(rN_FR hC k_x1).symm ▸ vp_lit8_22, ?_⟩
  intro x102 ex
  replace h := h x102 (ex.trans (rB_FR hC k_x1 q_lit8 (by decide)))
  intro x103 ex
  replace h := h x103 ex
  refine ⟨(rN_FR hC k_x1).symm ▸ vp_lit1_22, ?_⟩
  intro x105 ex
  replace h := h x105 (ex.trans (rB_FR hC k_x1 q_lit1 (by decide)))
  refine ⟨fun c => ?_, fun c => ?_⟩
  · replace h := h.1 c
    refine ⟨(rN_FR hC k_x1).symm ▸ vp_lit1_22, ?_⟩
    intro x108 ex
    replace h := h x108 (ex.trans (rB_FR hC k_x1 q_lit1 (by decide)))
    refine ⟨fun c => ?_, fun c => ?_⟩
    · replace h := h.1 c
      exact u_X7_grow_b78 (x1 := x1) hSt hQ k_x1 hC hP h
    · replace h := h.2 c
      exact u_X7_grow_b78 (x1 := x1) hSt hQ k_x1 hC hP h
  · replace h := h.2 c
    exact u_X7_grow_b78 (x1 := x1) hSt hQ k_x1 hC hP h
def v_X7_grow_b25 (E : fT) (x1 : Nat) (x2 : Int32) (y0 : Int32) (Z : yT) (Q : yT → Prop) : Prop :=
  ((¬ x2 = 0 →
  ((¬ x2 = (1 : Int32) →
  v_X7_grow_b44 E x1 y0 (1 : Int32) Z Q) ∧
  (x2 = (1 : Int32) →
  v_X7_grow_b44 E x1 y0 (4 : Int32) Z Q))) ∧
  (x2 = 0 →
  v_X7_grow_b44 E x1 y0 (2 : Int32) Z Q))
set_option maxHeartbeats 1000000 in
theorem u_X7_grow_b25 {Q : sT → Prop} {Q' : yT → Prop} {x1 : Nat} {x2 : Int32} {y0 : Int32} {S : sT} {Z : yT} (hSt : rSt X E P) (hQ : ∀ S Z, RC X E S Z → P S → Q' Z → Q S)  (k_x1 : x1 < E.2.1) (hC : RC X E S Z) (hP : P S) (h : v_X7_grow_b25 E x1 x2 y0 Z Q') : w_X7_grow_b25 (X 1 0) (X 5 x1) x2 y0 S Q := by
  unfold v_X7_grow_b25 at h
  unfold w_X7_grow_b25
  refine ⟨fun c => ?_, fun c => ?_⟩
  · replace h := h.1 c
    refine ⟨fun c => ?_, fun c => ?_⟩
    · replace h := h.1 c
      exact u_X7_grow_b44 (x1 := x1) hSt hQ k_x1 hC hP h
    · replace h := h.2 c
      exact u_X7_grow_b44 (x1 := x1) hSt hQ k_x1 hC hP h
  · replace h := h.2 c
    exact u_X7_grow_b44 (x1 := x1) hSt hQ k_x1 hC hP h
def v_X7_grow_b0 (E : fT) (x1 : Nat) (Z : yT) (Q : yT → Prop) : Prop :=
  ∀ x102 : Int32, x102 = Z 4 x1 →
  ∀ x103 : Int32, x103 = x102 - (2 : Int32) →
  ((¬ x103 = 0 →
  ((¬ x103 = (1 : Int32) →
  v_X7_grow_b25 E x1 x103 (1 : Int32) Z Q) ∧
  (x103 = (1 : Int32) →
  v_X7_grow_b25 E x1 x103 (6 : Int32) Z Q))) ∧
  (x103 = 0 →
  v_X7_grow_b25 E x1 x103 (3 : Int32) Z Q))
set_option maxHeartbeats 1000000 in
theorem u_X7_grow_b0 {Q : sT → Prop} {Q' : yT → Prop} {x1 : Nat} {S : sT} {Z : yT} (hSt : rSt X E P) (hQ : ∀ S Z, RC X E S Z → P S → Q' Z → Q S)  (k_x1 : x1 < E.2.1) (hC : RC X E S Z) (hP : P S) (h : v_X7_grow_b0 E x1 Z Q') : w_X7_grow_b0 (X 1 0) (X 5 x1) S Q := by
  unfold v_X7_grow_b0 at h
  unfold w_X7_grow_b0
  refine ⟨rK_FR hC k_x1, ?_⟩
  refine ⟨(rN_FR hC k_x1).symm ▸ vp_lit4_22, ?_⟩
  intro x102 ex
  replace h := h x102 (ex.trans (rB_FR hC k_x1 q_lit4 (by decide)))
  intro x103 ex
  replace h := h x103 ex
  refine ⟨fun c => ?_, fun c => ?_⟩
  · replace h := h.1 c
    refine ⟨fun c => ?_, fun c => ?_⟩
    · replace h := h.1 c
      exact u_X7_grow_b25 (x1 := x1) hSt hQ k_x1 hC hP h
    · replace h := h.2 c
      exact u_X7_grow_b25 (x1 := x1) hSt hQ k_x1 hC hP h
  · replace h := h.2 c
    exact u_X7_grow_b25 (x1 := x1) hSt hQ k_x1 hC hP h
def v_X7_grow (E : fT) (x1 : Nat) (Z : yT) (Q : yT → Prop) : Prop :=
  v_X7_grow_b0 E x1 Z Q
set_option maxHeartbeats 1000000 in
theorem u_X7_grow {Q : sT → Prop} {Q' : yT → Prop} {x1 : Nat} {S : sT} {Z : yT} (hSt : rSt X E P) (hQ : ∀ S Z, RC X E S Z → P S → Q' Z → Q S)  (k_x1 : x1 < E.2.1) (hC : RC X E S Z) (hP : P S) (h : v_X7_grow E x1 Z Q') : w_X7_grow (X 1 0) (X 5 x1) S Q := by
  unfold v_X7_grow at h
  unfold w_X7_grow
  exact u_X7_grow_b0 (x1 := x1) hSt hQ k_x1 hC hP h
def v_X7_below_b52 (E : fT) (y0 : Int32) (Z : yT) (Q : Int32 → yT → Prop) : Prop :=
  Q y0 Z
set_option maxHeartbeats 1000000 in
theorem u_X7_below_b52 {Q : Int32 → sT → Prop} {Q' : Int32 → yT → Prop} {y0 : Int32} {S : sT} {Z : yT} (hSt : rSt X E P) (hQ : ∀ x S Z, RC X E S Z → P S → Q' x Z → Q x S)   (hC : RC X E S Z) (hP : P S) (h : v_X7_below_b52 E y0 Z Q') : w_X7_below_b52 y0 S Q := by
  unfold v_X7_below_b52 at h
  unfold w_X7_below_b52
  exact hQ _ _ _ hC hP h
def v_X7_below_b38 (E : fT) (x2 : Int32) (Z : yT) (Q : Int32 → yT → Prop) : Prop :=
  ∀ x102 : Int32, x102 = nI E.2.1 →
  ((x102 ≤ x2 →
  v_X7_below_b52 E (-1 : Int32) Z Q) ∧
  (¬ x102 ≤ x2 →
  v_X7_below_b52 E x2 Z Q))
set_option maxHeartbeats 1000000 in
theorem u_X7_below_b38 {Q : Int32 → sT → Prop} {Q' : Int32 → yT → Prop} {x2 : Int32} {S : sT} {Z : yT} (hSt : rSt X E P) (hQ : ∀ x S Z, RC X E S Z → P S → Q' x Z → Q x S)   (hC : RC X E S Z) (hP : P S) (h : v_X7_below_b38 E x2 Z Q') : w_X7_below_b38 (X 1 0) x2 S Q := by
  unfold v_X7_below_b38 at h
  unfold w_X7_below_b38
  refine ⟨rK_Wld hC, ?_⟩
  refine ⟨_, rF_257 hC, ?_⟩
  refine ⟨rK_FArr hC, ?_⟩
  intro x102 ex
  replace h := h x102 (ex.trans (congrArg nI (rN_FArr hC)))
  refine ⟨fun c => ?_, fun c => ?_⟩
  · replace h := h.1 c
    exact u_X7_below_b52 hSt hQ hC hP h
  · replace h := h.2 c
    exact u_X7_below_b52 hSt hQ hC hP h
def v_X7_below_b4 (E : fT)  (Q : Int32 → yT → Prop) : Nat → Int32 → Int32 → yT → Prop
  | 0 => fun _ _ _ => False
  | n + 1 => fun x1 x2 Z =>
    ∀ x102 : Int32, x102 = nI E.2.1 →
    ((x102 ≤ x2 →
    v_X7_below_b38 E x2 Z Q) ∧
    (¬ x102 ≤ x2 →
    vp_in x2 E.2.1 ∧
    ∀ a106 : Nat, a106 = Int32.toNatClampNeg x2 →
    ∀ x108 : Int32, x108 = Z 0 a106 →
    vp_in x1 E.2.1 ∧
    ∀ a111 : Nat, a111 = Int32.toNatClampNeg x1 →
    ∀ x113 : Int32, x113 = Z 0 a111 →
    ((x108 = x113 →
    v_X7_below_b38 E x2 Z Q) ∧
    (¬ x108 = x113 →
    ∀ x115 : Int32, x115 = x2 + 1 →
    v_X7_below_b4 E Q n x1 x115 Z))))
set_option maxHeartbeats 1000000 in
theorem u_X7_below_b4 {Q : Int32 → sT → Prop} {Q' : Int32 → yT → Prop} (hSt : rSt X E P) (hQ : ∀ x S Z, RC X E S Z → P S → Q' x Z → Q x S)  : ∀ (n : Nat) (x1 : Int32) (x2 : Int32) (S : sT) (Z : yT), RC X E S Z → P S → v_X7_below_b4 E  Q' n x1 x2 Z → w_X7_below_b4  Q n (X 1 0) x1 x2 S := by
  intro n
  induction n with
  | zero => intro x1 x2 S Z  hC hP h; exact absurd h id
  | succ n ih =>
    intro x1 x2 S Z  hC hP h
    unfold v_X7_below_b4 at h
    unfold w_X7_below_b4
    refine ⟨rK_Wld hC, ?_⟩
    refine ⟨_, rF_257 hC, ?_⟩
    refine ⟨rK_FArr hC, ?_⟩
    intro x102 ex
    replace h := h x102 (ex.trans (congrArg nI (rN_FArr hC)))
    refine ⟨fun c => ?_, fun c => ?_⟩
    · replace h := h.1 c
      exact u_X7_below_b38 hSt hQ hC hP h
    · replace h := h.2 c
      refine ⟨_, rF_257 hC, ?_⟩
      refine ⟨rK_FArr hC, ?_⟩
      obtain ⟨i_x2_E21, h⟩ := h
      refine ⟨(rN_FArr hC).symm ▸ i_x2_E21, ?_⟩
      obtain ⟨a106, ea106, h⟩ := vEx h
      have k_a106 := vp_lk i_x2_E21 ea106
      refine ⟨_, (rP_FArr hC (vp_lt i_x2_E21)).trans (congrArg (fun z => some (X 5 z)) ea106.symm), ?_⟩
      refine ⟨rK_FR hC k_a106, ?_⟩
      refine ⟨(rN_FR hC k_a106).symm ▸ vp_lit0_22, ?_⟩
      intro x108 ex
      replace h := h x108 (ex.trans (rB_FR hC k_a106 q_lit0 (by decide)))
      refine ⟨_, rF_257 hC, ?_⟩
      refine ⟨rK_FArr hC, ?_⟩
      obtain ⟨i_x1_E21, h⟩ := h
      refine ⟨(rN_FArr hC).symm ▸ i_x1_E21, ?_⟩
      obtain ⟨a111, ea111, h⟩ := vEx h
      have k_a111 := vp_lk i_x1_E21 ea111
      refine ⟨_, (rP_FArr hC (vp_lt i_x1_E21)).trans (congrArg (fun z => some (X 5 z)) ea111.symm), ?_⟩
      refine ⟨rK_FR hC k_a111, ?_⟩
      refine ⟨(rN_FR hC k_a111).symm ▸ vp_lit0_22, ?_⟩
      intro x113 ex
      replace h := h x113 (ex.trans (rB_FR hC k_a111 q_lit0 (by decide)))
      refine ⟨fun c => ?_, fun c => ?_⟩
      · replace h := h.1 c
        exact u_X7_below_b38 hSt hQ hC hP h
      · replace h := h.2 c
        intro x115 ex
        replace h := h x115 ex
        exact ih x1 x115 _ _ hC hP h
def v_X7_below_b0 (E : fT) (x1 : Int32) (Z : yT) (Q : Int32 → yT → Prop) : Prop :=
  ∀ x101 : Int32, x101 = x1 + (1 : Int32) →
  ∃ n9 : Nat, 
  v_X7_below_b4 E Q n9 x1 x101 Z
set_option maxHeartbeats 1000000 in
theorem u_X7_below_b0 {Q : Int32 → sT → Prop} {Q' : Int32 → yT → Prop} {x1 : Int32} {S : sT} {Z : yT} (hSt : rSt X E P) (hQ : ∀ x S Z, RC X E S Z → P S → Q' x Z → Q x S)   (hC : RC X E S Z) (hP : P S) (h : v_X7_below_b0 E x1 Z Q') : w_X7_below_b0 (X 1 0) x1 S Q := by
  unfold v_X7_below_b0 at h
  unfold w_X7_below_b0
  intro x101 ex
  replace h := h x101 ex
  obtain ⟨n9, h⟩ := h
  refine ⟨n9, ?_⟩
  exact u_X7_below_b4 hSt hQ n9 x1 x101 _ _ hC hP h
def v_X7_below (E : fT) (x1 : Int32) (Z : yT) (Q : Int32 → yT → Prop) : Prop :=
  v_X7_below_b0 E x1 Z Q
set_option maxHeartbeats 1000000 in
theorem u_X7_below {Q : Int32 → sT → Prop} {Q' : Int32 → yT → Prop} {x1 : Int32} {S : sT} {Z : yT} (hSt : rSt X E P) (hQ : ∀ x S Z, RC X E S Z → P S → Q' x Z → Q x S)   (hC : RC X E S Z) (hP : P S) (h : v_X7_below E x1 Z Q') : w_X7_below (X 1 0) x1 S Q := by
  unfold v_X7_below at h
  unfold w_X7_below
  exact u_X7_below_b0 hSt hQ hC hP h
def v_X7_stand_b239 (E : fT) (x2 : Nat) (Z : yT) (Q : yT → Prop) : Prop :=
  v_X7_live E x2 Z (fun Z101 =>
  Q Z101)
set_option maxHeartbeats 1000000 in
theorem u_X7_stand_b239 {Q : sT → Prop} {Q' : yT → Prop} {x2 : Nat} {S : sT} {Z : yT} (hSt : rSt X E P) (hQ : ∀ S Z, RC X E S Z → P S → Q' Z → Q S)  (k_x2 : x2 < E.2.1) (hC : RC X E S Z) (hP : P S) (h : v_X7_stand_b239 E x2 Z Q') : w_X7_stand_b239 (X 1 0) (X 5 x2) S Q := by
  unfold v_X7_stand_b239 at h
  unfold w_X7_stand_b239
  refine ⟨rK_Wld hC, ?_⟩
  refine u_X7_live (x1 := x2) hSt (fun S101 Z101 hC hP h => ?_) k_x2 hC hP h
  exact hQ _ _ hC hP h
def v_X7_stand_b229 (E : fT) (x2 : Nat) (x6 : Int32) (Z : yT) (Q : yT → Prop) : Prop :=
  ((x6 = 0 →
  v_X7_stand_b239 E x2 Z Q) ∧
  (¬ x6 = 0 →
  v_X7_grow E x2 Z (fun Z102 =>
  v_X7_stand_b239 E x2 Z102 Q)))
set_option maxHeartbeats 1000000 in
theorem u_X7_stand_b229 {Q : sT → Prop} {Q' : yT → Prop} {x2 : Nat} {x6 : Int32} {S : sT} {Z : yT} (hSt : rSt X E P) (hQ : ∀ S Z, RC X E S Z → P S → Q' Z → Q S)  (k_x2 : x2 < E.2.1) (hC : RC X E S Z) (hP : P S) (h : v_X7_stand_b229 E x2 x6 Z Q') : w_X7_stand_b229 (X 1 0) (X 5 x2) x6 S Q := by
  unfold v_X7_stand_b229 at h
  unfold w_X7_stand_b229
  refine ⟨fun c => ?_, fun c => ?_⟩
  · replace h := h.1 c
    exact u_X7_stand_b239 (x2 := x2) hSt hQ k_x2 hC hP h
  · replace h := h.2 c
    refine ⟨rK_Wld hC, ?_⟩
    refine u_X7_grow (x1 := x2) hSt (fun S102 Z102 hC hP h => ?_) k_x2 hC hP h
    exact u_X7_stand_b239 (x2 := x2) hSt hQ k_x2 hC hP h
def v_X7_stand_b202 (E : fT) (x2 : Nat) (x6 : Int32) (y0 : Int32) (y1 : Int32) (y2 : Nat) (Z : yT) (Q : yT → Prop) : Prop :=
  vp_in y1 22 ∧
  ∀ Z102 : yT, Z102 = s_up2 Z (Int32.toNatClampNeg y1) y2 y0 →
  ∀ x104 : Int32, x104 = Z102 3 x2 →
  ((x104 ≤ 0 →
  v_X7_stand_b229 E x2 x6 Z102 Q) ∧
  (¬ x104 ≤ 0 →
  ∀ x107 : Int32, x107 = Z102 3 x2 →
  ∀ x108 : Int32, x108 = x107 - x107 / (3 : Int32) * (3 : Int32) →
  ((¬ x108 = 0 →
  v_X7_stand_b229 E x2 x6 Z102 Q) ∧
  (x108 = 0 →
  ∀ x111 : Int32, x111 = Z102 2 x2 →
  ∀ x112 : Int32, x112 = x111 + (1 : Int32) →
  ∀ x113 : Int32, x113 = s_min (3 : Int32) x112 →
  ∀ Z115 : yT, Z115 = s_up2 Z102 2 x2 x113 →
  v_X7_stand_b229 E x2 x6 Z115 Q))))
set_option maxHeartbeats 1000000 in
theorem u_X7_stand_b202 {Q : sT → Prop} {Q' : yT → Prop} {x2 : Nat} {x6 : Int32} {y0 : Int32} {y1 : Int32} {y2 : Nat} {S : sT} {Z : yT} (hSt : rSt X E P) (hQ : ∀ S Z, RC X E S Z → P S → Q' Z → Q S)  (k_x2 : x2 < E.2.1) (k_y2 : y2 < E.2.1) (hC : RC X E S Z) (hP : P S) (h : v_X7_stand_b202 E x2 x6 y0 y1 y2 Z Q') : w_X7_stand_b202 (X 1 0) (X 5 x2) x6 y0 y1 (X 5 y2) S Q := by
  unfold v_X7_stand_b202 at h
  unfold w_X7_stand_b202
  refine ⟨rK_FR hC k_y2, ?_⟩
  obtain ⟨i_y1_22, h⟩ := h
  refine ⟨(rN_FR hC k_y2).symm ▸ i_y1_22, ?_⟩
  intro S102 eS
  obtain ⟨Z102, eZ, h⟩ := vEx h
  replace hC := wB_FR hC k_y2 rfl (vp_lt i_y1_22) eS eZ
  replace hP := eS ▸ hSt.1 _ 5 y2 _ _ (Or.inr (Or.inl ⟨rfl, k_y2⟩)) hP
  clear eS eZ
  refine ⟨rK_FR hC k_x2, ?_⟩
  refine ⟨(rN_FR hC k_x2).symm ▸ vp_lit3_22, ?_⟩
  intro x104 ex
  replace h := h x104 (ex.trans (rB_FR hC k_x2 q_lit3 (by decide)))
  refine ⟨fun c => ?_, fun c => ?_⟩
  · replace h := h.1 c
    exact u_X7_stand_b229 (x2 := x2) hSt hQ k_x2 hC hP h
  · replace h := h.2 c
    refine ⟨(rN_FR hC k_x2).symm ▸ vp_lit3_22, ?_⟩
    intro x107 ex
    replace h := h x107 (ex.trans (rB_FR hC k_x2 q_lit3 (by decide)))
    intro x108 ex
    replace h := h x108 ex
    refine ⟨fun c => ?_, fun c => ?_⟩
    · replace h := h.1 c
      exact u_X7_stand_b229 (x2 := x2) hSt hQ k_x2 hC hP h
    · replace h := h.2 c
      refine ⟨(rN_FR hC k_x2).symm ▸ vp_lit2_22, ?_⟩
      intro x111 ex
      replace h := h x111 (ex.trans (rB_FR hC k_x2 q_lit2 (by decide)))
      intro x112 ex
      replace h := h x112 ex
      intro x113 ex
      replace h := h x113 ex
      refine ⟨(rN_FR hC k_x2).symm ▸ vp_lit2_22, ?_⟩
      intro S115 eS
      obtain ⟨Z115, eZ, h⟩ := vEx h
      replace hC := wB_FR hC k_x2 q_lit2 (by decide) eS eZ
      replace hP := eS ▸ hSt.1 _ 5 x2 _ _ (Or.inr (Or.inl ⟨rfl, k_x2⟩)) hP
      clear eS eZ
      exact u_X7_stand_b229 (x2 := x2) hSt hQ k_x2 hC hP h
def v_X7_stand_b160 (E : fT) (x2 : Nat) (x6 : Int32) (y0 : Int32) (y1 : Int32) (Z : yT) (Q : yT → Prop) : Prop :=
  ∀ x101 : Int32, x101 = s_min y1 y0 →
  ∀ x103 : Int32, x103 = Z 1 x2 →
  ∀ x104 : Int32, x104 = x103 - x101 →
  ∀ Z106 : yT, Z106 = s_up2 Z 1 x2 x104 →
  ∀ x109 : Int32, x109 = Z106 71 0 →
  ∀ x110 : Int32, x110 = x109 + x101 →
  ∀ Z112 : yT, Z112 = s_up2 Z106 71 0 x110 →
  ∀ x114 : Int32, x114 = Z112 1 x2 →
  ((¬ x114 = 0 →
  v_X7_stand_b202 E x2 x6 (0 : Int32) (3 : Int32) x2 Z112 Q) ∧
  (x114 = 0 →
  ∀ x117 : Int32, x117 = Z112 3 x2 →
  ∀ x118 : Int32, x118 = x117 + (1 : Int32) →
  v_X7_stand_b202 E x2 x6 x118 (3 : Int32) x2 Z112 Q))
set_option maxHeartbeats 1000000 in
theorem u_X7_stand_b160 {Q : sT → Prop} {Q' : yT → Prop} {x2 : Nat} {x6 : Int32} {y0 : Int32} {y1 : Int32} {S : sT} {Z : yT} (hSt : rSt X E P) (hQ : ∀ S Z, RC X E S Z → P S → Q' Z → Q S)  (k_x2 : x2 < E.2.1) (hC : RC X E S Z) (hP : P S) (h : v_X7_stand_b160 E x2 x6 y0 y1 Z Q') : w_X7_stand_b160 (X 1 0) (X 5 x2) x6 y0 y1 S Q := by
  unfold v_X7_stand_b160 at h
  unfold w_X7_stand_b160
  intro x101 ex
  replace h := h x101 ex
  refine ⟨rK_FR hC k_x2, ?_⟩
  refine ⟨(rN_FR hC k_x2).symm ▸ vp_lit1_22, ?_⟩
  intro x103 ex
  replace h := h x103 (ex.trans (rB_FR hC k_x2 q_lit1 (by decide)))
  intro x104 ex
  replace h := h x104 ex
  refine ⟨(rN_FR hC k_x2).symm ▸ vp_lit1_22, ?_⟩
  intro S106 eS
  obtain ⟨Z106, eZ, h⟩ := vEx h
  replace hC := wB_FR hC k_x2 q_lit1 (by decide) eS eZ
  replace hP := eS ▸ hSt.1 _ 5 x2 _ _ (Or.inr (Or.inl ⟨rfl, k_x2⟩)) hP
  clear eS eZ
  refine ⟨rK_Wld hC, ?_⟩
  refine ⟨_, rF_258 hC, ?_⟩
  refine ⟨rK_All hC, ?_⟩
  refine ⟨(rN_All hC).symm ▸ vp_lit7_11, ?_⟩
  intro x109 ex
  replace h := h x109 (ex.trans (rB_All hC  q_lit7 (by decide)))
  intro x110 ex
  replace h := h x110 ex
  refine ⟨(rN_All hC).symm ▸ vp_lit7_11, ?_⟩
  intro S112 eS
  obtain ⟨Z112, eZ, h⟩ := vEx h
  replace hC := wB_All hC  q_lit7 (by decide) eS eZ
  replace hP := eS ▸ hSt.1 _ 6 0 _ _ (st_All) hP
  clear eS eZ
  refine ⟨(rN_FR hC k_x2).symm ▸ vp_lit1_22, ?_⟩
  intro x114 ex
  replace h := h x114 (ex.trans (rB_FR hC k_x2 q_lit1 (by decide)))
  refine ⟨fun c => ?_, fun c => ?_⟩
  · replace h := h.1 c
    exact u_X7_stand_b202 (x2 := x2) (y2 := x2) hSt hQ k_x2 k_x2 hC hP h
  · replace h := h.2 c
    refine ⟨(rN_FR hC k_x2).symm ▸ vp_lit3_22, ?_⟩
    intro x117 ex
    replace h := h x117 (ex.trans (rB_FR hC k_x2 q_lit3 (by decide)))
    intro x118 ex
    replace h := h x118 ex
    exact u_X7_stand_b202 (x2 := x2) (y2 := x2) hSt hQ k_x2 k_x2 hC hP h
def v_X7_stand_b137 (E : fT) (x2 : Nat) (Z : yT) (Q : yT → Prop) : Prop :=
  ∀ x102 : Int32, x102 = Z 4 x2 →
  v_X8_is E x102 (2 : Int32) (4 : Int32) Z (fun x104 Z103 =>
  ∀ x106 : Int32, x106 = Z103 1 x2 →
  ((x104 = 0 →
  v_X7_stand_b160 E x2 x104 (1 : Int32) x106 Z103 Q) ∧
  (¬ x104 = 0 →
  v_X7_stand_b160 E x2 x104 (2 : Int32) x106 Z103 Q)))
set_option maxHeartbeats 1000000 in
theorem u_X7_stand_b137 {Q : sT → Prop} {Q' : yT → Prop} {x2 : Nat} {S : sT} {Z : yT} (hSt : rSt X E P) (hQ : ∀ S Z, RC X E S Z → P S → Q' Z → Q S)  (k_x2 : x2 < E.2.1) (hC : RC X E S Z) (hP : P S) (h : v_X7_stand_b137 E x2 Z Q') : w_X7_stand_b137 (X 1 0) (X 5 x2) S Q := by
  unfold v_X7_stand_b137 at h
  unfold w_X7_stand_b137
  refine ⟨rK_FR hC k_x2, ?_⟩
  refine ⟨(rN_FR hC k_x2).symm ▸ vp_lit4_22, ?_⟩
  intro x102 ex
  replace h := h x102 (ex.trans (rB_FR hC k_x2 q_lit4 (by decide)))
  refine u_X8_is hSt (fun x104 S103 Z103 hC hP h => ?_) hC hP h
  refine ⟨rK_FR hC k_x2, ?_⟩
  refine ⟨(rN_FR hC k_x2).symm ▸ vp_lit1_22, ?_⟩
  intro x106 ex
  replace h := h x106 (ex.trans (rB_FR hC k_x2 q_lit1 (by decide)))
  refine ⟨fun c => ?_, fun c => ?_⟩
  · replace h := h.1 c
    exact u_X7_stand_b160 (x2 := x2) hSt hQ k_x2 hC hP h
  · replace h := h.2 c
    exact u_X7_stand_b160 (x2 := x2) hSt hQ k_x2 hC hP h
def v_X7_stand_b0 (E : fT) (x1 : Int32) (Z : yT) (Q : yT → Prop) : Prop :=
  vp_in x1 E.2.1 ∧
  ∀ a103 : Nat, a103 = Int32.toNatClampNeg x1 →
  ∀ x105 : Int32, x105 = Z 1 a103 →
  ∀ x107 : Int32, x107 = Z 11 a103 →
  ∀ x110 : Int32, x110 = Z 67 0 →
  ∀ x111 : Int32, x111 = x107 + x110 →
  vp_in x1 12 ∧
  ∀ x114 : Int32, x114 = Z 22 (Int32.toNatClampNeg x1) →
  ∀ x115 : Int32, x115 = x111 + x114 →
  ∀ x116 : Int32, x116 = x105 + x115 →
  ∀ Z118 : yT, Z118 = s_up2 Z 1 a103 x116 →
  ∀ x120 : Int32, x120 = Z118 1 a103 →
  ∀ x122 : Int32, x122 = Z118 14 a103 →
  ∀ x123 : Int32, x123 = x120 - x122 →
  ∀ x124 : Int32, x124 = s_max (0 : Int32) x123 →
  ∀ x126 : Int32, x126 = Z118 1 a103 →
  ∀ x127 : Int32, x127 = x126 - x124 →
  ∀ Z129 : yT, Z129 = s_up2 Z118 1 a103 x127 →
  ∀ x131 : Int32, x131 = Z129 1 a103 →
  ∀ x133 : Int32, x133 = Z129 2 a103 →
  ∀ x134 : Int32, x134 = (1 : Int32) + x133 →
  ∀ x135 : Int32, x135 = s_min x131 x134 →
  ∀ x137 : Int32, x137 = Z129 1 a103 →
  ∀ x138 : Int32, x138 = x137 - x135 →
  ∀ Z140 : yT, Z140 = s_up2 Z129 1 a103 x138 →
  ∀ x143 : Int32, x143 = Z140 70 0 →
  ∀ x144 : Int32, x144 = x135 / (2 : Int32) →
  ∀ x145 : Int32, x145 = x135 - x144 →
  ∀ x146 : Int32, x146 = x143 + x145 →
  ∀ Z148 : yT, Z148 = s_up2 Z140 70 0 x146 →
  v_X7_below E x1 Z148 (fun x150 Z149 =>
  ((¬ x150 = (-1 : Int32) →
  vp_in x150 12 ∧
  ∀ x154 : Int32, x154 = Z149 22 (Int32.toNatClampNeg x150) →
  ∀ x155 : Int32, x155 = x135 / (2 : Int32) →
  ∀ x156 : Int32, x156 = x124 + x155 →
  ∀ x157 : Int32, x157 = x154 + x156 →
  vp_in x150 12 ∧
  ∀ Z159 : yT, Z159 = s_up2 Z149 22 (Int32.toNatClampNeg x150) x157 →
  v_X7_stand_b137 E a103 Z159 Q) ∧
  (x150 = (-1 : Int32) →
  ∀ x162 : Int32, x162 = Z149 72 0 →
  ∀ x163 : Int32, x163 = x135 / (2 : Int32) →
  ∀ x164 : Int32, x164 = x124 + x163 →
  ∀ x165 : Int32, x165 = x162 + x164 →
  ∀ Z167 : yT, Z167 = s_up2 Z149 72 0 x165 →
  v_X7_stand_b137 E a103 Z167 Q)))
set_option maxHeartbeats 1000000 in
theorem u_X7_stand_b0 {Q : sT → Prop} {Q' : yT → Prop} {x1 : Int32} {S : sT} {Z : yT} (hSt : rSt X E P) (hQ : ∀ S Z, RC X E S Z → P S → Q' Z → Q S)   (hC : RC X E S Z) (hP : P S) (h : v_X7_stand_b0 E x1 Z Q') : w_X7_stand_b0 (X 1 0) x1 S Q := by
  unfold v_X7_stand_b0 at h
  unfold w_X7_stand_b0
  refine ⟨rK_Wld hC, ?_⟩
  refine ⟨_, rF_257 hC, ?_⟩
  refine ⟨rK_FArr hC, ?_⟩
  obtain ⟨i_x1_E21, h⟩ := h
  refine ⟨(rN_FArr hC).symm ▸ i_x1_E21, ?_⟩
  obtain ⟨a103, ea103, h⟩ := vEx h
  have k_a103 := vp_lk i_x1_E21 ea103
  refine ⟨_, (rP_FArr hC (vp_lt i_x1_E21)).trans (congrArg (fun z => some (X 5 z)) ea103.symm), ?_⟩
  refine ⟨rK_FR hC k_a103, ?_⟩
  refine ⟨(rN_FR hC k_a103).symm ▸ vp_lit1_22, ?_⟩
  intro x105 ex
  replace h := h x105 (ex.trans (rB_FR hC k_a103 q_lit1 (by decide)))
  refine ⟨(rN_FR hC k_a103).symm ▸ vp_lit11_22, ?_⟩
  intro x107 ex
  replace h := h x107 (ex.trans (rB_FR hC k_a103 q_lit11 (by decide)))
  refine ⟨_, rF_258 hC, ?_⟩
  refine ⟨rK_All hC, ?_⟩
  refine ⟨(rN_All hC).symm ▸ vp_lit3_11, ?_⟩
  intro x110 ex
  replace h := h x110 (ex.trans (rB_All hC  q_lit3 (by decide)))
  intro x111 ex
  replace h := h x111 ex
  refine ⟨_, rF_259 hC, ?_⟩
  refine ⟨rK_Came hC, ?_⟩
  obtain ⟨i_x1_12, h⟩ := h
  refine ⟨(rN_Came hC).symm ▸ i_x1_12, ?_⟩
  intro x114 ex
  replace h := h x114 (ex.trans (rB_Came hC rfl (vp_lt i_x1_12)))
  intro x115 ex
  replace h := h x115 ex
  intro x116 ex
  replace h := h x116 ex
  refine ⟨(rN_FR hC k_a103).symm ▸ vp_lit1_22, ?_⟩
  intro S118 eS
  obtain ⟨Z118, eZ, h⟩ := vEx h
  replace hC := wB_FR hC k_a103 q_lit1 (by decide) eS eZ
  replace hP := eS ▸ hSt.1 _ 5 a103 _ _ (Or.inr (Or.inl ⟨rfl, k_a103⟩)) hP
  clear eS eZ
  refine ⟨(rN_FR hC k_a103).symm ▸ vp_lit1_22, ?_⟩
  intro x120 ex
  replace h := h x120 (ex.trans (rB_FR hC k_a103 q_lit1 (by decide)))
  refine ⟨(rN_FR hC k_a103).symm ▸ vp_lit14_22, ?_⟩
  intro x122 ex
  replace h := h x122 (ex.trans (rB_FR hC k_a103 q_lit14 (by decide)))
  intro x123 ex
  replace h := h x123 ex
  intro x124 ex
  replace h := h x124 ex
  refine ⟨(rN_FR hC k_a103).symm ▸ vp_lit1_22, ?_⟩
  intro x126 ex
  replace h := h x126 (ex.trans (rB_FR hC k_a103 q_lit1 (by decide)))
  intro x127 ex
  replace h := h x127 ex
  refine ⟨(rN_FR hC k_a103).symm ▸ vp_lit1_22, ?_⟩
  intro S129 eS
  obtain ⟨Z129, eZ, h⟩ := vEx h
  replace hC := wB_FR hC k_a103 q_lit1 (by decide) eS eZ
  replace hP := eS ▸ hSt.1 _ 5 a103 _ _ (Or.inr (Or.inl ⟨rfl, k_a103⟩)) hP
  clear eS eZ
  refine ⟨(rN_FR hC k_a103).symm ▸ vp_lit1_22, ?_⟩
  intro x131 ex
  replace h := h x131 (ex.trans (rB_FR hC k_a103 q_lit1 (by decide)))
  refine ⟨(rN_FR hC k_a103).symm ▸ vp_lit2_22, ?_⟩
  intro x133 ex
  replace h := h x133 (ex.trans (rB_FR hC k_a103 q_lit2 (by decide)))
  intro x134 ex
  replace h := h x134 ex
  intro x135 ex
  replace h := h x135 ex
  refine ⟨(rN_FR hC k_a103).symm ▸ vp_lit1_22, ?_⟩
  intro x137 ex
  replace h := h x137 (ex.trans (rB_FR hC k_a103 q_lit1 (by decide)))
  intro x138 ex
  replace h := h x138 ex
  refine ⟨(rN_FR hC k_a103).symm ▸ vp_lit1_22, ?_⟩
  intro S140 eS
  obtain ⟨Z140, eZ, h⟩ := vEx h
  replace hC := wB_FR hC k_a103 q_lit1 (by decide) eS eZ
  replace hP := eS ▸ hSt.1 _ 5 a103 _ _ (Or.inr (Or.inl ⟨rfl, k_a103⟩)) hP
  clear eS eZ
  refine ⟨_, rF_258 hC, ?_⟩
  refine ⟨rK_All hC, ?_⟩
  refine ⟨(rN_All hC).symm ▸ vp_lit6_11, ?_⟩
  intro x143 ex
  replace h := h x143 (ex.trans (rB_All hC  q_lit6 (by decide)))
  intro x144 ex
  replace h := h x144 ex
  intro x145 ex
  replace h := h x145 ex
  intro x146 ex
  replace h := h x146 ex
  refine ⟨(rN_All hC).symm ▸ vp_lit6_11, ?_⟩
  intro S148 eS
  obtain ⟨Z148, eZ, h⟩ := vEx h
  replace hC := wB_All hC  q_lit6 (by decide) eS eZ
  replace hP := eS ▸ hSt.1 _ 6 0 _ _ (st_All) hP
  clear eS eZ
  refine u_X7_below hSt (fun x150 S149 Z149 hC hP h => ?_) hC hP h
  refine ⟨fun c => ?_, fun c => ?_⟩
  · replace h := h.1 c
    refine ⟨rK_Wld hC, ?_⟩
    refine ⟨_, rF_259 hC, ?_⟩
    refine ⟨rK_Came hC, ?_⟩
    obtain ⟨i_x150_12, h⟩ := h
    refine ⟨(rN_Came hC).symm ▸ i_x150_12, ?_⟩
    intro x154 ex
    replace h := h x154 (ex.trans (rB_Came hC rfl (vp_lt i_x150_12)))
    intro x155 ex
    replace h := h x155 ex
    intro x156 ex
    replace h := h x156 ex
    intro x157 ex
    replace h := h x157 ex
    obtain ⟨i_x150_12, h⟩ := h
    refine ⟨(rN_Came hC).symm ▸ i_x150_12, ?_⟩
    intro S159 eS
    obtain ⟨Z159, eZ, h⟩ := vEx h
    replace hC := wB_Came hC rfl (vp_lt i_x150_12) eS eZ
    replace hP := eS ▸ hSt.1 _ 7 0 _ _ (st_Came) hP
    clear eS eZ
    exact u_X7_stand_b137 (x2 := a103) hSt hQ k_a103 hC hP h
  · replace h := h.2 c
    refine ⟨rK_Wld hC, ?_⟩
    refine ⟨_, rF_258 hC, ?_⟩
    refine ⟨rK_All hC, ?_⟩
    refine ⟨(rN_All hC).symm ▸ vp_lit8_11, ?_⟩
    intro x162 ex
    replace h := h x162 (ex.trans (rB_All hC  q_lit8 (by decide)))
    intro x163 ex
    replace h := h x163 ex
    intro x164 ex
    replace h := h x164 ex
    intro x165 ex
    replace h := h x165 ex
    refine ⟨(rN_All hC).symm ▸ vp_lit8_11, ?_⟩
    intro S167 eS
    obtain ⟨Z167, eZ, h⟩ := vEx h
    replace hC := wB_All hC  q_lit8 (by decide) eS eZ
    replace hP := eS ▸ hSt.1 _ 6 0 _ _ (st_All) hP
    clear eS eZ
    exact u_X7_stand_b137 (x2 := a103) hSt hQ k_a103 hC hP h
def v_X7_stand (E : fT) (x1 : Int32) (Z : yT) (Q : yT → Prop) : Prop :=
  v_X7_stand_b0 E x1 Z Q
set_option maxHeartbeats 1000000 in
theorem u_X7_stand {Q : sT → Prop} {Q' : yT → Prop} {x1 : Int32} {S : sT} {Z : yT} (hSt : rSt X E P) (hQ : ∀ S Z, RC X E S Z → P S → Q' Z → Q S)   (hC : RC X E S Z) (hP : P S) (h : v_X7_stand E x1 Z Q') : w_X7_stand (X 1 0) x1 S Q := by
  unfold v_X7_stand at h
  unfold w_X7_stand
  exact u_X7_stand_b0 hSt hQ hC hP h
def v_X7_takes_b42 (E : fT) (y0 : Int32) (Z : yT) (Q : Int32 → yT → Prop) : Prop :=
  (y0 = 0 ∨ y0 = 1) ∧
  Q y0 Z
set_option maxHeartbeats 1000000 in
theorem u_X7_takes_b42 {Q : Int32 → sT → Prop} {Q' : Int32 → yT → Prop} {y0 : Int32} {S : sT} {Z : yT} (hSt : rSt X E P) (hQ : ∀ x S Z, RC X E S Z → P S → Q' x Z → Q x S)   (hC : RC X E S Z) (hP : P S) (h : v_X7_takes_b42 E y0 Z Q') : w_X7_takes_b42 y0 S Q := by
  unfold v_X7_takes_b42 at h
  unfold w_X7_takes_b42
  obtain ⟨hn, h⟩ := h
  refine ⟨hn, ?_⟩
  exact hQ _ _ _ hC hP h
def v_X7_takes_b41 (E : fT) (Z : yT) (Q : Int32 → yT → Prop) : Prop :=
  v_X7_takes_b42 E (0 : Int32) Z Q
set_option maxHeartbeats 1000000 in
theorem u_X7_takes_b41 {Q : Int32 → sT → Prop} {Q' : Int32 → yT → Prop}  {S : sT} {Z : yT} (hSt : rSt X E P) (hQ : ∀ x S Z, RC X E S Z → P S → Q' x Z → Q x S)   (hC : RC X E S Z) (hP : P S) (h : v_X7_takes_b41 E Z Q') : w_X7_takes_b41 S Q := by
  unfold v_X7_takes_b41 at h
  unfold w_X7_takes_b41
  exact u_X7_takes_b42 hSt hQ hC hP h
def v_X7_takes_b0 (E : fT) (x1 : Int32) (x2 : Int32) (Z : yT) (Q : Int32 → yT → Prop) : Prop :=
  vp_in x2 E.2.1 ∧
  ∀ a103 : Nat, a103 = Int32.toNatClampNeg x2 →
  ∀ x105 : Int32, x105 = Z 0 a103 →
  ((¬ x105 = x1 →
  v_X7_takes_b41 E Z Q) ∧
  (x105 = x1 →
  vp_in x2 E.2.1 ∧
  ∀ a109 : Nat, a109 = Int32.toNatClampNeg x2 →
  ∀ x111 : Int32, x111 = Z 12 a109 →
  ((¬ x111 = (1 : Int32) →
  v_X7_takes_b41 E Z Q) ∧
  (x111 = (1 : Int32) →
  vp_in x2 E.2.1 ∧
  ∀ a115 : Nat, a115 = Int32.toNatClampNeg x2 →
  ∀ x117 : Int32, x117 = Z 17 a115 →
  ((x117 < 0 →
  v_X7_takes_b41 E Z Q) ∧
  (¬ x117 < 0 →
  v_X7_takes_b42 E (1 : Int32) Z Q))))))
set_option maxHeartbeats 1000000 in
theorem u_X7_takes_b0 {Q : Int32 → sT → Prop} {Q' : Int32 → yT → Prop} {x1 : Int32} {x2 : Int32} {S : sT} {Z : yT} (hSt : rSt X E P) (hQ : ∀ x S Z, RC X E S Z → P S → Q' x Z → Q x S)   (hC : RC X E S Z) (hP : P S) (h : v_X7_takes_b0 E x1 x2 Z Q') : w_X7_takes_b0 (X 1 0) x1 x2 S Q := by
  unfold v_X7_takes_b0 at h
  unfold w_X7_takes_b0
  refine ⟨rK_Wld hC, ?_⟩
  refine ⟨_, rF_257 hC, ?_⟩
  refine ⟨rK_FArr hC, ?_⟩
  obtain ⟨i_x2_E21, h⟩ := h
  refine ⟨(rN_FArr hC).symm ▸ i_x2_E21, ?_⟩
  obtain ⟨a103, ea103, h⟩ := vEx h
  have k_a103 := vp_lk i_x2_E21 ea103
  refine ⟨_, (rP_FArr hC (vp_lt i_x2_E21)).trans (congrArg (fun z => some (X 5 z)) ea103.symm), ?_⟩
  refine ⟨rK_FR hC k_a103, ?_⟩
  refine ⟨(rN_FR hC k_a103).symm ▸ vp_lit0_22, ?_⟩
  intro x105 ex
  replace h := h x105 (ex.trans (rB_FR hC k_a103 q_lit0 (by decide)))
  refine ⟨fun c => ?_, fun c => ?_⟩
  · replace h := h.1 c
    exact u_X7_takes_b41 hSt hQ hC hP h
  · replace h := h.2 c
    refine ⟨_, rF_257 hC, ?_⟩
    refine ⟨rK_FArr hC, ?_⟩
    obtain ⟨i_x2_E21, h⟩ := h
    refine ⟨(rN_FArr hC).symm ▸ i_x2_E21, ?_⟩
    obtain ⟨a109, ea109, h⟩ := vEx h
    have k_a109 := vp_lk i_x2_E21 ea109
    refine ⟨_, (rP_FArr hC (vp_lt i_x2_E21)).trans (congrArg (fun z => some (X 5 z)) ea109.symm), ?_⟩
    refine ⟨rK_FR hC k_a109, ?_⟩
    refine ⟨(rN_FR hC k_a109).symm ▸ vp_lit12_22, ?_⟩
    intro x111 ex
    replace h := h x111 (ex.trans (rB_FR hC k_a109 q_lit12 (by decide)))
    refine ⟨fun c => ?_, fun c => ?_⟩
    · replace h := h.1 c
      exact u_X7_takes_b41 hSt hQ hC hP h
    · replace h := h.2 c
      refine ⟨_, rF_257 hC, ?_⟩
      refine ⟨rK_FArr hC, ?_⟩
      obtain ⟨i_x2_E21, h⟩ := h
      refine ⟨(rN_FArr hC).symm ▸ i_x2_E21, ?_⟩
      obtain ⟨a115, ea115, h⟩ := vEx h
      have k_a115 := vp_lk i_x2_E21 ea115
      refine ⟨_, (rP_FArr hC (vp_lt i_x2_E21)).trans (congrArg (fun z => some (X 5 z)) ea115.symm), ?_⟩
      refine ⟨rK_FR hC k_a115, ?_⟩
      refine ⟨(rN_FR hC k_a115).symm ▸ vp_lit17_22, ?_⟩
      intro x117 ex
      replace h := h x117 (ex.trans (rB_FR hC k_a115 q_lit17 (by decide)))
      refine ⟨fun c => ?_, fun c => ?_⟩
      · replace h := h.1 c
        exact u_X7_takes_b41 hSt hQ hC hP h
      · replace h := h.2 c
        exact u_X7_takes_b42 hSt hQ hC hP h
def v_X7_takes (E : fT) (x1 : Int32) (x2 : Int32) (Z : yT) (Q : Int32 → yT → Prop) : Prop :=
  v_X7_takes_b0 E x1 x2 Z Q
set_option maxHeartbeats 1000000 in
theorem u_X7_takes {Q : Int32 → sT → Prop} {Q' : Int32 → yT → Prop} {x1 : Int32} {x2 : Int32} {S : sT} {Z : yT} (hSt : rSt X E P) (hQ : ∀ x S Z, RC X E S Z → P S → Q' x Z → Q x S)   (hC : RC X E S Z) (hP : P S) (h : v_X7_takes E x1 x2 Z Q') : w_X7_takes (X 1 0) x1 x2 S Q := by
  unfold v_X7_takes at h
  unfold w_X7_takes
  exact u_X7_takes_b0 hSt hQ hC hP h
def v_X7_next_b67 (E : fT) (y0 : Int32) (Z : yT) (Q : Int32 → yT → Prop) : Prop :=
  Q y0 Z
set_option maxHeartbeats 1000000 in
theorem u_X7_next_b67 {Q : Int32 → sT → Prop} {Q' : Int32 → yT → Prop} {y0 : Int32} {S : sT} {Z : yT} (hSt : rSt X E P) (hQ : ∀ x S Z, RC X E S Z → P S → Q' x Z → Q x S)   (hC : RC X E S Z) (hP : P S) (h : v_X7_next_b67 E y0 Z Q') : w_X7_next_b67 y0 S Q := by
  unfold v_X7_next_b67 at h
  unfold w_X7_next_b67
  exact hQ _ _ _ hC hP h
def v_X7_next_b51 (E : fT) (x1 : Int32) (x2 : Int32) (x3 : Int32) (x4 : Int32) (Z : yT) (kk13 : Int32 → Int32 → Int32 → Int32 → yT → Prop) (Q : Int32 → yT → Prop) : Prop :=
  ∀ x101 : Int32, x101 = x4 + (-1) →
  kk13 x1 x2 x3 x101 Z
set_option maxHeartbeats 1000000 in
theorem u_X7_next_b51 {Q : Int32 → sT → Prop} {Q' : Int32 → yT → Prop} {x1 : Int32} {x2 : Int32} {x3 : Int32} {x4 : Int32} {S : sT} {Z : yT} (hSt : rSt X E P) (hQ : ∀ x S Z, RC X E S Z → P S → Q' x Z → Q x S) {kk13 : Nat → Int32 → Int32 → Int32 → Int32 → sT → Prop} {kk13' : Int32 → Int32 → Int32 → Int32 → yT → Prop} (hkk13 : ∀ (x1 : Int32) (x2 : Int32) (x3 : Int32) (x4 : Int32) S Z, RC X E S Z → P S → kk13' x1 x2 x3 x4 Z → kk13 (X 1 0) x1 x2 x3 x4 S)  (hC : RC X E S Z) (hP : P S) (h : v_X7_next_b51 E x1 x2 x3 x4 Z kk13' Q') : w_X7_next_b51 (X 1 0) x1 x2 x3 x4 S kk13 Q := by
  unfold v_X7_next_b51 at h
  unfold w_X7_next_b51
  intro x101 ex
  replace h := h x101 ex
  exact hkk13 x1 x2 x3 x101 _ _  hC hP h
def v_X7_next_b13 (E : fT)  (Q : Int32 → yT → Prop) : Nat → Int32 → Int32 → Int32 → Int32 → yT → Prop
  | 0 => fun _ _ _ _ _ => False
  | n + 1 => fun x1 x2 x3 x4 Z =>
    ((x4 < 0 →
    ((¬ x3 = (-1 : Int32) →
    v_X7_next_b67 E x3 Z Q) ∧
    (x3 = (-1 : Int32) →
    v_X7_next_b67 E x2 Z Q))) ∧
    (¬ x4 < 0 →
    v_X7_takes E x1 x4 Z (fun x104 Z103 =>
    ((¬ x104 = 0 →
    vp_in x1 E.1 ∧
    ∀ a108 : Nat, a108 = Int32.toNatClampNeg x1 →
    ∀ x110 : Int32, x110 = Z103 39 a108 →
    ((x4 ≤ x110 →
    v_X7_next_b51 E x1 x4 x3 x4 Z103 (fun x1 x2 x3 x4 Z => v_X7_next_b13 E Q n x1 x2 x3 x4 Z) Q) ∧
    (¬ x4 ≤ x110 →
    v_X7_next_b51 E x1 x4 x4 x4 Z103 (fun x1 x2 x3 x4 Z => v_X7_next_b13 E Q n x1 x2 x3 x4 Z) Q))) ∧
    (x104 = 0 →
    v_X7_next_b51 E x1 x2 x3 x4 Z103 (fun x1 x2 x3 x4 Z => v_X7_next_b13 E Q n x1 x2 x3 x4 Z) Q)))))
set_option maxHeartbeats 1000000 in
theorem u_X7_next_b13 {Q : Int32 → sT → Prop} {Q' : Int32 → yT → Prop} (hSt : rSt X E P) (hQ : ∀ x S Z, RC X E S Z → P S → Q' x Z → Q x S)  : ∀ (n : Nat) (x1 : Int32) (x2 : Int32) (x3 : Int32) (x4 : Int32) (S : sT) (Z : yT), RC X E S Z → P S → v_X7_next_b13 E  Q' n x1 x2 x3 x4 Z → w_X7_next_b13  Q n (X 1 0) x1 x2 x3 x4 S := by
  intro n
  induction n with
  | zero => intro x1 x2 x3 x4 S Z  hC hP h; exact absurd h id
  | succ n ih =>
    intro x1 x2 x3 x4 S Z  hC hP h
    unfold v_X7_next_b13 at h
    unfold w_X7_next_b13
    refine ⟨fun c => ?_, fun c => ?_⟩
    · replace h := h.1 c
      refine ⟨fun c => ?_, fun c => ?_⟩
      · replace h := h.1 c
        exact u_X7_next_b67 hSt hQ hC hP h
      · replace h := h.2 c
        exact u_X7_next_b67 hSt hQ hC hP h
    · replace h := h.2 c
      refine ⟨rK_Wld hC, ?_⟩
      refine u_X7_takes hSt (fun x104 S103 Z103 hC hP h => ?_) hC hP h
      refine ⟨fun c => ?_, fun c => ?_⟩
      · replace h := h.1 c
        refine ⟨rK_Wld hC, ?_⟩
        refine ⟨_, rF_256 hC, ?_⟩
        refine ⟨rK_SArr hC, ?_⟩
        obtain ⟨i_x1_E1, h⟩ := h
        refine ⟨(rN_SArr hC).symm ▸ i_x1_E1, ?_⟩
        obtain ⟨a108, ea108, h⟩ := vEx h
        have k_a108 := vp_lk i_x1_E1 ea108
        refine ⟨_, (rP_SArr hC (vp_lt i_x1_E1)).trans (congrArg (fun z => some (X 4 z)) ea108.symm), ?_⟩
        refine ⟨rK_SR hC k_a108, ?_⟩
        refine ⟨(rN_SR hC k_a108).symm ▸ vp_lit7_10, ?_⟩
        intro x110 ex
        replace h := h x110 (ex.trans (rB_SR hC k_a108 q_lit7 (by decide)))
        refine ⟨fun c => ?_, fun c => ?_⟩
        · replace h := h.1 c
          exact u_X7_next_b51 hSt hQ (fun x1 x2 x3 x4 S Z hC hP h => ih x1 x2 x3 x4 _ _ hC hP h) hC hP h
        · replace h := h.2 c
          exact u_X7_next_b51 hSt hQ (fun x1 x2 x3 x4 S Z hC hP h => ih x1 x2 x3 x4 _ _ hC hP h) hC hP h
      · replace h := h.2 c
        exact u_X7_next_b51 hSt hQ (fun x1 x2 x3 x4 S Z hC hP h => ih x1 x2 x3 x4 _ _ hC hP h) hC hP h
def v_X7_next_b0 (E : fT) (x1 : Int32) (Z : yT) (Q : Int32 → yT → Prop) : Prop :=
  ∀ x102 : Int32, x102 = nI E.2.1 →
  ∀ x103 : Int32, x103 = x102 - (1 : Int32) →
  ∃ n9 : Nat, 
  v_X7_next_b13 E Q n9 x1 (-1 : Int32) (-1 : Int32) x103 Z
set_option maxHeartbeats 1000000 in
theorem u_X7_next_b0 {Q : Int32 → sT → Prop} {Q' : Int32 → yT → Prop} {x1 : Int32} {S : sT} {Z : yT} (hSt : rSt X E P) (hQ : ∀ x S Z, RC X E S Z → P S → Q' x Z → Q x S)   (hC : RC X E S Z) (hP : P S) (h : v_X7_next_b0 E x1 Z Q') : w_X7_next_b0 (X 1 0) x1 S Q := by
  unfold v_X7_next_b0 at h
  unfold w_X7_next_b0
  refine ⟨rK_Wld hC, ?_⟩
  refine ⟨_, rF_257 hC, ?_⟩
  refine ⟨rK_FArr hC, ?_⟩
  intro x102 ex
  replace h := h x102 (ex.trans (congrArg nI (rN_FArr hC)))
  intro x103 ex
  replace h := h x103 ex
  obtain ⟨n9, h⟩ := h
  refine ⟨n9, ?_⟩
  exact u_X7_next_b13 hSt hQ n9 x1 (-1 : Int32) (-1 : Int32) x103 _ _ hC hP h
def v_X7_next (E : fT) (x1 : Int32) (Z : yT) (Q : Int32 → yT → Prop) : Prop :=
  v_X7_next_b0 E x1 Z Q
set_option maxHeartbeats 1000000 in
theorem u_X7_next {Q : Int32 → sT → Prop} {Q' : Int32 → yT → Prop} {x1 : Int32} {S : sT} {Z : yT} (hSt : rSt X E P) (hQ : ∀ x S Z, RC X E S Z → P S → Q' x Z → Q x S)   (hC : RC X E S Z) (hP : P S) (h : v_X7_next E x1 Z Q') : w_X7_next (X 1 0) x1 S Q := by
  unfold v_X7_next at h
  unfold w_X7_next
  exact u_X7_next_b0 hSt hQ hC hP h
def v_X7_divide_b67 (E : fT) (x4 : Int32) (Z : yT) (Q : yT → Prop) : Prop :=
  ∀ x103 : Int32, x103 = Z 72 0 →
  ∀ x104 : Int32, x104 = x103 + x4 →
  ∀ Z106 : yT, Z106 = s_up2 Z 72 0 x104 →
  Q Z106
set_option maxHeartbeats 1000000 in
theorem u_X7_divide_b67 {Q : sT → Prop} {Q' : yT → Prop} {x4 : Int32} {S : sT} {Z : yT} (hSt : rSt X E P) (hQ : ∀ S Z, RC X E S Z → P S → Q' Z → Q S)   (hC : RC X E S Z) (hP : P S) (h : v_X7_divide_b67 E x4 Z Q') : w_X7_divide_b67 (X 1 0) x4 S Q := by
  unfold v_X7_divide_b67 at h
  unfold w_X7_divide_b67
  refine ⟨rK_Wld hC, ?_⟩
  refine ⟨_, rF_258 hC, ?_⟩
  refine ⟨rK_All hC, ?_⟩
  refine ⟨(rN_All hC).symm ▸ vp_lit8_11, ?_⟩
  intro x103 ex
  replace h := h x103 (ex.trans (rB_All hC  q_lit8 (by decide)))
  intro x104 ex
  replace h := h x104 ex
  refine ⟨(rN_All hC).symm ▸ vp_lit8_11, ?_⟩
  intro S106 eS
  obtain ⟨Z106, eZ, h⟩ := vEx h
  replace hC := wB_All hC  q_lit8 (by decide) eS eZ
  replace hP := eS ▸ hSt.1 _ 6 0 _ _ (st_All) hP
  clear eS eZ
  exact hQ _ _ hC hP h
def v_X7_divide_b253 (E : fT) (x1 : Int32) (x2 : Nat) (x4 : Int32) (x6 : Int32) (x7 : Int32) (Z : yT) (kk177 : Int32 → Nat → Int32 → Int32 → Int32 → yT → Prop) (Q : yT → Prop) : Prop :=
  ∀ x101 : Int32, x101 = x7 + 1 →
  kk177 x1 x2 x4 x6 x101 Z
set_option maxHeartbeats 1000000 in
theorem u_X7_divide_b253 {Q : sT → Prop} {Q' : yT → Prop} {x1 : Int32} {x2 : Nat} {x4 : Int32} {x6 : Int32} {x7 : Int32} {S : sT} {Z : yT} (hSt : rSt X E P) (hQ : ∀ S Z, RC X E S Z → P S → Q' Z → Q S) {kk177 : Nat → Int32 → Nat → Int32 → Int32 → Int32 → sT → Prop} {kk177' : Int32 → Nat → Int32 → Int32 → Int32 → yT → Prop} (hkk177 : ∀ (x1 : Int32) (x2 : Nat) (x4 : Int32) (x6 : Int32) (x7 : Int32) S Z, (x2 < E.1) → RC X E S Z → P S → kk177' x1 x2 x4 x6 x7 Z → kk177 (X 1 0) x1 (X 4 x2) x4 x6 x7 S) (k_x2 : x2 < E.1) (hC : RC X E S Z) (hP : P S) (h : v_X7_divide_b253 E x1 x2 x4 x6 x7 Z kk177' Q') : w_X7_divide_b253 (X 1 0) x1 (X 4 x2) x4 x6 x7 S kk177 Q := by
  unfold v_X7_divide_b253 at h
  unfold w_X7_divide_b253
  intro x101 ex
  replace h := h x101 ex
  exact hkk177 x1 x2 x4 x6 x101 _ _ k_x2 hC hP h
def v_X7_divide_b177 (E : fT)  (Q : yT → Prop) : Nat → Int32 → Nat → Int32 → Int32 → Int32 → yT → Prop
  | 0 => fun _ _ _ _ _ _ => False
  | n + 1 => fun x1 x2 x4 x6 x7 Z =>
    ∀ x102 : Int32, x102 = nI E.2.1 →
    ((x102 ≤ x7 →
    Q Z) ∧
    (¬ x102 ≤ x7 →
    v_X7_takes E x1 x7 Z (fun x105 Z104 =>
    ((¬ x105 = 0 →
    vp_in x7 E.2.1 ∧
    ∀ a109 : Nat, a109 = Int32.toNatClampNeg x7 →
    vp_in x7 E.2.1 ∧
    ∀ a112 : Nat, a112 = Int32.toNatClampNeg x7 →
    ∀ x114 : Int32, x114 = Z104 13 a112 →
    vp_in x7 E.2.1 ∧
    ∀ a117 : Nat, a117 = Int32.toNatClampNeg x7 →
    ∀ x119 : Int32, x119 = Z104 15 a117 →
    ∀ x120 : Int32, x120 = x114 + x119 →
    ∀ x121 : Int32, x121 = x4 * x120 →
    ¬ x6 = 0 ∧
    ∀ x123 : Int32, x123 = x121 / x6 →
    ∀ Z125 : yT, Z125 = s_up2 Z104 11 a109 x123 →
    ∀ x127 : Int32, x127 = Z125 37 x2 →
    vp_in x7 E.2.1 ∧
    ∀ a130 : Nat, a130 = Int32.toNatClampNeg x7 →
    ∀ x132 : Int32, x132 = Z125 11 a130 →
    ∀ x133 : Int32, x133 = x127 - x132 →
    ∀ Z135 : yT, Z135 = s_up2 Z125 37 x2 x133 →
    v_X7_divide_b253 E x1 x2 x4 x6 x7 Z135 (fun x1 x2 x4 x6 x7 Z => v_X7_divide_b177 E Q n x1 x2 x4 x6 x7 Z) Q) ∧
    (x105 = 0 →
    v_X7_divide_b253 E x1 x2 x4 x6 x7 Z104 (fun x1 x2 x4 x6 x7 Z => v_X7_divide_b177 E Q n x1 x2 x4 x6 x7 Z) Q)))))
set_option maxHeartbeats 1000000 in
theorem u_X7_divide_b177 {Q : sT → Prop} {Q' : yT → Prop} (hSt : rSt X E P) (hQ : ∀ S Z, RC X E S Z → P S → Q' Z → Q S)  : ∀ (n : Nat) (x1 : Int32) (x2 : Nat) (x4 : Int32) (x6 : Int32) (x7 : Int32) (S : sT) (Z : yT), (x2 < E.1) → RC X E S Z → P S → v_X7_divide_b177 E  Q' n x1 x2 x4 x6 x7 Z → w_X7_divide_b177  Q n (X 1 0) x1 (X 4 x2) x4 x6 x7 S := by
  intro n
  induction n with
  | zero => intro x1 x2 x4 x6 x7 S Z k_x2 hC hP h; exact absurd h id
  | succ n ih =>
    intro x1 x2 x4 x6 x7 S Z k_x2 hC hP h
    unfold v_X7_divide_b177 at h
    unfold w_X7_divide_b177
    refine ⟨rK_Wld hC, ?_⟩
    refine ⟨_, rF_257 hC, ?_⟩
    refine ⟨rK_FArr hC, ?_⟩
    intro x102 ex
    replace h := h x102 (ex.trans (congrArg nI (rN_FArr hC)))
    refine ⟨fun c => ?_, fun c => ?_⟩
    · replace h := h.1 c
      exact hQ _ _ hC hP h
    · replace h := h.2 c
      refine u_X7_takes hSt (fun x105 S104 Z104 hC hP h => ?_) hC hP h
      refine ⟨fun c => ?_, fun c => ?_⟩
      · replace h := h.1 c
        refine ⟨rK_Wld hC, ?_⟩
        refine ⟨_, rF_257 hC, ?_⟩
        refine ⟨rK_FArr hC, ?_⟩
        obtain ⟨i_x7_E21, h⟩ := h
        refine ⟨(rN_FArr hC).symm ▸ i_x7_E21, ?_⟩
        obtain ⟨a109, ea109, h⟩ := vEx h
        have k_a109 := vp_lk i_x7_E21 ea109
        refine ⟨_, (rP_FArr hC (vp_lt i_x7_E21)).trans (congrArg (fun z => some (X 5 z)) ea109.symm), ?_⟩
        refine ⟨_, rF_257 hC, ?_⟩
        refine ⟨rK_FArr hC, ?_⟩
        obtain ⟨i_x7_E21, h⟩ := h
        refine ⟨(rN_FArr hC).symm ▸ i_x7_E21, ?_⟩
        obtain ⟨a112, ea112, h⟩ := vEx h
        have k_a112 := vp_lk i_x7_E21 ea112
        refine ⟨_, (rP_FArr hC (vp_lt i_x7_E21)).trans (congrArg (fun z => some (X 5 z)) ea112.symm), ?_⟩
        refine ⟨rK_FR hC k_a112, ?_⟩
        refine ⟨(rN_FR hC k_a112).symm ▸ vp_lit13_22, ?_⟩
        intro x114 ex
        replace h := h x114 (ex.trans (rB_FR hC k_a112 q_lit13 (by decide)))
        refine ⟨_, rF_257 hC, ?_⟩
        refine ⟨rK_FArr hC, ?_⟩
        obtain ⟨i_x7_E21, h⟩ := h
        refine ⟨(rN_FArr hC).symm ▸ i_x7_E21, ?_⟩
        obtain ⟨a117, ea117, h⟩ := vEx h
        have k_a117 := vp_lk i_x7_E21 ea117
        refine ⟨_, (rP_FArr hC (vp_lt i_x7_E21)).trans (congrArg (fun z => some (X 5 z)) ea117.symm), ?_⟩
        refine ⟨rK_FR hC k_a117, ?_⟩
        refine ⟨(rN_FR hC k_a117).symm ▸ vp_lit15_22, ?_⟩
        intro x119 ex
        replace h := h x119 (ex.trans (rB_FR hC k_a117 q_lit15 (by decide)))
        intro x120 ex
        replace h := h x120 ex
        intro x121 ex
        replace h := h x121 ex
        obtain ⟨hn, h⟩ := h
        refine ⟨hn, ?_⟩
        intro x123 ex
        replace h := h x123 ex
        refine ⟨rK_FR hC k_a109, ?_⟩
        refine ⟨(rN_FR hC k_a109).symm ▸ vp_lit11_22, ?_⟩
        intro S125 eS
        obtain ⟨Z125, eZ, h⟩ := vEx h
        replace hC := wB_FR hC k_a109 q_lit11 (by decide) eS eZ
        replace hP := eS ▸ hSt.1 _ 5 a109 _ _ (Or.inr (Or.inl ⟨rfl, k_a109⟩)) hP
        clear eS eZ
        refine ⟨rK_SR hC k_x2, ?_⟩
        refine ⟨(rN_SR hC k_x2).symm ▸ vp_lit5_10, ?_⟩
        intro x127 ex
        replace h := h x127 (ex.trans (rB_SR hC k_x2 q_lit5 (by decide)))
        refine ⟨_, rF_257 hC, ?_⟩
        refine ⟨rK_FArr hC, ?_⟩
        obtain ⟨i_x7_E21, h⟩ := h
        refine ⟨(rN_FArr hC).symm ▸ i_x7_E21, ?_⟩
        obtain ⟨a130, ea130, h⟩ := vEx h
        have k_a130 := vp_lk i_x7_E21 ea130
        refine ⟨_, (rP_FArr hC (vp_lt i_x7_E21)).trans (congrArg (fun z => some (X 5 z)) ea130.symm), ?_⟩
        refine ⟨rK_FR hC k_a130, ?_⟩
        refine ⟨(rN_FR hC k_a130).symm ▸ vp_lit11_22, ?_⟩
        intro x132 ex
        replace h := h x132 (ex.trans (rB_FR hC k_a130 q_lit11 (by decide)))
        intro x133 ex
        replace h := h x133 ex
        refine ⟨(rN_SR hC k_x2).symm ▸ vp_lit5_10, ?_⟩
        intro S135 eS
        obtain ⟨Z135, eZ, h⟩ := vEx h
        replace hC := wB_SR hC k_x2 q_lit5 (by decide) eS eZ
        replace hP := eS ▸ hSt.1 _ 4 x2 _ _ (Or.inl ⟨rfl, k_x2⟩) hP
        clear eS eZ
        exact u_X7_divide_b253 (x2 := x2) hSt hQ (fun x1 x2 x4 x6 x7 S Z k_x2 hC hP h => ih x1 x2 x4 x6 x7 _ _ k_x2 hC hP h) k_x2 hC hP h
      · replace h := h.2 c
        exact u_X7_divide_b253 (x2 := x2) hSt hQ (fun x1 x2 x4 x6 x7 S Z k_x2 hC hP h => ih x1 x2 x4 x6 x7 _ _ k_x2 hC hP h) k_x2 hC hP h
def v_X7_divide_b160 (E : fT) (x1 : Int32) (x2 : Nat) (x4 : Int32) (x7 : Int32) (y0 : Int32) (y1 : Int32) (Z : yT) (kk113 : Int32 → Nat → Int32 → Int32 → Int32 → yT → Prop) (Q : yT → Prop) : Prop :=
  ∀ x101 : Int32, x101 = y1 + y0 →
  ∀ x102 : Int32, x102 = x7 + 1 →
  kk113 x1 x2 x4 x101 x102 Z
set_option maxHeartbeats 1000000 in
theorem u_X7_divide_b160 {Q : sT → Prop} {Q' : yT → Prop} {x1 : Int32} {x2 : Nat} {x4 : Int32} {x7 : Int32} {y0 : Int32} {y1 : Int32} {S : sT} {Z : yT} (hSt : rSt X E P) (hQ : ∀ S Z, RC X E S Z → P S → Q' Z → Q S) {kk113 : Nat → Int32 → Nat → Int32 → Int32 → Int32 → sT → Prop} {kk113' : Int32 → Nat → Int32 → Int32 → Int32 → yT → Prop} (hkk113 : ∀ (x1 : Int32) (x2 : Nat) (x4 : Int32) (x6 : Int32) (x7 : Int32) S Z, (x2 < E.1) → RC X E S Z → P S → kk113' x1 x2 x4 x6 x7 Z → kk113 (X 1 0) x1 (X 4 x2) x4 x6 x7 S) (k_x2 : x2 < E.1) (hC : RC X E S Z) (hP : P S) (h : v_X7_divide_b160 E x1 x2 x4 x7 y0 y1 Z kk113' Q') : w_X7_divide_b160 (X 1 0) x1 (X 4 x2) x4 x7 y0 y1 S kk113 Q := by
  unfold v_X7_divide_b160 at h
  unfold w_X7_divide_b160
  intro x101 ex
  replace h := h x101 ex
  intro x102 ex
  replace h := h x102 ex
  exact hkk113 x1 x2 x4 x101 x102 _ _ k_x2 hC hP h
def v_X7_divide_b113 (E : fT)  (Q : yT → Prop) : Nat → Int32 → Nat → Int32 → Int32 → Int32 → yT → Prop
  | 0 => fun _ _ _ _ _ _ => False
  | n + 1 => fun x1 x2 x4 x6 x7 Z =>
    ∀ x102 : Int32, x102 = nI E.2.1 →
    ((x102 ≤ x7 →
    ∀ Z105 : yT, Z105 = s_up2 Z 37 x2 x4 →
    ∃ n9 : Nat, 
    v_X7_divide_b177 E Q n9 x1 x2 x4 x6 (0 : Int32) Z105) ∧
    (¬ x102 ≤ x7 →
    v_X7_takes E x1 x7 Z (fun x107 Z106 =>
    ((x107 = 0 →
    v_X7_divide_b160 E x1 x2 x4 x7 (0 : Int32) x6 Z106 (fun x1 x2 x4 x6 x7 Z => v_X7_divide_b113 E Q n x1 x2 x4 x6 x7 Z) Q) ∧
    (¬ x107 = 0 →
    vp_in x7 E.2.1 ∧
    ∀ a111 : Nat, a111 = Int32.toNatClampNeg x7 →
    ∀ x113 : Int32, x113 = Z106 13 a111 →
    vp_in x7 E.2.1 ∧
    ∀ a116 : Nat, a116 = Int32.toNatClampNeg x7 →
    ∀ x118 : Int32, x118 = Z106 15 a116 →
    ∀ x119 : Int32, x119 = x113 + x118 →
    v_X7_divide_b160 E x1 x2 x4 x7 x119 x6 Z106 (fun x1 x2 x4 x6 x7 Z => v_X7_divide_b113 E Q n x1 x2 x4 x6 x7 Z) Q)))))
set_option maxHeartbeats 1000000 in
theorem u_X7_divide_b113 {Q : sT → Prop} {Q' : yT → Prop} (hSt : rSt X E P) (hQ : ∀ S Z, RC X E S Z → P S → Q' Z → Q S)  : ∀ (n : Nat) (x1 : Int32) (x2 : Nat) (x4 : Int32) (x6 : Int32) (x7 : Int32) (S : sT) (Z : yT), (x2 < E.1) → RC X E S Z → P S → v_X7_divide_b113 E  Q' n x1 x2 x4 x6 x7 Z → w_X7_divide_b113  Q n (X 1 0) x1 (X 4 x2) x4 x6 x7 S := by
  intro n
  induction n with
  | zero => intro x1 x2 x4 x6 x7 S Z k_x2 hC hP h; exact absurd h id
  | succ n ih =>
    intro x1 x2 x4 x6 x7 S Z k_x2 hC hP h
    unfold v_X7_divide_b113 at h
    unfold w_X7_divide_b113
    refine ⟨rK_Wld hC, ?_⟩
    refine ⟨_, rF_257 hC, ?_⟩
    refine ⟨rK_FArr hC, ?_⟩
    intro x102 ex
    replace h := h x102 (ex.trans (congrArg nI (rN_FArr hC)))
    refine ⟨fun c => ?_, fun c => ?_⟩
    · replace h := h.1 c
      refine ⟨rK_SR hC k_x2, ?_⟩
      refine ⟨(rN_SR hC k_x2).symm ▸ vp_lit5_10, ?_⟩
      intro S105 eS
      obtain ⟨Z105, eZ, h⟩ := vEx h
      replace hC := wB_SR hC k_x2 q_lit5 (by decide) eS eZ
      replace hP := eS ▸ hSt.1 _ 4 x2 _ _ (Or.inl ⟨rfl, k_x2⟩) hP
      clear eS eZ
      obtain ⟨n9, h⟩ := h
      refine ⟨n9, ?_⟩
      exact u_X7_divide_b177 hSt hQ n9 x1 x2 x4 x6 (0 : Int32) _ _ k_x2 hC hP h
    · replace h := h.2 c
      refine u_X7_takes hSt (fun x107 S106 Z106 hC hP h => ?_) hC hP h
      refine ⟨fun c => ?_, fun c => ?_⟩
      · replace h := h.1 c
        exact u_X7_divide_b160 (x2 := x2) hSt hQ (fun x1 x2 x4 x6 x7 S Z k_x2 hC hP h => ih x1 x2 x4 x6 x7 _ _ k_x2 hC hP h) k_x2 hC hP h
      · replace h := h.2 c
        refine ⟨rK_Wld hC, ?_⟩
        refine ⟨_, rF_257 hC, ?_⟩
        refine ⟨rK_FArr hC, ?_⟩
        obtain ⟨i_x7_E21, h⟩ := h
        refine ⟨(rN_FArr hC).symm ▸ i_x7_E21, ?_⟩
        obtain ⟨a111, ea111, h⟩ := vEx h
        have k_a111 := vp_lk i_x7_E21 ea111
        refine ⟨_, (rP_FArr hC (vp_lt i_x7_E21)).trans (congrArg (fun z => some (X 5 z)) ea111.symm), ?_⟩
        refine ⟨rK_FR hC k_a111, ?_⟩
        refine ⟨(rN_FR hC k_a111).symm ▸ vp_lit13_22, ?_⟩
        intro x113 ex
        replace h := h x113 (ex.trans (rB_FR hC k_a111 q_lit13 (by decide)))
        refine ⟨_, rF_257 hC, ?_⟩
        refine ⟨rK_FArr hC, ?_⟩
        obtain ⟨i_x7_E21, h⟩ := h
        refine ⟨(rN_FArr hC).symm ▸ i_x7_E21, ?_⟩
        obtain ⟨a116, ea116, h⟩ := vEx h
        have k_a116 := vp_lk i_x7_E21 ea116
        refine ⟨_, (rP_FArr hC (vp_lt i_x7_E21)).trans (congrArg (fun z => some (X 5 z)) ea116.symm), ?_⟩
        refine ⟨rK_FR hC k_a116, ?_⟩
        refine ⟨(rN_FR hC k_a116).symm ▸ vp_lit15_22, ?_⟩
        intro x118 ex
        replace h := h x118 (ex.trans (rB_FR hC k_a116 q_lit15 (by decide)))
        intro x119 ex
        replace h := h x119 ex
        exact u_X7_divide_b160 (x2 := x2) hSt hQ (fun x1 x2 x4 x6 x7 S Z k_x2 hC hP h => ih x1 x2 x4 x6 x7 _ _ k_x2 hC hP h) k_x2 hC hP h
def v_X7_divide_b0 (E : fT) (x1 : Int32) (Z : yT) (Q : yT → Prop) : Prop :=
  vp_in x1 E.1 ∧
  ∀ a103 : Nat, a103 = Int32.toNatClampNeg x1 →
  ∀ x105 : Int32, x105 = Z 41 a103 →
  ∀ x107 : Int32, x107 = Z 33 a103 →
  ∀ x108 : Int32, x108 = x105 * x107 →
  ∀ x109 : Int32, x109 = x108 / (100 : Int32) →
  ∀ x111 : Int32, x111 = Z 41 a103 →
  ∀ x112 : Int32, x112 = x111 - x109 →
  ∀ x114 : Int32, x114 = Z 37 a103 →
  ∀ x115 : Int32, x115 = x112 + x114 →
  ∀ x118 : Int32, x118 = Z 70 0 →
  ∀ x119 : Int32, x119 = x118 + x109 →
  ∀ Z121 : yT, Z121 = s_up2 Z 70 0 x119 →
  ∀ Z123 : yT, Z123 = s_up2 Z121 37 a103 (0 : Int32) →
  v_X7_next E x1 Z123 (fun x125 Z124 =>
  ((x125 = (-1 : Int32) →
  v_X7_divide_b67 E x115 Z124 Q) ∧
  (¬ x125 = (-1 : Int32) →
  v_X7_isOpen E x1 Z124 (fun x128 Z127 =>
  ((¬ x128 = 0 →
  ∀ x131 : Int32, x131 = Z127 38 a103 →
  ((¬ x131 = (1 : Int32) →
  ∃ n9 : Nat, 
  v_X7_divide_b113 E Q n9 x1 a103 x115 (0 : Int32) (0 : Int32) Z127) ∧
  (x131 = (1 : Int32) →
  vp_in x125 E.2.1 ∧
  ∀ a135 : Nat, a135 = Int32.toNatClampNeg x125 →
  ∀ Z137 : yT, Z137 = s_up2 Z127 11 a135 x115 →
  ∀ Z139 : yT, Z139 = s_up2 Z137 39 a103 x125 →
  Q Z139))) ∧
  (x128 = 0 →
  v_X7_divide_b67 E x115 Z127 Q))))))
set_option maxHeartbeats 1000000 in
theorem u_X7_divide_b0 {Q : sT → Prop} {Q' : yT → Prop} {x1 : Int32} {S : sT} {Z : yT} (hSt : rSt X E P) (hQ : ∀ S Z, RC X E S Z → P S → Q' Z → Q S)   (hC : RC X E S Z) (hP : P S) (h : v_X7_divide_b0 E x1 Z Q') : w_X7_divide_b0 (X 1 0) x1 S Q := by
  unfold v_X7_divide_b0 at h
  unfold w_X7_divide_b0
  refine ⟨rK_Wld hC, ?_⟩
  refine ⟨_, rF_256 hC, ?_⟩
  refine ⟨rK_SArr hC, ?_⟩
  obtain ⟨i_x1_E1, h⟩ := h
  refine ⟨(rN_SArr hC).symm ▸ i_x1_E1, ?_⟩
  obtain ⟨a103, ea103, h⟩ := vEx h
  have k_a103 := vp_lk i_x1_E1 ea103
  refine ⟨_, (rP_SArr hC (vp_lt i_x1_E1)).trans (congrArg (fun z => some (X 4 z)) ea103.symm), ?_⟩
  refine ⟨rK_SR hC k_a103, ?_⟩
  refine ⟨(rN_SR hC k_a103).symm ▸ vp_lit9_10, ?_⟩
  intro x105 ex
  replace h := h x105 (ex.trans (rB_SR hC k_a103 q_lit9 (by decide)))
  refine ⟨(rN_SR hC k_a103).symm ▸ vp_lit1_10, ?_⟩
  intro x107 ex
  replace h := h x107 (ex.trans (rB_SR hC k_a103 q_lit1 (by decide)))
  intro x108 ex
  replace h := h x108 ex
  intro x109 ex
  replace h := h x109 ex
  refine ⟨(rN_SR hC k_a103).symm ▸ vp_lit9_10, ?_⟩
  intro x111 ex
  replace h := h x111 (ex.trans (rB_SR hC k_a103 q_lit9 (by decide)))
  intro x112 ex
  replace h := h x112 ex
  refine ⟨(rN_SR hC k_a103).symm ▸ vp_lit5_10, ?_⟩
  intro x114 ex
  replace h := h x114 (ex.trans (rB_SR hC k_a103 q_lit5 (by decide)))
  intro x115 ex
  replace h := h x115 ex
  refine ⟨_, rF_258 hC, ?_⟩
  refine ⟨rK_All hC, ?_⟩
  refine ⟨(rN_All hC).symm ▸ vp_lit6_11, ?_⟩
  intro x118 ex
  replace h := h x118 (ex.trans (rB_All hC  q_lit6 (by decide)))
  intro x119 ex
  replace h := h x119 ex
  refine ⟨(rN_All hC).symm ▸ vp_lit6_11, ?_⟩
  intro S121 eS
  obtain ⟨Z121, eZ, h⟩ := vEx h
  replace hC := wB_All hC  q_lit6 (by decide) eS eZ
  replace hP := eS ▸ hSt.1 _ 6 0 _ _ (st_All) hP
  clear eS eZ
  refine ⟨(rN_SR hC k_a103).symm ▸ vp_lit5_10, ?_⟩
  intro S123 eS
  obtain ⟨Z123, eZ, h⟩ := vEx h
  replace hC := wB_SR hC k_a103 q_lit5 (by decide) eS eZ
  replace hP := eS ▸ hSt.1 _ 4 a103 _ _ (Or.inl ⟨rfl, k_a103⟩) hP
  clear eS eZ
  refine u_X7_next hSt (fun x125 S124 Z124 hC hP h => ?_) hC hP h
  refine ⟨fun c => ?_, fun c => ?_⟩
  · replace h := h.1 c
    exact u_X7_divide_b67 hSt hQ hC hP h
  · replace h := h.2 c
    refine ⟨rK_Wld hC, ?_⟩
    refine u_X7_isOpen hSt (fun x128 S127 Z127 hC hP h => ?_) hC hP h
    refine ⟨fun c => ?_, fun c => ?_⟩
    · replace h := h.1 c
      refine ⟨rK_SR hC k_a103, ?_⟩
      refine ⟨(rN_SR hC k_a103).symm ▸ vp_lit6_10, ?_⟩
      intro x131 ex
      replace h := h x131 (ex.trans (rB_SR hC k_a103 q_lit6 (by decide)))
      refine ⟨fun c => ?_, fun c => ?_⟩
      · replace h := h.1 c
        obtain ⟨n9, h⟩ := h
        refine ⟨n9, ?_⟩
        exact u_X7_divide_b113 hSt hQ n9 x1 a103 x115 (0 : Int32) (0 : Int32) _ _ k_a103 hC hP h
      · replace h := h.2 c
        refine ⟨rK_Wld hC, ?_⟩
        refine ⟨_, rF_257 hC, ?_⟩
        refine ⟨rK_FArr hC, ?_⟩
        obtain ⟨i_x125_E21, h⟩ := h
        refine ⟨(rN_FArr hC).symm ▸ i_x125_E21, ?_⟩
        obtain ⟨a135, ea135, h⟩ := vEx h
        have k_a135 := vp_lk i_x125_E21 ea135
        refine ⟨_, (rP_FArr hC (vp_lt i_x125_E21)).trans (congrArg (fun z => some (X 5 z)) ea135.symm), ?_⟩
        refine ⟨rK_FR hC k_a135, ?_⟩
        refine ⟨(rN_FR hC k_a135).symm ▸ vp_lit11_22, ?_⟩
        intro S137 eS
        obtain ⟨Z137, eZ, h⟩ := vEx h
        replace hC := wB_FR hC k_a135 q_lit11 (by decide) eS eZ
        replace hP := eS ▸ hSt.1 _ 5 a135 _ _ (Or.inr (Or.inl ⟨rfl, k_a135⟩)) hP
        clear eS eZ
        refine ⟨(rN_SR hC k_a103).symm ▸ vp_lit7_10, ?_⟩
        intro S139 eS
        obtain ⟨Z139, eZ, h⟩ := vEx h
        replace hC := wB_SR hC k_a103 q_lit7 (by decide) eS eZ
        replace hP := eS ▸ hSt.1 _ 4 a103 _ _ (Or.inl ⟨rfl, k_a103⟩) hP
        clear eS eZ
        exact hQ _ _ hC hP h
    · replace h := h.2 c
      exact u_X7_divide_b67 hSt hQ hC hP h
def v_X7_divide (E : fT) (x1 : Int32) (Z : yT) (Q : yT → Prop) : Prop :=
  v_X7_divide_b0 E x1 Z Q
set_option maxHeartbeats 1000000 in
theorem u_X7_divide {Q : sT → Prop} {Q' : yT → Prop} {x1 : Int32} {S : sT} {Z : yT} (hSt : rSt X E P) (hQ : ∀ S Z, RC X E S Z → P S → Q' Z → Q S)   (hC : RC X E S Z) (hP : P S) (h : v_X7_divide E x1 Z Q') : w_X7_divide (X 1 0) x1 S Q := by
  unfold v_X7_divide at h
  unfold w_X7_divide
  exact u_X7_divide_b0 hSt hQ hC hP h
def v_X7_pass_b240 (E : fT)  (Q : yT → Prop) : Nat → Int32 → yT → Prop
  | 0 => fun _ _ => False
  | n + 1 => fun x3 Z =>
    ∀ x102 : Int32, x102 = nI E.2.1 →
    ((x102 ≤ x3 →
    v_X7_fly E Z (fun Z104 =>
    Q Z104)) ∧
    (¬ x102 ≤ x3 →
    v_X7_stand E x3 Z (fun Z105 =>
    ∀ x106 : Int32, x106 = x3 + 1 →
    v_X7_pass_b240 E Q n x106 Z105)))
set_option maxHeartbeats 1000000 in
theorem u_X7_pass_b240 {Q : sT → Prop} {Q' : yT → Prop} (hSt : rSt X E P) (hQ : ∀ S Z, RC X E S Z → P S → Q' Z → Q S)  : ∀ (n : Nat) (x3 : Int32) (S : sT) (Z : yT), RC X E S Z → P S → v_X7_pass_b240 E  Q' n x3 Z → w_X7_pass_b240  Q n (X 1 0) x3 S := by
  intro n
  induction n with
  | zero => intro x3 S Z  hC hP h; exact absurd h id
  | succ n ih =>
    intro x3 S Z  hC hP h
    unfold v_X7_pass_b240 at h
    unfold w_X7_pass_b240
    refine ⟨rK_Wld hC, ?_⟩
    refine ⟨_, rF_257 hC, ?_⟩
    refine ⟨rK_FArr hC, ?_⟩
    intro x102 ex
    replace h := h x102 (ex.trans (congrArg nI (rN_FArr hC)))
    refine ⟨fun c => ?_, fun c => ?_⟩
    · replace h := h.1 c
      refine u_X7_fly hSt (fun S104 Z104 hC hP h => ?_) hC hP h
      exact hQ _ _ hC hP h
    · replace h := h.2 c
      refine u_X7_stand hSt (fun S105 Z105 hC hP h => ?_) hC hP h
      intro x106 ex
      replace h := h x106 ex
      exact ih x106 _ _ hC hP h
def v_X7_pass_b216 (E : fT)  (Q : yT → Prop) : Nat → Int32 → yT → Prop
  | 0 => fun _ _ => False
  | n + 1 => fun x3 Z =>
    ∀ x102 : Int32, x102 = nI E.2.1 →
    ((x102 ≤ x3 →
    ∃ n9 : Nat, 
    v_X7_pass_b240 E Q n9 (0 : Int32) Z) ∧
    (¬ x102 ≤ x3 →
    vp_in x3 12 ∧
    ∀ Z106 : yT, Z106 = s_up2 Z 22 (Int32.toNatClampNeg x3) (0 : Int32) →
    ∀ x107 : Int32, x107 = x3 + 1 →
    v_X7_pass_b216 E Q n x107 Z106))
set_option maxHeartbeats 1000000 in
theorem u_X7_pass_b216 {Q : sT → Prop} {Q' : yT → Prop} (hSt : rSt X E P) (hQ : ∀ S Z, RC X E S Z → P S → Q' Z → Q S)  : ∀ (n : Nat) (x3 : Int32) (S : sT) (Z : yT), RC X E S Z → P S → v_X7_pass_b216 E  Q' n x3 Z → w_X7_pass_b216  Q n (X 1 0) x3 S := by
  intro n
  induction n with
  | zero => intro x3 S Z  hC hP h; exact absurd h id
  | succ n ih =>
    intro x3 S Z  hC hP h
    unfold v_X7_pass_b216 at h
    unfold w_X7_pass_b216
    refine ⟨rK_Wld hC, ?_⟩
    refine ⟨_, rF_257 hC, ?_⟩
    refine ⟨rK_FArr hC, ?_⟩
    intro x102 ex
    replace h := h x102 (ex.trans (congrArg nI (rN_FArr hC)))
    refine ⟨fun c => ?_, fun c => ?_⟩
    · replace h := h.1 c
      obtain ⟨n9, h⟩ := h
      refine ⟨n9, ?_⟩
      exact u_X7_pass_b240 hSt hQ n9 (0 : Int32) _ _ hC hP h
    · replace h := h.2 c
      refine ⟨_, rF_259 hC, ?_⟩
      refine ⟨rK_Came hC, ?_⟩
      obtain ⟨i_x3_12, h⟩ := h
      refine ⟨(rN_Came hC).symm ▸ i_x3_12, ?_⟩
      intro S106 eS
      obtain ⟨Z106, eZ, h⟩ := vEx h
      replace hC := wB_Came hC rfl (vp_lt i_x3_12) eS eZ
      replace hP := eS ▸ hSt.1 _ 7 0 _ _ (st_Came) hP
      clear eS eZ
      intro x107 ex
      replace h := h x107 ex
      exact ih x107 _ _ hC hP h
def v_X7_pass_b194 (E : fT)  (Q : yT → Prop) : Nat → Int32 → yT → Prop
  | 0 => fun _ _ => False
  | n + 1 => fun x3 Z =>
    ∀ x102 : Int32, x102 = nI E.1 →
    ((x102 ≤ x3 →
    ∃ n9 : Nat, 
    v_X7_pass_b216 E Q n9 (0 : Int32) Z) ∧
    (¬ x102 ≤ x3 →
    v_X7_divide E x3 Z (fun Z104 =>
    ∀ x105 : Int32, x105 = x3 + 1 →
    v_X7_pass_b194 E Q n x105 Z104)))
set_option maxHeartbeats 1000000 in
theorem u_X7_pass_b194 {Q : sT → Prop} {Q' : yT → Prop} (hSt : rSt X E P) (hQ : ∀ S Z, RC X E S Z → P S → Q' Z → Q S)  : ∀ (n : Nat) (x3 : Int32) (S : sT) (Z : yT), RC X E S Z → P S → v_X7_pass_b194 E  Q' n x3 Z → w_X7_pass_b194  Q n (X 1 0) x3 S := by
  intro n
  induction n with
  | zero => intro x3 S Z  hC hP h; exact absurd h id
  | succ n ih =>
    intro x3 S Z  hC hP h
    unfold v_X7_pass_b194 at h
    unfold w_X7_pass_b194
    refine ⟨rK_Wld hC, ?_⟩
    refine ⟨_, rF_256 hC, ?_⟩
    refine ⟨rK_SArr hC, ?_⟩
    intro x102 ex
    replace h := h x102 (ex.trans (congrArg nI (rN_SArr hC)))
    refine ⟨fun c => ?_, fun c => ?_⟩
    · replace h := h.1 c
      obtain ⟨n9, h⟩ := h
      refine ⟨n9, ?_⟩
      exact u_X7_pass_b216 hSt hQ n9 (0 : Int32) _ _ hC hP h
    · replace h := h.2 c
      refine u_X7_divide hSt (fun S104 Z104 hC hP h => ?_) hC hP h
      intro x105 ex
      replace h := h x105 ex
      exact ih x105 _ _ hC hP h
def v_X7_pass_b167 (E : fT)  (Q : yT → Prop) : Nat → Int32 → Int32 → yT → Prop
  | 0 => fun _ _ _ => False
  | n + 1 => fun x4 x5 Z =>
    ((x4 ≤ x5 →
    ∃ n9 : Nat, 
    v_X7_pass_b194 E Q n9 (0 : Int32) Z) ∧
    (¬ x4 ≤ x5 →
    vp_in x5 E.2.1 ∧
    ∀ a103 : Nat, a103 = Int32.toNatClampNeg x5 →
    ∀ Z105 : yT, Z105 = s_up2 Z 11 a103 (0 : Int32) →
    ∀ x106 : Int32, x106 = x5 + 1 →
    v_X7_pass_b167 E Q n x4 x106 Z105))
set_option maxHeartbeats 1000000 in
theorem u_X7_pass_b167 {Q : sT → Prop} {Q' : yT → Prop} (hSt : rSt X E P) (hQ : ∀ S Z, RC X E S Z → P S → Q' Z → Q S)  : ∀ (n : Nat) (x4 : Int32) (x5 : Int32) (S : sT) (Z : yT), RC X E S Z → P S → v_X7_pass_b167 E  Q' n x4 x5 Z → w_X7_pass_b167  Q n (X 1 0) (X 3 0) x4 x5 S := by
  intro n
  induction n with
  | zero => intro x4 x5 S Z  hC hP h; exact absurd h id
  | succ n ih =>
    intro x4 x5 S Z  hC hP h
    unfold v_X7_pass_b167 at h
    unfold w_X7_pass_b167
    refine ⟨fun c => ?_, fun c => ?_⟩
    · replace h := h.1 c
      obtain ⟨n9, h⟩ := h
      refine ⟨n9, ?_⟩
      exact u_X7_pass_b194 hSt hQ n9 (0 : Int32) _ _ hC hP h
    · replace h := h.2 c
      refine ⟨rK_FArr hC, ?_⟩
      obtain ⟨i_x5_E21, h⟩ := h
      refine ⟨(rN_FArr hC).symm ▸ i_x5_E21, ?_⟩
      obtain ⟨a103, ea103, h⟩ := vEx h
      have k_a103 := vp_lk i_x5_E21 ea103
      refine ⟨_, (rP_FArr hC (vp_lt i_x5_E21)).trans (congrArg (fun z => some (X 5 z)) ea103.symm), ?_⟩
      refine ⟨rK_FR hC k_a103, ?_⟩
      refine ⟨(rN_FR hC k_a103).symm ▸ vp_lit11_22, ?_⟩
      intro S105 eS
      obtain ⟨Z105, eZ, h⟩ := vEx h
      replace hC := wB_FR hC k_a103 q_lit11 (by decide) eS eZ
      replace hP := eS ▸ hSt.1 _ 5 a103 _ _ (Or.inr (Or.inl ⟨rfl, k_a103⟩)) hP
      clear eS eZ
      intro x106 ex
      replace h := h x106 ex
      exact ih x4 x106 _ _ hC hP h
def v_X7_pass_b109 (E : fT)  (Q : yT → Prop) : Nat → Int32 → Int32 → Int32 → Int32 → yT → Prop
  | 0 => fun _ _ _ _ _ => False
  | n + 1 => fun x1 x2 x4 x5 Z =>
    ((x4 ≤ x5 →
    ∀ x103 : Int32, x103 = nI E.2.1 →
    ∃ n9 : Nat, 
    v_X7_pass_b167 E Q n9 x103 (0 : Int32) Z) ∧
    (¬ x4 ≤ x5 →
    vp_in x5 E.1 ∧
    ∀ a105 : Nat, a105 = Int32.toNatClampNeg x5 →
    ∀ x107 : Int32, x107 = Z 32 a105 →
    ∀ x108 : Int32, x108 = x2 * x107 →
    ¬ x1 = 0 ∧
    ∀ x110 : Int32, x110 = x108 / x1 →
    ∀ Z112 : yT, Z112 = s_up2 Z 41 a105 x110 →
    ∀ x115 : Int32, x115 = Z112 68 0 →
    ∀ x117 : Int32, x117 = Z112 41 a105 →
    ∀ x118 : Int32, x118 = x115 - x117 →
    ∀ Z120 : yT, Z120 = s_up2 Z112 68 0 x118 →
    ∀ x121 : Int32, x121 = x5 + 1 →
    v_X7_pass_b109 E Q n x1 x2 x4 x121 Z120))
set_option maxHeartbeats 1000000 in
theorem u_X7_pass_b109 {Q : sT → Prop} {Q' : yT → Prop} (hSt : rSt X E P) (hQ : ∀ S Z, RC X E S Z → P S → Q' Z → Q S)  : ∀ (n : Nat) (x1 : Int32) (x2 : Int32) (x4 : Int32) (x5 : Int32) (S : sT) (Z : yT), RC X E S Z → P S → v_X7_pass_b109 E  Q' n x1 x2 x4 x5 Z → w_X7_pass_b109  Q n (X 1 0) x1 x2 (X 2 0) x4 x5 S := by
  intro n
  induction n with
  | zero => intro x1 x2 x4 x5 S Z  hC hP h; exact absurd h id
  | succ n ih =>
    intro x1 x2 x4 x5 S Z  hC hP h
    unfold v_X7_pass_b109 at h
    unfold w_X7_pass_b109
    refine ⟨fun c => ?_, fun c => ?_⟩
    · replace h := h.1 c
      refine ⟨rK_Wld hC, ?_⟩
      refine ⟨_, rF_257 hC, ?_⟩
      refine ⟨rK_FArr hC, ?_⟩
      intro x103 ex
      replace h := h x103 (ex.trans (congrArg nI (rN_FArr hC)))
      obtain ⟨n9, h⟩ := h
      refine ⟨n9, ?_⟩
      exact u_X7_pass_b167 hSt hQ n9 x103 (0 : Int32) _ _ hC hP h
    · replace h := h.2 c
      refine ⟨rK_SArr hC, ?_⟩
      obtain ⟨i_x5_E1, h⟩ := h
      refine ⟨(rN_SArr hC).symm ▸ i_x5_E1, ?_⟩
      obtain ⟨a105, ea105, h⟩ := vEx h
      have k_a105 := vp_lk i_x5_E1 ea105
      refine ⟨_, (rP_SArr hC (vp_lt i_x5_E1)).trans (congrArg (fun z => some (X 4 z)) ea105.symm), ?_⟩
      refine ⟨rK_SR hC k_a105, ?_⟩
      refine ⟨(rN_SR hC k_a105).symm ▸ vp_lit0_10, ?_⟩
      intro x107 ex
      replace h := h x107 (ex.trans (rB_SR hC k_a105 q_lit0 (by decide)))
      intro x108 ex
      replace h := h x108 ex
      obtain ⟨hn, h⟩ := h
      refine ⟨hn, ?_⟩
      intro x110 ex
      replace h := h x110 ex
      refine ⟨(rN_SR hC k_a105).symm ▸ vp_lit9_10, ?_⟩
      intro S112 eS
      obtain ⟨Z112, eZ, h⟩ := vEx h
      replace hC := wB_SR hC k_a105 q_lit9 (by decide) eS eZ
      replace hP := eS ▸ hSt.1 _ 4 a105 _ _ (Or.inl ⟨rfl, k_a105⟩) hP
      clear eS eZ
      refine ⟨rK_Wld hC, ?_⟩
      refine ⟨_, rF_258 hC, ?_⟩
      refine ⟨rK_All hC, ?_⟩
      refine ⟨(rN_All hC).symm ▸ vp_lit4_11, ?_⟩
      intro x115 ex
      replace h := h x115 (ex.trans (rB_All hC  q_lit4 (by decide)))
      refine ⟨(rN_SR hC k_a105).symm ▸ vp_lit9_10, ?_⟩
      intro x117 ex
      replace h := h x117 (ex.trans (rB_SR hC k_a105 q_lit9 (by decide)))
      intro x118 ex
      replace h := h x118 ex
      refine ⟨(rN_All hC).symm ▸ vp_lit4_11, ?_⟩
      intro S120 eS
      obtain ⟨Z120, eZ, h⟩ := vEx h
      replace hC := wB_All hC  q_lit4 (by decide) eS eZ
      replace hP := eS ▸ hSt.1 _ 6 0 _ _ (st_All) hP
      clear eS eZ
      intro x121 ex
      replace h := h x121 ex
      exact ih x1 x2 x4 x121 _ _ hC hP h
def v_X7_pass_b23 (E : fT)  (Q : yT → Prop) : Nat → Int32 → Int32 → Int32 → yT → Prop
  | 0 => fun _ _ _ _ => False
  | n + 1 => fun x1 x3 x4 Z =>
    ((x3 ≤ x4 →
    ∀ x104 : Int32, x104 = Z 65 0 →
    ∀ x107 : Int32, x107 = Z 68 0 →
    ∀ x108 : Int32, x108 = x104 + x107 →
    ∀ x111 : Int32, x111 = Z 69 0 →
    ∀ x114 : Int32, x114 = Z 65 0 →
    ∀ x117 : Int32, x117 = Z 67 0 →
    ∀ x119 : Int32, x119 = nI E.2.1 →
    ∀ x120 : Int32, x120 = x117 * x119 →
    ∀ x121 : Int32, x121 = x114 + x120 →
    ∀ x122 : Int32, x122 = x111 + x121 →
    ∀ Z124 : yT, Z124 = s_up2 Z 69 0 x122 →
    ∀ Z127 : yT, Z127 = s_up2 Z124 68 0 x108 →
    ∀ x129 : Int32, x129 = nI E.1 →
    ∃ n9 : Nat, 
    v_X7_pass_b109 E Q n9 x1 x108 x129 (0 : Int32) Z127) ∧
    (¬ x3 ≤ x4 →
    vp_in x4 E.1 ∧
    ∀ a131 : Nat, a131 = Int32.toNatClampNeg x4 →
    ∀ x133 : Int32, x133 = Z 32 a131 →
    ∀ x134 : Int32, x134 = x1 + x133 →
    ∀ x135 : Int32, x135 = x4 + 1 →
    v_X7_pass_b23 E Q n x134 x3 x135 Z))
set_option maxHeartbeats 1000000 in
theorem u_X7_pass_b23 {Q : sT → Prop} {Q' : yT → Prop} (hSt : rSt X E P) (hQ : ∀ S Z, RC X E S Z → P S → Q' Z → Q S)  : ∀ (n : Nat) (x1 : Int32) (x3 : Int32) (x4 : Int32) (S : sT) (Z : yT), RC X E S Z → P S → v_X7_pass_b23 E  Q' n x1 x3 x4 Z → w_X7_pass_b23  Q n (X 1 0) x1 (X 2 0) x3 x4 S := by
  intro n
  induction n with
  | zero => intro x1 x3 x4 S Z  hC hP h; exact absurd h id
  | succ n ih =>
    intro x1 x3 x4 S Z  hC hP h
    unfold v_X7_pass_b23 at h
    unfold w_X7_pass_b23
    refine ⟨fun c => ?_, fun c => ?_⟩
    · replace h := h.1 c
      refine ⟨rK_Wld hC, ?_⟩
      refine ⟨_, rF_258 hC, ?_⟩
      refine ⟨rK_All hC, ?_⟩
      refine ⟨(rN_All hC).symm ▸ vp_lit1_11, ?_⟩
      intro x104 ex
      replace h := h x104 (ex.trans (rB_All hC  q_lit1 (by decide)))
      refine ⟨_, rF_258 hC, ?_⟩
      refine ⟨rK_All hC, ?_⟩
      refine ⟨(rN_All hC).symm ▸ vp_lit4_11, ?_⟩
      intro x107 ex
      replace h := h x107 (ex.trans (rB_All hC  q_lit4 (by decide)))
      intro x108 ex
      replace h := h x108 ex
      refine ⟨_, rF_258 hC, ?_⟩
      refine ⟨rK_All hC, ?_⟩
      refine ⟨(rN_All hC).symm ▸ vp_lit5_11, ?_⟩
      intro x111 ex
      replace h := h x111 (ex.trans (rB_All hC  q_lit5 (by decide)))
      refine ⟨_, rF_258 hC, ?_⟩
      refine ⟨rK_All hC, ?_⟩
      refine ⟨(rN_All hC).symm ▸ vp_lit1_11, ?_⟩
      intro x114 ex
      replace h := h x114 (ex.trans (rB_All hC  q_lit1 (by decide)))
      refine ⟨_, rF_258 hC, ?_⟩
      refine ⟨rK_All hC, ?_⟩
      refine ⟨(rN_All hC).symm ▸ vp_lit3_11, ?_⟩
      intro x117 ex
      replace h := h x117 (ex.trans (rB_All hC  q_lit3 (by decide)))
      refine ⟨_, rF_257 hC, ?_⟩
      refine ⟨rK_FArr hC, ?_⟩
      intro x119 ex
      replace h := h x119 (ex.trans (congrArg nI (rN_FArr hC)))
      intro x120 ex
      replace h := h x120 ex
      intro x121 ex
      replace h := h x121 ex
      intro x122 ex
      replace h := h x122 ex
      refine ⟨(rN_All hC).symm ▸ vp_lit5_11, ?_⟩
      intro S124 eS
      obtain ⟨Z124, eZ, h⟩ := vEx h
      replace hC := wB_All hC  q_lit5 (by decide) eS eZ
      replace hP := eS ▸ hSt.1 _ 6 0 _ _ (st_All) hP
      clear eS eZ
      refine ⟨_, rF_258 hC, ?_⟩
      refine ⟨rK_All hC, ?_⟩
      refine ⟨(rN_All hC).symm ▸ vp_lit4_11, ?_⟩
      intro S127 eS
      obtain ⟨Z127, eZ, h⟩ := vEx h
      replace hC := wB_All hC  q_lit4 (by decide) eS eZ
      replace hP := eS ▸ hSt.1 _ 6 0 _ _ (st_All) hP
      clear eS eZ
      refine ⟨_, rF_256 hC, ?_⟩
      refine ⟨rK_SArr hC, ?_⟩
      intro x129 ex
      replace h := h x129 (ex.trans (congrArg nI (rN_SArr hC)))
      obtain ⟨n9, h⟩ := h
      refine ⟨n9, ?_⟩
      exact u_X7_pass_b109 hSt hQ n9 x1 x108 x129 (0 : Int32) _ _ hC hP h
    · replace h := h.2 c
      refine ⟨rK_SArr hC, ?_⟩
      obtain ⟨i_x4_E1, h⟩ := h
      refine ⟨(rN_SArr hC).symm ▸ i_x4_E1, ?_⟩
      obtain ⟨a131, ea131, h⟩ := vEx h
      have k_a131 := vp_lk i_x4_E1 ea131
      refine ⟨_, (rP_SArr hC (vp_lt i_x4_E1)).trans (congrArg (fun z => some (X 4 z)) ea131.symm), ?_⟩
      refine ⟨rK_SR hC k_a131, ?_⟩
      refine ⟨(rN_SR hC k_a131).symm ▸ vp_lit0_10, ?_⟩
      intro x133 ex
      replace h := h x133 (ex.trans (rB_SR hC k_a131 q_lit0 (by decide)))
      intro x134 ex
      replace h := h x134 ex
      intro x135 ex
      replace h := h x135 ex
      exact ih x134 x3 x135 _ _ hC hP h
def v_X7_pass_b0 (E : fT) (Z : yT) (Q : yT → Prop) : Prop :=
  ∀ x103 : Int32, x103 = Z 64 0 →
  ∀ x104 : Int32, x104 = x103 + (1 : Int32) →
  ∀ Z106 : yT, Z106 = s_up2 Z 64 0 x104 →
  ∀ x108 : Int32, x108 = nI E.1 →
  ∃ n9 : Nat, 
  v_X7_pass_b23 E Q n9 (0 : Int32) x108 (0 : Int32) Z106
set_option maxHeartbeats 1000000 in
theorem u_X7_pass_b0 {Q : sT → Prop} {Q' : yT → Prop}  {S : sT} {Z : yT} (hSt : rSt X E P) (hQ : ∀ S Z, RC X E S Z → P S → Q' Z → Q S)   (hC : RC X E S Z) (hP : P S) (h : v_X7_pass_b0 E Z Q') : w_X7_pass_b0 (X 1 0) S Q := by
  unfold v_X7_pass_b0 at h
  unfold w_X7_pass_b0
  refine ⟨rK_Wld hC, ?_⟩
  refine ⟨_, rF_258 hC, ?_⟩
  refine ⟨rK_All hC, ?_⟩
  refine ⟨(rN_All hC).symm ▸ vp_lit0_11, ?_⟩
  intro x103 ex
  replace h := h x103 (ex.trans (rB_All hC  q_lit0 (by decide)))
  intro x104 ex
  replace h := h x104 ex
  refine ⟨(rN_All hC).symm ▸ vp_lit0_11, ?_⟩
  intro S106 eS
  obtain ⟨Z106, eZ, h⟩ := vEx h
  replace hC := wB_All hC  q_lit0 (by decide) eS eZ
  replace hP := eS ▸ hSt.1 _ 6 0 _ _ (st_All) hP
  clear eS eZ
  refine ⟨_, rF_256 hC, ?_⟩
  refine ⟨rK_SArr hC, ?_⟩
  intro x108 ex
  replace h := h x108 (ex.trans (congrArg nI (rN_SArr hC)))
  obtain ⟨n9, h⟩ := h
  refine ⟨n9, ?_⟩
  exact u_X7_pass_b23 hSt hQ n9 (0 : Int32) x108 (0 : Int32) _ _ hC hP h
def v_X7_pass (E : fT) (Z : yT) (Q : yT → Prop) : Prop :=
  v_X7_pass_b0 E Z Q
set_option maxHeartbeats 1000000 in
theorem u_X7_pass {Q : sT → Prop} {Q' : yT → Prop}  {S : sT} {Z : yT} (hSt : rSt X E P) (hQ : ∀ S Z, RC X E S Z → P S → Q' Z → Q S)   (hC : RC X E S Z) (hP : P S) (h : v_X7_pass E Z Q') : w_X7_pass (X 1 0) S Q := by
  unfold v_X7_pass at h
  unfold w_X7_pass
  exact u_X7_pass_b0 hSt hQ hC hP h
def v_X7_plant_b0 (E : fT) (x1 : Int32) (x2 : Int32) (Z : yT) (Q : yT → Prop) : Prop :=
  vp_in x1 E.2.1 ∧
  ∀ a103 : Nat, a103 = Int32.toNatClampNeg x1 →
  ∀ Z105 : yT, Z105 = s_up2 Z 4 a103 (2 : Int32) →
  ∀ Z107 : yT, Z107 = s_up2 Z105 5 a103 x2 →
  ∀ Z109 : yT, Z109 = s_up2 Z107 6 a103 (0 : Int32) →
  ∀ Z111 : yT, Z111 = s_up2 Z109 7 a103 (100 : Int32) →
  ∀ Z113 : yT, Z113 = s_up2 Z111 10 a103 (0 : Int32) →
  ∀ Z115 : yT, Z115 = s_up2 Z113 20 a103 (0 : Int32) →
  ∀ Z117 : yT, Z117 = s_up2 Z115 21 a103 (120 : Int32) →
  Q Z117
set_option maxHeartbeats 1000000 in
theorem u_X7_plant_b0 {Q : sT → Prop} {Q' : yT → Prop} {x1 : Int32} {x2 : Int32} {S : sT} {Z : yT} (hSt : rSt X E P) (hQ : ∀ S Z, RC X E S Z → P S → Q' Z → Q S)   (hC : RC X E S Z) (hP : P S) (h : v_X7_plant_b0 E x1 x2 Z Q') : w_X7_plant_b0 (X 1 0) x1 x2 S Q := by
  unfold v_X7_plant_b0 at h
  unfold w_X7_plant_b0
  refine ⟨rK_Wld hC, ?_⟩
  refine ⟨_, rF_257 hC, ?_⟩
  refine ⟨rK_FArr hC, ?_⟩
  obtain ⟨i_x1_E21, h⟩ := h
  refine ⟨(rN_FArr hC).symm ▸ i_x1_E21, ?_⟩
  obtain ⟨a103, ea103, h⟩ := vEx h
  have k_a103 := vp_lk i_x1_E21 ea103
  refine ⟨_, (rP_FArr hC (vp_lt i_x1_E21)).trans (congrArg (fun z => some (X 5 z)) ea103.symm), ?_⟩
  refine ⟨rK_FR hC k_a103, ?_⟩
  refine ⟨(rN_FR hC k_a103).symm ▸ vp_lit4_22, ?_⟩
  intro S105 eS
  obtain ⟨Z105, eZ, h⟩ := vEx h
  replace hC := wB_FR hC k_a103 q_lit4 (by decide) eS eZ
  replace hP := eS ▸ hSt.1 _ 5 a103 _ _ (Or.inr (Or.inl ⟨rfl, k_a103⟩)) hP
  clear eS eZ
  refine ⟨(rN_FR hC k_a103).symm ▸ vp_lit5_22, ?_⟩
  intro S107 eS
  obtain ⟨Z107, eZ, h⟩ := vEx h
  replace hC := wB_FR hC k_a103 q_lit5 (by decide) eS eZ
  replace hP := eS ▸ hSt.1 _ 5 a103 _ _ (Or.inr (Or.inl ⟨rfl, k_a103⟩)) hP
  clear eS eZ
  refine ⟨(rN_FR hC k_a103).symm ▸ vp_lit6_22, ?_⟩
  intro S109 eS
  obtain ⟨Z109, eZ, h⟩ := vEx h
  replace hC := wB_FR hC k_a103 q_lit6 (by decide) eS eZ
  replace hP := eS ▸ hSt.1 _ 5 a103 _ _ (Or.inr (Or.inl ⟨rfl, k_a103⟩)) hP
  clear eS eZ
  refine ⟨(rN_FR hC k_a103).symm ▸ vp_lit7_22, ?_⟩
  intro S111 eS
  obtain ⟨Z111, eZ, h⟩ := vEx h
  replace hC := wB_FR hC k_a103 q_lit7 (by decide) eS eZ
  replace hP := eS ▸ hSt.1 _ 5 a103 _ _ (Or.inr (Or.inl ⟨rfl, k_a103⟩)) hP
  clear eS eZ
  refine ⟨(rN_FR hC k_a103).symm ▸ vp_lit10_22, ?_⟩
  intro S113 eS
  obtain ⟨Z113, eZ, h⟩ := vEx h
  replace hC := wB_FR hC k_a103 q_lit10 (by decide) eS eZ
  replace hP := eS ▸ hSt.1 _ 5 a103 _ _ (Or.inr (Or.inl ⟨rfl, k_a103⟩)) hP
  clear eS eZ
  refine ⟨(rN_FR hC k_a103).symm ▸ vp_lit20_22, ?_⟩
  intro S115 eS
  obtain ⟨Z115, eZ, h⟩ := vEx h
  replace hC := wB_FR hC k_a103 q_lit20 (by decide) eS eZ
  replace hP := eS ▸ hSt.1 _ 5 a103 _ _ (Or.inr (Or.inl ⟨rfl, k_a103⟩)) hP
  clear eS eZ
  refine ⟨(rN_FR hC k_a103).symm ▸ vp_lit21_22, ?_⟩
  intro S117 eS
  obtain ⟨Z117, eZ, h⟩ := vEx h
  replace hC := wB_FR hC k_a103 q_lit21 (by decide) eS eZ
  replace hP := eS ▸ hSt.1 _ 5 a103 _ _ (Or.inr (Or.inl ⟨rfl, k_a103⟩)) hP
  clear eS eZ
  exact hQ _ _ hC hP h
def v_X7_plant (E : fT) (x1 : Int32) (x2 : Int32) (Z : yT) (Q : yT → Prop) : Prop :=
  v_X7_plant_b0 E x1 x2 Z Q
set_option maxHeartbeats 1000000 in
theorem u_X7_plant {Q : sT → Prop} {Q' : yT → Prop} {x1 : Int32} {x2 : Int32} {S : sT} {Z : yT} (hSt : rSt X E P) (hQ : ∀ S Z, RC X E S Z → P S → Q' Z → Q S)   (hC : RC X E S Z) (hP : P S) (h : v_X7_plant E x1 x2 Z Q') : w_X7_plant (X 1 0) x1 x2 S Q := by
  unfold v_X7_plant at h
  unfold w_X7_plant
  exact u_X7_plant_b0 hSt hQ hC hP h
def v_X7_isRipe_b33 (E : fT) (x2 : Int32) (y0 : Int32) (y1 : Int32) (Z : yT) (kk4 : Int32 → Int32 → yT → Prop) (Q : Int32 → yT → Prop) : Prop :=
  ∀ x101 : Int32, x101 = y1 ||| y0 →
  ∀ x102 : Int32, x102 = x2 + 1 →
  kk4 x101 x102 Z
set_option maxHeartbeats 1000000 in
theorem u_X7_isRipe_b33 {Q : Int32 → sT → Prop} {Q' : Int32 → yT → Prop} {x2 : Int32} {y0 : Int32} {y1 : Int32} {S : sT} {Z : yT} (hSt : rSt X E P) (hQ : ∀ x S Z, RC X E S Z → P S → Q' x Z → Q x S) {kk4 : Nat → Int32 → Int32 → sT → Prop} {kk4' : Int32 → Int32 → yT → Prop} (hkk4 : ∀ (x1 : Int32) (x2 : Int32) S Z, RC X E S Z → P S → kk4' x1 x2 Z → kk4 (X 1 0) x1 x2 S)  (hC : RC X E S Z) (hP : P S) (h : v_X7_isRipe_b33 E x2 y0 y1 Z kk4' Q') : w_X7_isRipe_b33 (X 1 0) x2 y0 y1 S kk4 Q := by
  unfold v_X7_isRipe_b33 at h
  unfold w_X7_isRipe_b33
  intro x101 ex
  replace h := h x101 ex
  intro x102 ex
  replace h := h x102 ex
  exact hkk4 x101 x102 _ _  hC hP h
def v_X7_isRipe_b4 (E : fT)  (Q : Int32 → yT → Prop) : Nat → Int32 → Int32 → yT → Prop
  | 0 => fun _ _ _ => False
  | n + 1 => fun x1 x2 Z =>
    ∀ x102 : Int32, x102 = nI E.2.1 →
    ((x102 ≤ x2 →
    Q x1 Z) ∧
    (¬ x102 ≤ x2 →
    vp_in x2 E.2.1 ∧
    ∀ a106 : Nat, a106 = Int32.toNatClampNeg x2 →
    ∀ x108 : Int32, x108 = Z 4 a106 →
    ((¬ x108 = (5 : Int32) →
    v_X7_isRipe_b33 E x2 (0 : Int32) x1 Z (fun x1 x2 Z => v_X7_isRipe_b4 E Q n x1 x2 Z) Q) ∧
    (x108 = (5 : Int32) →
    ∀ x110 : Int32, x110 = (1 : Int32) <<< (x2 &&& 31) →
    v_X7_isRipe_b33 E x2 x110 x1 Z (fun x1 x2 Z => v_X7_isRipe_b4 E Q n x1 x2 Z) Q))))
set_option maxHeartbeats 1000000 in
theorem u_X7_isRipe_b4 {Q : Int32 → sT → Prop} {Q' : Int32 → yT → Prop} (hSt : rSt X E P) (hQ : ∀ x S Z, RC X E S Z → P S → Q' x Z → Q x S)  : ∀ (n : Nat) (x1 : Int32) (x2 : Int32) (S : sT) (Z : yT), RC X E S Z → P S → v_X7_isRipe_b4 E  Q' n x1 x2 Z → w_X7_isRipe_b4  Q n (X 1 0) x1 x2 S := by
  intro n
  induction n with
  | zero => intro x1 x2 S Z  hC hP h; exact absurd h id
  | succ n ih =>
    intro x1 x2 S Z  hC hP h
    unfold v_X7_isRipe_b4 at h
    unfold w_X7_isRipe_b4
    refine ⟨rK_Wld hC, ?_⟩
    refine ⟨_, rF_257 hC, ?_⟩
    refine ⟨rK_FArr hC, ?_⟩
    intro x102 ex
    replace h := h x102 (ex.trans (congrArg nI (rN_FArr hC)))
    refine ⟨fun c => ?_, fun c => ?_⟩
    · replace h := h.1 c
      exact hQ _ _ _ hC hP h
    · replace h := h.2 c
      refine ⟨_, rF_257 hC, ?_⟩
      refine ⟨rK_FArr hC, ?_⟩
      obtain ⟨i_x2_E21, h⟩ := h
      refine ⟨(rN_FArr hC).symm ▸ i_x2_E21, ?_⟩
      obtain ⟨a106, ea106, h⟩ := vEx h
      have k_a106 := vp_lk i_x2_E21 ea106
      refine ⟨_, (rP_FArr hC (vp_lt i_x2_E21)).trans (congrArg (fun z => some (X 5 z)) ea106.symm), ?_⟩
      refine ⟨rK_FR hC k_a106, ?_⟩
      refine ⟨(rN_FR hC k_a106).symm ▸ vp_lit4_22, ?_⟩
      intro x108 ex
      replace h := h x108 (ex.trans (rB_FR hC k_a106 q_lit4 (by decide)))
      refine ⟨fun c => ?_, fun c => ?_⟩
      · replace h := h.1 c
        exact u_X7_isRipe_b33 hSt hQ (fun x1 x2 S Z hC hP h => ih x1 x2 _ _ hC hP h) hC hP h
      · replace h := h.2 c
        intro x110 ex
        replace h := h x110 ex
        exact u_X7_isRipe_b33 hSt hQ (fun x1 x2 S Z hC hP h => ih x1 x2 _ _ hC hP h) hC hP h
def v_X7_isRipe_b0 (E : fT) (Z : yT) (Q : Int32 → yT → Prop) : Prop :=
  ∃ n9 : Nat, 
  v_X7_isRipe_b4 E Q n9 (0 : Int32) (0 : Int32) Z
set_option maxHeartbeats 1000000 in
theorem u_X7_isRipe_b0 {Q : Int32 → sT → Prop} {Q' : Int32 → yT → Prop}  {S : sT} {Z : yT} (hSt : rSt X E P) (hQ : ∀ x S Z, RC X E S Z → P S → Q' x Z → Q x S)   (hC : RC X E S Z) (hP : P S) (h : v_X7_isRipe_b0 E Z Q') : w_X7_isRipe_b0 (X 1 0) S Q := by
  unfold v_X7_isRipe_b0 at h
  unfold w_X7_isRipe_b0
  obtain ⟨n9, h⟩ := h
  refine ⟨n9, ?_⟩
  exact u_X7_isRipe_b4 hSt hQ n9 (0 : Int32) (0 : Int32) _ _ hC hP h
def v_X7_isRipe (E : fT) (Z : yT) (Q : Int32 → yT → Prop) : Prop :=
  v_X7_isRipe_b0 E Z Q
set_option maxHeartbeats 1000000 in
theorem u_X7_isRipe {Q : Int32 → sT → Prop} {Q' : Int32 → yT → Prop}  {S : sT} {Z : yT} (hSt : rSt X E P) (hQ : ∀ x S Z, RC X E S Z → P S → Q' x Z → Q x S)   (hC : RC X E S Z) (hP : P S) (h : v_X7_isRipe E Z Q') : w_X7_isRipe (X 1 0) S Q := by
  unfold v_X7_isRipe at h
  unfold w_X7_isRipe
  exact u_X7_isRipe_b0 hSt hQ hC hP h
def v_X7_yield_b0 (E : fT) (x1 : Nat) (Z : yT) (Q : Int32 → yT → Prop) : Prop :=
  ∀ x102 : Int32, x102 = Z 4 x1 →
  ((x102 = (5 : Int32) →
  ∀ x105 : Int32, x105 = Z 5 x1 →
  ∀ x106 : Int32, x106 = (20 : Int32) * x105 →
  ∀ x107 : Int32, x107 = (40 : Int32) + x106 →
  ∀ x109 : Int32, x109 = Z 7 x1 →
  ∀ x110 : Int32, x110 = x107 * x109 →
  ∀ x111 : Int32, x111 = x110 / (100 : Int32) →
  ∀ x113 : Int32, x113 = Z 9 x1 →
  ∀ x114 : Int32, x114 = (50 : Int32) + x113 →
  ∀ x115 : Int32, x115 = x111 * x114 →
  ∀ x116 : Int32, x116 = x115 / (100 : Int32) →
  Q x116 Z) ∧
  (¬ x102 = (5 : Int32) →
  Q (0 : Int32) Z))
set_option maxHeartbeats 1000000 in
theorem u_X7_yield_b0 {Q : Int32 → sT → Prop} {Q' : Int32 → yT → Prop} {x1 : Nat} {S : sT} {Z : yT} (hSt : rSt X E P) (hQ : ∀ x S Z, RC X E S Z → P S → Q' x Z → Q x S)  (k_x1 : x1 < E.2.1) (hC : RC X E S Z) (hP : P S) (h : v_X7_yield_b0 E x1 Z Q') : w_X7_yield_b0 (X 5 x1) S Q := by
  unfold v_X7_yield_b0 at h
  unfold w_X7_yield_b0
  refine ⟨rK_FR hC k_x1, ?_⟩
  refine ⟨(rN_FR hC k_x1).symm ▸ vp_lit4_22, ?_⟩
  intro x102 ex
  replace h := h x102 (ex.trans (rB_FR hC k_x1 q_lit4 (by decide)))
  refine ⟨fun c => ?_, fun c => ?_⟩
  · replace h := h.1 c
    refine ⟨(rN_FR hC k_x1).symm ▸ vp_lit5_22, ?_⟩
    intro x105 ex
    replace h := h x105 (ex.trans (rB_FR hC k_x1 q_lit5 (by decide)))
    intro x106 ex
    replace h := h x106 ex
    intro x107 ex
    replace h := h x107 ex
    refine ⟨(rN_FR hC k_x1).symm ▸ vp_lit7_22, ?_⟩
    intro x109 ex
    replace h := h x109 (ex.trans (rB_FR hC k_x1 q_lit7 (by decide)))
    intro x110 ex
    replace h := h x110 ex
    intro x111 ex
    replace h := h x111 ex
    refine ⟨(rN_FR hC k_x1).symm ▸ vp_lit9_22, ?_⟩
    intro x113 ex
    replace h := h x113 (ex.trans (rB_FR hC k_x1 q_lit9 (by decide)))
    intro x114 ex
    replace h := h x114 ex
    intro x115 ex
    replace h := h x115 ex
    intro x116 ex
    replace h := h x116 ex
    exact hQ _ _ _ hC hP h
  · replace h := h.2 c
    exact hQ _ _ _ hC hP h
def v_X7_yield (E : fT) (x1 : Nat) (Z : yT) (Q : Int32 → yT → Prop) : Prop :=
  v_X7_yield_b0 E x1 Z Q
set_option maxHeartbeats 1000000 in
theorem u_X7_yield {Q : Int32 → sT → Prop} {Q' : Int32 → yT → Prop} {x1 : Nat} {S : sT} {Z : yT} (hSt : rSt X E P) (hQ : ∀ x S Z, RC X E S Z → P S → Q' x Z → Q x S)  (k_x1 : x1 < E.2.1) (hC : RC X E S Z) (hP : P S) (h : v_X7_yield E x1 Z Q') : w_X7_yield (X 1 0) (X 5 x1) S Q := by
  unfold v_X7_yield at h
  unfold w_X7_yield
  exact u_X7_yield_b0 (x1 := x1) hSt hQ k_x1 hC hP h
end
