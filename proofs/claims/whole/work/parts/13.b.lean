section
variable {X : Nat → Nat → Nat} {E : fT} {P : sT → Prop}
def v_X8_thrown_b0 (E : fT) (Z : yT) (Q : Int32 → yT → Prop) : Prop :=
  ∀ x101 : Int32, x101 = Z 80 0 →
  Q x101 Z
set_option maxHeartbeats 1000000 in
theorem u_X8_thrown_b0 {Q : Int32 → sT → Prop} {Q' : Int32 → yT → Prop}  {S : sT} {Z : yT} (hSt : rSt X E P) (hB : E.2.2) (hQ : ∀ x S Z, RC X E S Z → P S → Q' x Z → Q x S)   (hC : RC X E S Z) (hP : P S) (h : v_X8_thrown_b0 E Z Q') : w_X8_thrown_b0 (X 0 0) S Q := by
  unfold v_X8_thrown_b0 at h
  unfold w_X8_thrown_b0
  refine ⟨rK_Mod hC hB, ?_⟩
  intro x101 ex
  replace h := h x101 (ex.trans (rI_80 hC hB))
  exact hQ _ _ _ hC hP h
def v_X8_thrown (E : fT) (Z : yT) (Q : Int32 → yT → Prop) : Prop :=
  v_X8_thrown_b0 E Z Q
set_option maxHeartbeats 1000000 in
theorem u_X8_thrown {Q : Int32 → sT → Prop} {Q' : Int32 → yT → Prop}  {S : sT} {Z : yT} (hSt : rSt X E P) (hB : E.2.2) (hQ : ∀ x S Z, RC X E S Z → P S → Q' x Z → Q x S)   (hC : RC X E S Z) (hP : P S) (h : v_X8_thrown E Z Q') : w_X8_thrown (X 0 0) S Q := by
  unfold v_X8_thrown at h
  unfold w_X8_thrown
  exact u_X8_thrown_b0 hSt hB hQ hC hP h
def v_X8_isField_b0 (E : fT) (x1 : Int32) (Z : yT) (Q : Int32 → yT → Prop) : Prop :=
  ∀ x103 : Int32, x103 = nI E.2.1 →
  ∀ x104 : Int32, x104 = x103 - (1 : Int32) →
  v_X8_is E x1 (0 : Int32) x104 Z (fun x106 Z105 =>
  (x106 = 0 ∨ x106 = 1) ∧
  Q x106 Z105)
set_option maxHeartbeats 1000000 in
theorem u_X8_isField_b0 {Q : Int32 → sT → Prop} {Q' : Int32 → yT → Prop} {x1 : Int32} {S : sT} {Z : yT} (hSt : rSt X E P) (hB : E.2.2) (hQ : ∀ x S Z, RC X E S Z → P S → Q' x Z → Q x S)   (hC : RC X E S Z) (hP : P S) (h : v_X8_isField_b0 E x1 Z Q') : w_X8_isField_b0 (X 0 0) x1 S Q := by
  unfold v_X8_isField_b0 at h
  unfold w_X8_isField_b0
  refine ⟨rK_Mod hC hB, ?_⟩
  refine ⟨_, rF_289 hC hB, ?_⟩
  refine ⟨rK_Wld hC, ?_⟩
  refine ⟨_, rF_257 hC, ?_⟩
  refine ⟨rK_FArr hC, ?_⟩
  intro x103 ex
  replace h := h x103 (ex.trans (congrArg nI (rN_FArr hC)))
  intro x104 ex
  replace h := h x104 ex
  refine u_X8_is hSt (fun x106 S105 Z105 hC hP h => ?_) hC hP h
  obtain ⟨hn, h⟩ := h
  refine ⟨hn, ?_⟩
  exact hQ _ _ _ hC hP h
def v_X8_isField (E : fT) (x1 : Int32) (Z : yT) (Q : Int32 → yT → Prop) : Prop :=
  v_X8_isField_b0 E x1 Z Q
set_option maxHeartbeats 1000000 in
theorem u_X8_isField {Q : Int32 → sT → Prop} {Q' : Int32 → yT → Prop} {x1 : Int32} {S : sT} {Z : yT} (hSt : rSt X E P) (hB : E.2.2) (hQ : ∀ x S Z, RC X E S Z → P S → Q' x Z → Q x S)   (hC : RC X E S Z) (hP : P S) (h : v_X8_isField E x1 Z Q') : w_X8_isField (X 0 0) x1 S Q := by
  unfold v_X8_isField at h
  unfold w_X8_isField
  exact u_X8_isField_b0 hSt hB hQ hC hP h
def v_X8_gate_b68 (E : fT) (x3 : Int32) (y0 : Int32) (y1 : Int32) (y2 : Nat) (Z : yT) (Q : Int32 → yT → Prop) : Prop :=
  vp_in y1 22 ∧
  ∀ Z102 : yT, Z102 = s_up2 Z (Int32.toNatClampNeg y1) y2 y0 →
  (x3 = 0 ∨ x3 = 1) ∧
  Q x3 Z102
set_option maxHeartbeats 1000000 in
theorem u_X8_gate_b68 {Q : Int32 → sT → Prop} {Q' : Int32 → yT → Prop} {x3 : Int32} {y0 : Int32} {y1 : Int32} {y2 : Nat} {S : sT} {Z : yT} (hSt : rSt X E P) (hB : E.2.2) (hQ : ∀ x S Z, RC X E S Z → P S → Q' x Z → Q x S)  (k_y2 : y2 < E.2.1) (hC : RC X E S Z) (hP : P S) (h : v_X8_gate_b68 E x3 y0 y1 y2 Z Q') : w_X8_gate_b68 x3 y0 y1 (X 5 y2) S Q := by
  unfold v_X8_gate_b68 at h
  unfold w_X8_gate_b68
  refine ⟨rK_FR hC k_y2, ?_⟩
  obtain ⟨i_y1_22, h⟩ := h
  refine ⟨(rN_FR hC k_y2).symm ▸ i_y1_22, ?_⟩
  intro S102 eS
  obtain ⟨Z102, eZ, h⟩ := vEx h
  replace hC := wB_FR hC k_y2 rfl (vp_lt i_y1_22) eS eZ
  replace hP := eS ▸ hSt.1 _ 5 y2 _ _ (Or.inr (Or.inl ⟨rfl, k_y2⟩)) hP
  clear eS eZ
  obtain ⟨hn, h⟩ := h
  refine ⟨hn, ?_⟩
  exact hQ _ _ _ hC hP h
def v_X8_gate_b47 (E : fT) (x1 : Int32) (x2 : Int32) (y0 : Int32) (Z : yT) (Q : Int32 → yT → Prop) : Prop :=
  vp_in x1 E.2.1 ∧
  ∀ a104 : Nat, a104 = Int32.toNatClampNeg x1 →
  ((x2 = 0 →
  v_X8_gate_b68 E y0 (0 : Int32) (12 : Int32) a104 Z Q) ∧
  (¬ x2 = 0 →
  v_X8_gate_b68 E y0 (1 : Int32) (12 : Int32) a104 Z Q))
set_option maxHeartbeats 1000000 in
theorem u_X8_gate_b47 {Q : Int32 → sT → Prop} {Q' : Int32 → yT → Prop} {x1 : Int32} {x2 : Int32} {y0 : Int32} {S : sT} {Z : yT} (hSt : rSt X E P) (hB : E.2.2) (hQ : ∀ x S Z, RC X E S Z → P S → Q' x Z → Q x S)   (hC : RC X E S Z) (hP : P S) (h : v_X8_gate_b47 E x1 x2 y0 Z Q') : w_X8_gate_b47 (X 0 0) x1 x2 y0 S Q := by
  unfold v_X8_gate_b47 at h
  unfold w_X8_gate_b47
  refine ⟨rK_Mod hC hB, ?_⟩
  refine ⟨_, rF_289 hC hB, ?_⟩
  refine ⟨rK_Wld hC, ?_⟩
  refine ⟨_, rF_257 hC, ?_⟩
  refine ⟨rK_FArr hC, ?_⟩
  obtain ⟨i_x1_E21, h⟩ := h
  refine ⟨(rN_FArr hC).symm ▸ i_x1_E21, ?_⟩
  obtain ⟨a104, ea104, h⟩ := vEx h
  have k_a104 := vp_lk i_x1_E21 ea104
  refine ⟨_, (rP_FArr hC (vp_lt i_x1_E21)).trans (congrArg (fun z => some (X 5 z)) ea104.symm), ?_⟩
  refine ⟨fun c => ?_, fun c => ?_⟩
  · replace h := h.1 c
    exact u_X8_gate_b68 (y2 := a104) hSt hB hQ k_a104 hC hP h
  · replace h := h.2 c
    exact u_X8_gate_b68 (y2 := a104) hSt hB hQ k_a104 hC hP h
def v_X8_gate_b14 (E : fT) (x1 : Int32) (x2 : Int32) (y0 : Int32) (Z : yT) (Q : Int32 → yT → Prop) : Prop :=
  ∀ Z101 : yT, Z101 = s_up2 Z 80 0 y0 →
  ∀ x102 : Int32, x102 = Z101 80 0 →
  ((x102 ≤ 0 →
  vp_in x1 E.2.1 ∧
  ∀ a107 : Nat, a107 = Int32.toNatClampNeg x1 →
  ∀ x109 : Int32, x109 = Z101 12 a107 →
  ((¬ x109 = (1 : Int32) →
  v_X8_gate_b47 E x1 x2 (0 : Int32) Z101 Q) ∧
  (x109 = (1 : Int32) →
  v_X8_gate_b47 E x1 x2 (1 : Int32) Z101 Q))) ∧
  (¬ x102 ≤ 0 →
  Q (0 : Int32) Z101))
set_option maxHeartbeats 1000000 in
theorem u_X8_gate_b14 {Q : Int32 → sT → Prop} {Q' : Int32 → yT → Prop} {x1 : Int32} {x2 : Int32} {y0 : Int32} {S : sT} {Z : yT} (hSt : rSt X E P) (hB : E.2.2) (hQ : ∀ x S Z, RC X E S Z → P S → Q' x Z → Q x S)   (hC : RC X E S Z) (hP : P S) (h : v_X8_gate_b14 E x1 x2 y0 Z Q') : w_X8_gate_b14 (X 0 0) x1 x2 y0 (X 0 0) S Q := by
  unfold v_X8_gate_b14 at h
  unfold w_X8_gate_b14
  refine ⟨rK_Mod hC hB, ?_⟩
  intro S101 eS
  obtain ⟨Z101, eZ, h⟩ := vEx h
  replace hC := wI_80 hC hB eS eZ
  replace hP := eS ▸ hSt.2 _ _ hP
  clear eS eZ
  refine ⟨rK_Mod hC hB, ?_⟩
  intro x102 ex
  replace h := h x102 (ex.trans (rI_80 hC hB))
  refine ⟨fun c => ?_, fun c => ?_⟩
  · replace h := h.1 c
    refine ⟨_, rF_289 hC hB, ?_⟩
    refine ⟨rK_Wld hC, ?_⟩
    refine ⟨_, rF_257 hC, ?_⟩
    refine ⟨rK_FArr hC, ?_⟩
    obtain ⟨i_x1_E21, h⟩ := h
    refine ⟨(rN_FArr hC).symm ▸ i_x1_E21, ?_⟩
    obtain ⟨a107, ea107, h⟩ := vEx h
    have k_a107 := vp_lk i_x1_E21 ea107
    refine ⟨_, (rP_FArr hC (vp_lt i_x1_E21)).trans (congrArg (fun z => some (X 5 z)) ea107.symm), ?_⟩
    refine ⟨rK_FR hC k_a107, ?_⟩
    refine ⟨(rN_FR hC k_a107).symm ▸ vp_lit12_22, ?_⟩
    intro x109 ex
    replace h := h x109 (ex.trans (rB_FR hC k_a107 q_lit12 (by decide)))
    refine ⟨fun c => ?_, fun c => ?_⟩
    · replace h := h.1 c
      exact u_X8_gate_b47 hSt hB hQ hC hP h
    · replace h := h.2 c
      exact u_X8_gate_b47 hSt hB hQ hC hP h
  · replace h := h.2 c
    exact hQ _ _ _ hC hP h
def v_X8_gate_b0 (E : fT) (x1 : Int32) (x2 : Int32) (Z : yT) (Q : Int32 → yT → Prop) : Prop :=
  v_X8_isField E x1 Z (fun x102 Z101 =>
  ((x102 = 0 →
  v_X8_gate_b14 E x1 x2 (1 : Int32) Z101 Q) ∧
  (¬ x102 = 0 →
  v_X8_gate_b14 E x1 x2 (0 : Int32) Z101 Q)))
set_option maxHeartbeats 1000000 in
theorem u_X8_gate_b0 {Q : Int32 → sT → Prop} {Q' : Int32 → yT → Prop} {x1 : Int32} {x2 : Int32} {S : sT} {Z : yT} (hSt : rSt X E P) (hB : E.2.2) (hQ : ∀ x S Z, RC X E S Z → P S → Q' x Z → Q x S)   (hC : RC X E S Z) (hP : P S) (h : v_X8_gate_b0 E x1 x2 Z Q') : w_X8_gate_b0 (X 0 0) x1 x2 S Q := by
  unfold v_X8_gate_b0 at h
  unfold w_X8_gate_b0
  refine ⟨rK_Mod hC hB, ?_⟩
  refine u_X8_isField hSt hB (fun x102 S101 Z101 hC hP h => ?_) hC hP h
  refine ⟨fun c => ?_, fun c => ?_⟩
  · replace h := h.1 c
    exact u_X8_gate_b14 hSt hB hQ hC hP h
  · replace h := h.2 c
    exact u_X8_gate_b14 hSt hB hQ hC hP h
def v_X8_gate (E : fT) (x1 : Int32) (x2 : Int32) (Z : yT) (Q : Int32 → yT → Prop) : Prop :=
  v_X8_gate_b0 E x1 x2 Z Q
set_option maxHeartbeats 1000000 in
theorem u_X8_gate {Q : Int32 → sT → Prop} {Q' : Int32 → yT → Prop} {x1 : Int32} {x2 : Int32} {S : sT} {Z : yT} (hSt : rSt X E P) (hB : E.2.2) (hQ : ∀ x S Z, RC X E S Z → P S → Q' x Z → Q x S)   (hC : RC X E S Z) (hP : P S) (h : v_X8_gate E x1 x2 Z Q') : w_X8_gate (X 0 0) x1 x2 S Q := by
  unfold v_X8_gate at h
  unfold w_X8_gate
  exact u_X8_gate_b0 hSt hB hQ hC hP h
def v_X8_refuse_b0 (E : fT) (x1 : Int32) (Z : yT) (Q : Int32 → yT → Prop) : Prop :=
  ∀ Z101 : yT, Z101 = s_up2 Z 80 0 x1 →
  Q (0 : Int32) Z101
set_option maxHeartbeats 1000000 in
theorem u_X8_refuse_b0 {Q : Int32 → sT → Prop} {Q' : Int32 → yT → Prop} {x1 : Int32} {S : sT} {Z : yT} (hSt : rSt X E P) (hB : E.2.2) (hQ : ∀ x S Z, RC X E S Z → P S → Q' x Z → Q x S)   (hC : RC X E S Z) (hP : P S) (h : v_X8_refuse_b0 E x1 Z Q') : w_X8_refuse_b0 (X 0 0) x1 S Q := by
  unfold v_X8_refuse_b0 at h
  unfold w_X8_refuse_b0
  refine ⟨rK_Mod hC hB, ?_⟩
  intro S101 eS
  obtain ⟨Z101, eZ, h⟩ := vEx h
  replace hC := wI_80 hC hB eS eZ
  replace hP := eS ▸ hSt.2 _ _ hP
  clear eS eZ
  exact hQ _ _ _ hC hP h
def v_X8_refuse (E : fT) (x1 : Int32) (Z : yT) (Q : Int32 → yT → Prop) : Prop :=
  v_X8_refuse_b0 E x1 Z Q
set_option maxHeartbeats 1000000 in
theorem u_X8_refuse {Q : Int32 → sT → Prop} {Q' : Int32 → yT → Prop} {x1 : Int32} {S : sT} {Z : yT} (hSt : rSt X E P) (hB : E.2.2) (hQ : ∀ x S Z, RC X E S Z → P S → Q' x Z → Q x S)   (hC : RC X E S Z) (hP : P S) (h : v_X8_refuse E x1 Z Q') : w_X8_refuse (X 0 0) x1 S Q := by
  unfold v_X8_refuse at h
  unfold w_X8_refuse
  exact u_X8_refuse_b0 hSt hB hQ hC hP h
def v_X8_stones_b0 (E : fT) (x1 : Int32) (x2 : Int32) (Z : yT) (Q : Int32 → yT → Prop) : Prop :=
  ∀ Z101 : yT, Z101 = s_up2 Z 80 0 (0 : Int32) →
  v_X8_isField E x1 Z101 (fun x103 Z102 =>
  ((¬ x103 = 0 →
  v_X8_is E x2 (0 : Int32) (5 : Int32) Z102 (fun x106 Z105 =>
  ((¬ x106 = 0 →
  vp_in x1 E.2.1 ∧
  ∀ a111 : Nat, a111 = Int32.toNatClampNeg x1 →
  ∀ x113 : Int32, x113 = Z105 15 a111 →
  vp_in x1 E.2.1 ∧
  ∀ a117 : Nat, a117 = Int32.toNatClampNeg x1 →
  ∀ Z119 : yT, Z119 = s_up2 Z105 15 a117 x2 →
  Q x113 Z119) ∧
  (x106 = 0 →
  v_X8_refuse E (2 : Int32) Z105 (fun x121 Z120 =>
  Q x121 Z120))))) ∧
  (x103 = 0 →
  v_X8_refuse E (1 : Int32) Z102 (fun x123 Z122 =>
  Q x123 Z122))))
set_option maxHeartbeats 1000000 in
theorem u_X8_stones_b0 {Q : Int32 → sT → Prop} {Q' : Int32 → yT → Prop} {x1 : Int32} {x2 : Int32} {S : sT} {Z : yT} (hSt : rSt X E P) (hB : E.2.2) (hQ : ∀ x S Z, RC X E S Z → P S → Q' x Z → Q x S)   (hC : RC X E S Z) (hP : P S) (h : v_X8_stones_b0 E x1 x2 Z Q') : w_X8_stones_b0 (X 0 0) x1 x2 S Q := by
  unfold v_X8_stones_b0 at h
  unfold w_X8_stones_b0
  refine ⟨rK_Mod hC hB, ?_⟩
  intro S101 eS
  obtain ⟨Z101, eZ, h⟩ := vEx h
  replace hC := wI_80 hC hB eS eZ
  replace hP := eS ▸ hSt.2 _ _ hP
  clear eS eZ
  refine u_X8_isField hSt hB (fun x103 S102 Z102 hC hP h => ?_) hC hP h
  refine ⟨fun c => ?_, fun c => ?_⟩
  · replace h := h.1 c
    refine u_X8_is hSt (fun x106 S105 Z105 hC hP h => ?_) hC hP h
    refine ⟨fun c => ?_, fun c => ?_⟩
    · replace h := h.1 c
      refine ⟨rK_Mod hC hB, ?_⟩
      refine ⟨_, rF_289 hC hB, ?_⟩
      refine ⟨rK_Wld hC, ?_⟩
      refine ⟨_, rF_257 hC, ?_⟩
      refine ⟨rK_FArr hC, ?_⟩
      obtain ⟨i_x1_E21, h⟩ := h
      refine ⟨(rN_FArr hC).symm ▸ i_x1_E21, ?_⟩
      obtain ⟨a111, ea111, h⟩ := vEx h
      have k_a111 := vp_lk i_x1_E21 ea111
      refine ⟨_, (rP_FArr hC (vp_lt i_x1_E21)).trans (congrArg (fun z => some (X 5 z)) ea111.symm), ?_⟩
      refine ⟨rK_FR hC k_a111, ?_⟩
      refine ⟨(rN_FR hC k_a111).symm ▸ vp_lit15_22, ?_⟩
      intro x113 ex
      replace h := h x113 (ex.trans (rB_FR hC k_a111 q_lit15 (by decide)))
      refine ⟨_, rF_289 hC hB, ?_⟩
      refine ⟨rK_Wld hC, ?_⟩
      refine ⟨_, rF_257 hC, ?_⟩
      refine ⟨rK_FArr hC, ?_⟩
      obtain ⟨i_x1_E21, h⟩ := h
      refine ⟨(rN_FArr hC).symm ▸ i_x1_E21, ?_⟩
      obtain ⟨a117, ea117, h⟩ := vEx h
      have k_a117 := vp_lk i_x1_E21 ea117
      refine ⟨_, (rP_FArr hC (vp_lt i_x1_E21)).trans (congrArg (fun z => some (X 5 z)) ea117.symm), ?_⟩
      refine ⟨rK_FR hC k_a117, ?_⟩
      refine ⟨(rN_FR hC k_a117).symm ▸ vp_lit15_22, ?_⟩
      intro S119 eS
      obtain ⟨Z119, eZ, h⟩ := vEx h
      replace hC := wB_FR hC k_a117 q_lit15 (by decide) eS eZ
      replace hP := eS ▸ hSt.1 _ 5 a117 _ _ (Or.inr (Or.inl ⟨rfl, k_a117⟩)) hP
      clear eS eZ
      exact hQ _ _ _ hC hP h
    · replace h := h.2 c
      refine ⟨rK_Mod hC hB, ?_⟩
      refine u_X8_refuse hSt hB (fun x121 S120 Z120 hC hP h => ?_) hC hP h
      exact hQ _ _ _ hC hP h
  · replace h := h.2 c
    refine ⟨rK_Mod hC hB, ?_⟩
    refine u_X8_refuse hSt hB (fun x123 S122 Z122 hC hP h => ?_) hC hP h
    exact hQ _ _ _ hC hP h
def v_X8_stones (E : fT) (x1 : Int32) (x2 : Int32) (Z : yT) (Q : Int32 → yT → Prop) : Prop :=
  v_X8_stones_b0 E x1 x2 Z Q
set_option maxHeartbeats 1000000 in
theorem u_X8_stones {Q : Int32 → sT → Prop} {Q' : Int32 → yT → Prop} {x1 : Int32} {x2 : Int32} {S : sT} {Z : yT} (hSt : rSt X E P) (hB : E.2.2) (hQ : ∀ x S Z, RC X E S Z → P S → Q' x Z → Q x S)   (hC : RC X E S Z) (hP : P S) (h : v_X8_stones E x1 x2 Z Q') : w_X8_stones (X 0 0) x1 x2 S Q := by
  unfold v_X8_stones at h
  unfold w_X8_stones
  exact u_X8_stones_b0 hSt hB hQ hC hP h
def v_X8_isSociety_b0 (E : fT) (x1 : Int32) (Z : yT) (Q : Int32 → yT → Prop) : Prop :=
  ∀ x103 : Int32, x103 = nI E.1 →
  ∀ x104 : Int32, x104 = x103 - (1 : Int32) →
  v_X8_is E x1 (0 : Int32) x104 Z (fun x106 Z105 =>
  (x106 = 0 ∨ x106 = 1) ∧
  Q x106 Z105)
set_option maxHeartbeats 1000000 in
theorem u_X8_isSociety_b0 {Q : Int32 → sT → Prop} {Q' : Int32 → yT → Prop} {x1 : Int32} {S : sT} {Z : yT} (hSt : rSt X E P) (hB : E.2.2) (hQ : ∀ x S Z, RC X E S Z → P S → Q' x Z → Q x S)   (hC : RC X E S Z) (hP : P S) (h : v_X8_isSociety_b0 E x1 Z Q') : w_X8_isSociety_b0 (X 0 0) x1 S Q := by
  unfold v_X8_isSociety_b0 at h
  unfold w_X8_isSociety_b0
  refine ⟨rK_Mod hC hB, ?_⟩
  refine ⟨_, rF_289 hC hB, ?_⟩
  refine ⟨rK_Wld hC, ?_⟩
  refine ⟨_, rF_256 hC, ?_⟩
  refine ⟨rK_SArr hC, ?_⟩
  intro x103 ex
  replace h := h x103 (ex.trans (congrArg nI (rN_SArr hC)))
  intro x104 ex
  replace h := h x104 ex
  refine u_X8_is hSt (fun x106 S105 Z105 hC hP h => ?_) hC hP h
  obtain ⟨hn, h⟩ := h
  refine ⟨hn, ?_⟩
  exact hQ _ _ _ hC hP h
def v_X8_isSociety (E : fT) (x1 : Int32) (Z : yT) (Q : Int32 → yT → Prop) : Prop :=
  v_X8_isSociety_b0 E x1 Z Q
set_option maxHeartbeats 1000000 in
theorem u_X8_isSociety {Q : Int32 → sT → Prop} {Q' : Int32 → yT → Prop} {x1 : Int32} {S : sT} {Z : yT} (hSt : rSt X E P) (hB : E.2.2) (hQ : ∀ x S Z, RC X E S Z → P S → Q' x Z → Q x S)   (hC : RC X E S Z) (hP : P S) (h : v_X8_isSociety E x1 Z Q') : w_X8_isSociety (X 0 0) x1 S Q := by
  unfold v_X8_isSociety at h
  unfold w_X8_isSociety
  exact u_X8_isSociety_b0 hSt hB hQ hC hP h
def v_X8_rotate_b68 (E : fT) (x3 : Int32) (y0 : Int32) (y1 : Int32) (y2 : Nat) (Z : yT) (Q : Int32 → yT → Prop) : Prop :=
  vp_in y1 10 ∧
  ∀ Z102 : yT, Z102 = s_up2 Z (32 + Int32.toNatClampNeg y1) y2 y0 →
  (x3 = 0 ∨ x3 = 1) ∧
  Q x3 Z102
set_option maxHeartbeats 1000000 in
theorem u_X8_rotate_b68 {Q : Int32 → sT → Prop} {Q' : Int32 → yT → Prop} {x3 : Int32} {y0 : Int32} {y1 : Int32} {y2 : Nat} {S : sT} {Z : yT} (hSt : rSt X E P) (hB : E.2.2) (hQ : ∀ x S Z, RC X E S Z → P S → Q' x Z → Q x S)  (k_y2 : y2 < E.1) (hC : RC X E S Z) (hP : P S) (h : v_X8_rotate_b68 E x3 y0 y1 y2 Z Q') : w_X8_rotate_b68 x3 y0 y1 (X 4 y2) S Q := by
  unfold v_X8_rotate_b68 at h
  unfold w_X8_rotate_b68
  refine ⟨rK_SR hC k_y2, ?_⟩
  obtain ⟨i_y1_10, h⟩ := h
  refine ⟨(rN_SR hC k_y2).symm ▸ i_y1_10, ?_⟩
  intro S102 eS
  obtain ⟨Z102, eZ, h⟩ := vEx h
  replace hC := wB_SR hC k_y2 rfl (vp_lt i_y1_10) eS eZ
  replace hP := eS ▸ hSt.1 _ 4 y2 _ _ (Or.inl ⟨rfl, k_y2⟩) hP
  clear eS eZ
  obtain ⟨hn, h⟩ := h
  refine ⟨hn, ?_⟩
  exact hQ _ _ _ hC hP h
def v_X8_rotate_b47 (E : fT) (x1 : Int32) (x2 : Int32) (y0 : Int32) (Z : yT) (Q : Int32 → yT → Prop) : Prop :=
  vp_in x1 E.1 ∧
  ∀ a104 : Nat, a104 = Int32.toNatClampNeg x1 →
  ((x2 = 0 →
  v_X8_rotate_b68 E y0 (0 : Int32) (6 : Int32) a104 Z Q) ∧
  (¬ x2 = 0 →
  v_X8_rotate_b68 E y0 (1 : Int32) (6 : Int32) a104 Z Q))
set_option maxHeartbeats 1000000 in
theorem u_X8_rotate_b47 {Q : Int32 → sT → Prop} {Q' : Int32 → yT → Prop} {x1 : Int32} {x2 : Int32} {y0 : Int32} {S : sT} {Z : yT} (hSt : rSt X E P) (hB : E.2.2) (hQ : ∀ x S Z, RC X E S Z → P S → Q' x Z → Q x S)   (hC : RC X E S Z) (hP : P S) (h : v_X8_rotate_b47 E x1 x2 y0 Z Q') : w_X8_rotate_b47 (X 0 0) x1 x2 y0 S Q := by
  unfold v_X8_rotate_b47 at h
  unfold w_X8_rotate_b47
  refine ⟨rK_Mod hC hB, ?_⟩
  refine ⟨_, rF_289 hC hB, ?_⟩
  refine ⟨rK_Wld hC, ?_⟩
  refine ⟨_, rF_256 hC, ?_⟩
  refine ⟨rK_SArr hC, ?_⟩
  obtain ⟨i_x1_E1, h⟩ := h
  refine ⟨(rN_SArr hC).symm ▸ i_x1_E1, ?_⟩
  obtain ⟨a104, ea104, h⟩ := vEx h
  have k_a104 := vp_lk i_x1_E1 ea104
  refine ⟨_, (rP_SArr hC (vp_lt i_x1_E1)).trans (congrArg (fun z => some (X 4 z)) ea104.symm), ?_⟩
  refine ⟨fun c => ?_, fun c => ?_⟩
  · replace h := h.1 c
    exact u_X8_rotate_b68 (y2 := a104) hSt hB hQ k_a104 hC hP h
  · replace h := h.2 c
    exact u_X8_rotate_b68 (y2 := a104) hSt hB hQ k_a104 hC hP h
def v_X8_rotate_b14 (E : fT) (x1 : Int32) (x2 : Int32) (y0 : Int32) (Z : yT) (Q : Int32 → yT → Prop) : Prop :=
  ∀ Z101 : yT, Z101 = s_up2 Z 80 0 y0 →
  ∀ x102 : Int32, x102 = Z101 80 0 →
  ((x102 ≤ 0 →
  vp_in x1 E.1 ∧
  ∀ a107 : Nat, a107 = Int32.toNatClampNeg x1 →
  ∀ x109 : Int32, x109 = Z101 38 a107 →
  ((¬ x109 = (1 : Int32) →
  v_X8_rotate_b47 E x1 x2 (0 : Int32) Z101 Q) ∧
  (x109 = (1 : Int32) →
  v_X8_rotate_b47 E x1 x2 (1 : Int32) Z101 Q))) ∧
  (¬ x102 ≤ 0 →
  Q (0 : Int32) Z101))
set_option maxHeartbeats 1000000 in
theorem u_X8_rotate_b14 {Q : Int32 → sT → Prop} {Q' : Int32 → yT → Prop} {x1 : Int32} {x2 : Int32} {y0 : Int32} {S : sT} {Z : yT} (hSt : rSt X E P) (hB : E.2.2) (hQ : ∀ x S Z, RC X E S Z → P S → Q' x Z → Q x S)   (hC : RC X E S Z) (hP : P S) (h : v_X8_rotate_b14 E x1 x2 y0 Z Q') : w_X8_rotate_b14 (X 0 0) x1 x2 y0 (X 0 0) S Q := by
  unfold v_X8_rotate_b14 at h
  unfold w_X8_rotate_b14
  refine ⟨rK_Mod hC hB, ?_⟩
  intro S101 eS
  obtain ⟨Z101, eZ, h⟩ := vEx h
  replace hC := wI_80 hC hB eS eZ
  replace hP := eS ▸ hSt.2 _ _ hP
  clear eS eZ
  refine ⟨rK_Mod hC hB, ?_⟩
  intro x102 ex
  replace h := h x102 (ex.trans (rI_80 hC hB))
  refine ⟨fun c => ?_, fun c => ?_⟩
  · replace h := h.1 c
    refine ⟨_, rF_289 hC hB, ?_⟩
    refine ⟨rK_Wld hC, ?_⟩
    refine ⟨_, rF_256 hC, ?_⟩
    refine ⟨rK_SArr hC, ?_⟩
    obtain ⟨i_x1_E1, h⟩ := h
    refine ⟨(rN_SArr hC).symm ▸ i_x1_E1, ?_⟩
    obtain ⟨a107, ea107, h⟩ := vEx h
    have k_a107 := vp_lk i_x1_E1 ea107
    refine ⟨_, (rP_SArr hC (vp_lt i_x1_E1)).trans (congrArg (fun z => some (X 4 z)) ea107.symm), ?_⟩
    refine ⟨rK_SR hC k_a107, ?_⟩
    refine ⟨(rN_SR hC k_a107).symm ▸ vp_lit6_10, ?_⟩
    intro x109 ex
    replace h := h x109 (ex.trans (rB_SR hC k_a107 q_lit6 (by decide)))
    refine ⟨fun c => ?_, fun c => ?_⟩
    · replace h := h.1 c
      exact u_X8_rotate_b47 hSt hB hQ hC hP h
    · replace h := h.2 c
      exact u_X8_rotate_b47 hSt hB hQ hC hP h
  · replace h := h.2 c
    exact hQ _ _ _ hC hP h
def v_X8_rotate_b0 (E : fT) (x1 : Int32) (x2 : Int32) (Z : yT) (Q : Int32 → yT → Prop) : Prop :=
  v_X8_isSociety E x1 Z (fun x102 Z101 =>
  ((x102 = 0 →
  v_X8_rotate_b14 E x1 x2 (1 : Int32) Z101 Q) ∧
  (¬ x102 = 0 →
  v_X8_rotate_b14 E x1 x2 (0 : Int32) Z101 Q)))
set_option maxHeartbeats 1000000 in
theorem u_X8_rotate_b0 {Q : Int32 → sT → Prop} {Q' : Int32 → yT → Prop} {x1 : Int32} {x2 : Int32} {S : sT} {Z : yT} (hSt : rSt X E P) (hB : E.2.2) (hQ : ∀ x S Z, RC X E S Z → P S → Q' x Z → Q x S)   (hC : RC X E S Z) (hP : P S) (h : v_X8_rotate_b0 E x1 x2 Z Q') : w_X8_rotate_b0 (X 0 0) x1 x2 S Q := by
  unfold v_X8_rotate_b0 at h
  unfold w_X8_rotate_b0
  refine ⟨rK_Mod hC hB, ?_⟩
  refine u_X8_isSociety hSt hB (fun x102 S101 Z101 hC hP h => ?_) hC hP h
  refine ⟨fun c => ?_, fun c => ?_⟩
  · replace h := h.1 c
    exact u_X8_rotate_b14 hSt hB hQ hC hP h
  · replace h := h.2 c
    exact u_X8_rotate_b14 hSt hB hQ hC hP h
def v_X8_rotate (E : fT) (x1 : Int32) (x2 : Int32) (Z : yT) (Q : Int32 → yT → Prop) : Prop :=
  v_X8_rotate_b0 E x1 x2 Z Q
set_option maxHeartbeats 1000000 in
theorem u_X8_rotate {Q : Int32 → sT → Prop} {Q' : Int32 → yT → Prop} {x1 : Int32} {x2 : Int32} {S : sT} {Z : yT} (hSt : rSt X E P) (hB : E.2.2) (hQ : ∀ x S Z, RC X E S Z → P S → Q' x Z → Q x S)   (hC : RC X E S Z) (hP : P S) (h : v_X8_rotate E x1 x2 Z Q') : w_X8_rotate (X 0 0) x1 x2 S Q := by
  unfold v_X8_rotate at h
  unfold w_X8_rotate
  exact u_X8_rotate_b0 hSt hB hQ hC hP h
def v_X8_puddle_b43 (E : fT) (Z : yT) (Q : Int32 → yT → Prop) : Prop :=
  v_X8_refuse E (2 : Int32) Z (fun x102 Z101 =>
  Q x102 Z101)
set_option maxHeartbeats 1000000 in
theorem u_X8_puddle_b43 {Q : Int32 → sT → Prop} {Q' : Int32 → yT → Prop}  {S : sT} {Z : yT} (hSt : rSt X E P) (hB : E.2.2) (hQ : ∀ x S Z, RC X E S Z → P S → Q' x Z → Q x S)   (hC : RC X E S Z) (hP : P S) (h : v_X8_puddle_b43 E Z Q') : w_X8_puddle_b43 (X 0 0) S Q := by
  unfold v_X8_puddle_b43 at h
  unfold w_X8_puddle_b43
  refine ⟨rK_Mod hC hB, ?_⟩
  refine u_X8_refuse hSt hB (fun x102 S101 Z101 hC hP h => ?_) hC hP h
  exact hQ _ _ _ hC hP h
def v_X8_puddle_b0 (E : fT) (x1 : Int32) (Z : yT) (Q : Int32 → yT → Prop) : Prop :=
  ∀ Z101 : yT, Z101 = s_up2 Z 80 0 (0 : Int32) →
  v_X8_isField E x1 Z101 (fun x103 Z102 =>
  ((¬ x103 = 0 →
  vp_in x1 E.2.1 ∧
  ∀ a108 : Nat, a108 = Int32.toNatClampNeg x1 →
  ∀ x110 : Int32, x110 = Z102 4 a108 →
  ((¬ x110 = 0 →
  v_X8_puddle_b43 E Z102 Q) ∧
  (x110 = 0 →
  ∀ x113 : Int32, x113 = Z102 1 a108 →
  (((10 : Int32) ≤ x113 →
  ∀ Z116 : yT, Z116 = s_up2 Z102 4 a108 (1 : Int32) →
  ∀ Z118 : yT, Z118 = s_up2 Z116 2 a108 (0 : Int32) →
  ∀ x120 : Int32, x120 = Z118 1 a108 →
  Q x120 Z118) ∧
  (¬ (10 : Int32) ≤ x113 →
  v_X8_puddle_b43 E Z102 Q))))) ∧
  (x103 = 0 →
  v_X8_refuse E (1 : Int32) Z102 (fun x122 Z121 =>
  Q x122 Z121))))
set_option maxHeartbeats 1000000 in
theorem u_X8_puddle_b0 {Q : Int32 → sT → Prop} {Q' : Int32 → yT → Prop} {x1 : Int32} {S : sT} {Z : yT} (hSt : rSt X E P) (hB : E.2.2) (hQ : ∀ x S Z, RC X E S Z → P S → Q' x Z → Q x S)   (hC : RC X E S Z) (hP : P S) (h : v_X8_puddle_b0 E x1 Z Q') : w_X8_puddle_b0 (X 0 0) x1 S Q := by
  unfold v_X8_puddle_b0 at h
  unfold w_X8_puddle_b0
  refine ⟨rK_Mod hC hB, ?_⟩
  intro S101 eS
  obtain ⟨Z101, eZ, h⟩ := vEx h
  replace hC := wI_80 hC hB eS eZ
  replace hP := eS ▸ hSt.2 _ _ hP
  clear eS eZ
  refine u_X8_isField hSt hB (fun x103 S102 Z102 hC hP h => ?_) hC hP h
  refine ⟨fun c => ?_, fun c => ?_⟩
  · replace h := h.1 c
    refine ⟨rK_Mod hC hB, ?_⟩
    refine ⟨_, rF_289 hC hB, ?_⟩
    refine ⟨rK_Wld hC, ?_⟩
    refine ⟨_, rF_257 hC, ?_⟩
    refine ⟨rK_FArr hC, ?_⟩
    obtain ⟨i_x1_E21, h⟩ := h
    refine ⟨(rN_FArr hC).symm ▸ i_x1_E21, ?_⟩
    obtain ⟨a108, ea108, h⟩ := vEx h
    have k_a108 := vp_lk i_x1_E21 ea108
    refine ⟨_, (rP_FArr hC (vp_lt i_x1_E21)).trans (congrArg (fun z => some (X 5 z)) ea108.symm), ?_⟩
    refine ⟨rK_FR hC k_a108, ?_⟩
    refine ⟨(rN_FR hC k_a108).symm ▸ vp_lit4_22, ?_⟩
    intro x110 ex
    replace h := h x110 (ex.trans (rB_FR hC k_a108 q_lit4 (by decide)))
    refine ⟨fun c => ?_, fun c => ?_⟩
    · replace h := h.1 c
      exact u_X8_puddle_b43 hSt hB hQ hC hP h
    · replace h := h.2 c
      refine ⟨(rN_FR hC k_a108).symm ▸ vp_lit1_22, ?_⟩
      intro x113 ex
      replace h := h x113 (ex.trans (rB_FR hC k_a108 q_lit1 (by decide)))
      refine ⟨fun c => ?_, fun c => ?_⟩
      · replace h := h.1 c
        refine ⟨(rN_FR hC k_a108).symm ▸ vp_lit4_22, ?_⟩
        intro S116 eS
        obtain ⟨Z116, eZ, h⟩ := vEx h
        replace hC := wB_FR hC k_a108 q_lit4 (by decide) eS eZ
        replace hP := eS ▸ hSt.1 _ 5 a108 _ _ (Or.inr (Or.inl ⟨rfl, k_a108⟩)) hP
        clear eS eZ
        refine ⟨(rN_FR hC k_a108).symm ▸ vp_lit2_22, ?_⟩
        intro S118 eS
        obtain ⟨Z118, eZ, h⟩ := vEx h
        replace hC := wB_FR hC k_a108 q_lit2 (by decide) eS eZ
        replace hP := eS ▸ hSt.1 _ 5 a108 _ _ (Or.inr (Or.inl ⟨rfl, k_a108⟩)) hP
        clear eS eZ
        refine ⟨(rN_FR hC k_a108).symm ▸ vp_lit1_22, ?_⟩
        intro x120 ex
        replace h := h x120 (ex.trans (rB_FR hC k_a108 q_lit1 (by decide)))
        exact hQ _ _ _ hC hP h
      · replace h := h.2 c
        exact u_X8_puddle_b43 hSt hB hQ hC hP h
  · replace h := h.2 c
    refine ⟨rK_Mod hC hB, ?_⟩
    refine u_X8_refuse hSt hB (fun x122 S121 Z121 hC hP h => ?_) hC hP h
    exact hQ _ _ _ hC hP h
def v_X8_puddle (E : fT) (x1 : Int32) (Z : yT) (Q : Int32 → yT → Prop) : Prop :=
  v_X8_puddle_b0 E x1 Z Q
set_option maxHeartbeats 1000000 in
theorem u_X8_puddle {Q : Int32 → sT → Prop} {Q' : Int32 → yT → Prop} {x1 : Int32} {S : sT} {Z : yT} (hSt : rSt X E P) (hB : E.2.2) (hQ : ∀ x S Z, RC X E S Z → P S → Q' x Z → Q x S)   (hC : RC X E S Z) (hP : P S) (h : v_X8_puddle E x1 Z Q') : w_X8_puddle (X 0 0) x1 S Q := by
  unfold v_X8_puddle at h
  unfold w_X8_puddle
  exact u_X8_puddle_b0 hSt hB hQ hC hP h
def v_X8_isKind_b0 (E : fT) (x0 : Int32) (Z : yT) (Q : Int32 → yT → Prop) : Prop :=
  v_X8_is E x0 (0 : Int32) (2 : Int32) Z (fun x102 Z101 =>
  (x102 = 0 ∨ x102 = 1) ∧
  Q x102 Z101)
set_option maxHeartbeats 1000000 in
theorem u_X8_isKind_b0 {Q : Int32 → sT → Prop} {Q' : Int32 → yT → Prop} {x0 : Int32} {S : sT} {Z : yT} (hSt : rSt X E P) (hQ : ∀ x S Z, RC X E S Z → P S → Q' x Z → Q x S)   (hC : RC X E S Z) (hP : P S) (h : v_X8_isKind_b0 E x0 Z Q') : w_X8_isKind_b0 x0 S Q := by
  unfold v_X8_isKind_b0 at h
  unfold w_X8_isKind_b0
  refine u_X8_is hSt (fun x102 S101 Z101 hC hP h => ?_) hC hP h
  obtain ⟨hn, h⟩ := h
  refine ⟨hn, ?_⟩
  exact hQ _ _ _ hC hP h
def v_X8_isKind (E : fT) (x0 : Int32) (Z : yT) (Q : Int32 → yT → Prop) : Prop :=
  v_X8_isKind_b0 E x0 Z Q
set_option maxHeartbeats 1000000 in
theorem u_X8_isKind {Q : Int32 → sT → Prop} {Q' : Int32 → yT → Prop} {x0 : Int32} {S : sT} {Z : yT} (hSt : rSt X E P) (hQ : ∀ x S Z, RC X E S Z → P S → Q' x Z → Q x S)   (hC : RC X E S Z) (hP : P S) (h : v_X8_isKind E x0 Z Q') : w_X8_isKind x0 S Q := by
  unfold v_X8_isKind at h
  unfold w_X8_isKind
  exact u_X8_isKind_b0 hSt hQ hC hP h
def v_X8_plant_b72 (E : fT) (Z : yT) (Q : Int32 → yT → Prop) : Prop :=
  v_X8_refuse E (3 : Int32) Z (fun x102 Z101 =>
  Q x102 Z101)
set_option maxHeartbeats 1000000 in
theorem u_X8_plant_b72 {Q : Int32 → sT → Prop} {Q' : Int32 → yT → Prop}  {S : sT} {Z : yT} (hSt : rSt X E P) (hB : E.2.2) (hQ : ∀ x S Z, RC X E S Z → P S → Q' x Z → Q x S)   (hC : RC X E S Z) (hP : P S) (h : v_X8_plant_b72 E Z Q') : w_X8_plant_b72 (X 0 0) S Q := by
  unfold v_X8_plant_b72 at h
  unfold w_X8_plant_b72
  refine ⟨rK_Mod hC hB, ?_⟩
  refine u_X8_refuse hSt hB (fun x102 S101 Z101 hC hP h => ?_) hC hP h
  exact hQ _ _ _ hC hP h
def v_X8_plant_b0 (E : fT) (x1 : Int32) (x2 : Int32) (Z : yT) (Q : Int32 → yT → Prop) : Prop :=
  ∀ Z101 : yT, Z101 = s_up2 Z 80 0 (0 : Int32) →
  v_X8_isField E x1 Z101 (fun x103 Z102 =>
  ((¬ x103 = 0 →
  v_X8_isKind E x2 Z102 (fun x106 Z105 =>
  ((¬ x106 = 0 →
  vp_in x1 E.2.1 ∧
  ∀ a111 : Nat, a111 = Int32.toNatClampNeg x1 →
  ∀ x113 : Int32, x113 = Z105 4 a111 →
  ((¬ x113 = (1 : Int32) →
  v_X8_plant_b72 E Z105 Q) ∧
  (x113 = (1 : Int32) →
  ∀ x118 : Int32, x118 = Z105 64 0 →
  ∀ x119 : Int32, x119 = x118 - x118 / (30 : Int32) * (30 : Int32) →
  ((x119 = 0 →
  v_X8_plant_b72 E Z105 Q) ∧
  (¬ x119 = 0 →
  ∀ x122 : Int32, x122 = Z105 10 a111 →
  (((3 : Int32) ≤ x122 →
  v_X7_plant E x1 x2 Z105 (fun Z125 =>
  ∀ x129 : Int32, x129 = Z125 64 0 →
  Q x129 Z125)) ∧
  (¬ (3 : Int32) ≤ x122 →
  v_X8_plant_b72 E Z105 Q))))))) ∧
  (x106 = 0 →
  v_X8_refuse E (2 : Int32) Z105 (fun x131 Z130 =>
  Q x131 Z130))))) ∧
  (x103 = 0 →
  v_X8_refuse E (1 : Int32) Z102 (fun x133 Z132 =>
  Q x133 Z132))))
set_option maxHeartbeats 1000000 in
theorem u_X8_plant_b0 {Q : Int32 → sT → Prop} {Q' : Int32 → yT → Prop} {x1 : Int32} {x2 : Int32} {S : sT} {Z : yT} (hSt : rSt X E P) (hB : E.2.2) (hQ : ∀ x S Z, RC X E S Z → P S → Q' x Z → Q x S)   (hC : RC X E S Z) (hP : P S) (h : v_X8_plant_b0 E x1 x2 Z Q') : w_X8_plant_b0 (X 0 0) x1 x2 S Q := by
  unfold v_X8_plant_b0 at h
  unfold w_X8_plant_b0
  refine ⟨rK_Mod hC hB, ?_⟩
  intro S101 eS
  obtain ⟨Z101, eZ, h⟩ := vEx h
  replace hC := wI_80 hC hB eS eZ
  replace hP := eS ▸ hSt.2 _ _ hP
  clear eS eZ
  refine u_X8_isField hSt hB (fun x103 S102 Z102 hC hP h => ?_) hC hP h
  refine ⟨fun c => ?_, fun c => ?_⟩
  · replace h := h.1 c
    refine u_X8_isKind hSt (fun x106 S105 Z105 hC hP h => ?_) hC hP h
    refine ⟨fun c => ?_, fun c => ?_⟩
    · replace h := h.1 c
      refine ⟨rK_Mod hC hB, ?_⟩
      refine ⟨_, rF_289 hC hB, ?_⟩
      refine ⟨rK_Wld hC, ?_⟩
      refine ⟨_, rF_257 hC, ?_⟩
      refine ⟨rK_FArr hC, ?_⟩
      obtain ⟨i_x1_E21, h⟩ := h
      refine ⟨(rN_FArr hC).symm ▸ i_x1_E21, ?_⟩
      obtain ⟨a111, ea111, h⟩ := vEx h
      have k_a111 := vp_lk i_x1_E21 ea111
      refine ⟨_, (rP_FArr hC (vp_lt i_x1_E21)).trans (congrArg (fun z => some (X 5 z)) ea111.symm), ?_⟩
      refine ⟨rK_FR hC k_a111, ?_⟩
      refine ⟨(rN_FR hC k_a111).symm ▸ vp_lit4_22, ?_⟩
      intro x113 ex
      replace h := h x113 (ex.trans (rB_FR hC k_a111 q_lit4 (by decide)))
      refine ⟨fun c => ?_, fun c => ?_⟩
      · replace h := h.1 c
        exact u_X8_plant_b72 hSt hB hQ hC hP h
      · replace h := h.2 c
        refine ⟨_, rF_289 hC hB, ?_⟩
        refine ⟨rK_Wld hC, ?_⟩
        refine ⟨_, rF_258 hC, ?_⟩
        refine ⟨rK_All hC, ?_⟩
        refine ⟨(rN_All hC).symm ▸ vp_lit0_11, ?_⟩
        intro x118 ex
        replace h := h x118 (ex.trans (rB_All hC  q_lit0 (by decide)))
        intro x119 ex
        replace h := h x119 ex
        refine ⟨fun c => ?_, fun c => ?_⟩
        · replace h := h.1 c
          exact u_X8_plant_b72 hSt hB hQ hC hP h
        · replace h := h.2 c
          refine ⟨(rN_FR hC k_a111).symm ▸ vp_lit10_22, ?_⟩
          intro x122 ex
          replace h := h x122 (ex.trans (rB_FR hC k_a111 q_lit10 (by decide)))
          refine ⟨fun c => ?_, fun c => ?_⟩
          · replace h := h.1 c
            refine ⟨_, rF_289 hC hB, ?_⟩
            refine ⟨rK_Wld hC, ?_⟩
            refine u_X7_plant hSt (fun S125 Z125 hC hP h => ?_) hC hP h
            refine ⟨rK_Mod hC hB, ?_⟩
            refine ⟨_, rF_289 hC hB, ?_⟩
            refine ⟨rK_Wld hC, ?_⟩
            refine ⟨_, rF_258 hC, ?_⟩
            refine ⟨rK_All hC, ?_⟩
            refine ⟨(rN_All hC).symm ▸ vp_lit0_11, ?_⟩
            intro x129 ex
            replace h := h x129 (ex.trans (rB_All hC  q_lit0 (by decide)))
            exact hQ _ _ _ hC hP h
          · replace h := h.2 c
            exact u_X8_plant_b72 hSt hB hQ hC hP h
    · replace h := h.2 c
      refine ⟨rK_Mod hC hB, ?_⟩
      refine u_X8_refuse hSt hB (fun x131 S130 Z130 hC hP h => ?_) hC hP h
      exact hQ _ _ _ hC hP h
  · replace h := h.2 c
    refine ⟨rK_Mod hC hB, ?_⟩
    refine u_X8_refuse hSt hB (fun x133 S132 Z132 hC hP h => ?_) hC hP h
    exact hQ _ _ _ hC hP h
def v_X8_plant (E : fT) (x1 : Int32) (x2 : Int32) (Z : yT) (Q : Int32 → yT → Prop) : Prop :=
  v_X8_plant_b0 E x1 x2 Z Q
set_option maxHeartbeats 1000000 in
theorem u_X8_plant {Q : Int32 → sT → Prop} {Q' : Int32 → yT → Prop} {x1 : Int32} {x2 : Int32} {S : sT} {Z : yT} (hSt : rSt X E P) (hB : E.2.2) (hQ : ∀ x S Z, RC X E S Z → P S → Q' x Z → Q x S)   (hC : RC X E S Z) (hP : P S) (h : v_X8_plant E x1 x2 Z Q') : w_X8_plant (X 0 0) x1 x2 S Q := by
  unfold v_X8_plant at h
  unfold w_X8_plant
  exact u_X8_plant_b0 hSt hB hQ hC hP h
def v_X8_help_b21 (E : fT) (Z : yT) (Q : Int32 → yT → Prop) : Prop :=
  v_X8_refuse E (1 : Int32) Z (fun x102 Z101 =>
  Q x102 Z101)
set_option maxHeartbeats 1000000 in
theorem u_X8_help_b21 {Q : Int32 → sT → Prop} {Q' : Int32 → yT → Prop}  {S : sT} {Z : yT} (hSt : rSt X E P) (hB : E.2.2) (hQ : ∀ x S Z, RC X E S Z → P S → Q' x Z → Q x S)   (hC : RC X E S Z) (hP : P S) (h : v_X8_help_b21 E Z Q') : w_X8_help_b21 (X 0 0) S Q := by
  unfold v_X8_help_b21 at h
  unfold w_X8_help_b21
  refine ⟨rK_Mod hC hB, ?_⟩
  refine u_X8_refuse hSt hB (fun x102 S101 Z101 hC hP h => ?_) hC hP h
  exact hQ _ _ _ hC hP h
def v_X8_help_b0 (E : fT) (x1 : Int32) (x2 : Int32) (Z : yT) (Q : Int32 → yT → Prop) : Prop :=
  ∀ Z101 : yT, Z101 = s_up2 Z 80 0 (0 : Int32) →
  v_X8_isField E x1 Z101 (fun x103 Z102 =>
  ((x103 = 0 →
  v_X8_help_b21 E Z102 Q) ∧
  (¬ x103 = 0 →
  v_X8_isField E x2 Z102 (fun x106 Z105 =>
  ((¬ x106 = 0 →
  vp_in x1 E.2.1 ∧
  ∀ a111 : Nat, a111 = Int32.toNatClampNeg x1 →
  ∀ x113 : Int32, x113 = Z105 18 a111 →
  ∀ x114 : Int32, x114 = x113 + (1 : Int32) →
  ∀ Z116 : yT, Z116 = s_up2 Z105 18 a111 x114 →
  vp_in x2 E.2.1 ∧
  ∀ a120 : Nat, a120 = Int32.toNatClampNeg x2 →
  ∀ x122 : Int32, x122 = Z116 18 a120 →
  ∀ x123 : Int32, x123 = x122 - (1 : Int32) →
  ∀ Z125 : yT, Z125 = s_up2 Z116 18 a120 x123 →
  vp_in x2 E.2.1 ∧
  ∀ a129 : Nat, a129 = Int32.toNatClampNeg x2 →
  ∀ x131 : Int32, x131 = Z125 10 a129 →
  ∀ x132 : Int32, x132 = x131 + (1 : Int32) →
  ∀ Z134 : yT, Z134 = s_up2 Z125 10 a129 x132 →
  vp_in x2 E.2.1 ∧
  ∀ a138 : Nat, a138 = Int32.toNatClampNeg x2 →
  ∀ x140 : Int32, x140 = Z134 10 a138 →
  Q x140 Z134) ∧
  (x106 = 0 →
  v_X8_help_b21 E Z105 Q))))))
set_option maxHeartbeats 1000000 in
theorem u_X8_help_b0 {Q : Int32 → sT → Prop} {Q' : Int32 → yT → Prop} {x1 : Int32} {x2 : Int32} {S : sT} {Z : yT} (hSt : rSt X E P) (hB : E.2.2) (hQ : ∀ x S Z, RC X E S Z → P S → Q' x Z → Q x S)   (hC : RC X E S Z) (hP : P S) (h : v_X8_help_b0 E x1 x2 Z Q') : w_X8_help_b0 (X 0 0) x1 x2 S Q := by
  unfold v_X8_help_b0 at h
  unfold w_X8_help_b0
  refine ⟨rK_Mod hC hB, ?_⟩
  intro S101 eS
  obtain ⟨Z101, eZ, h⟩ := vEx h
  replace hC := wI_80 hC hB eS eZ
  replace hP := eS ▸ hSt.2 _ _ hP
  clear eS eZ
  refine u_X8_isField hSt hB (fun x103 S102 Z102 hC hP h => ?_) hC hP h
  refine ⟨fun c => ?_, fun c => ?_⟩
  · replace h := h.1 c
    exact u_X8_help_b21 hSt hB hQ hC hP h
  · replace h := h.2 c
    refine ⟨rK_Mod hC hB, ?_⟩
    refine u_X8_isField hSt hB (fun x106 S105 Z105 hC hP h => ?_) hC hP h
    refine ⟨fun c => ?_, fun c => ?_⟩
    · replace h := h.1 c
      refine ⟨rK_Mod hC hB, ?_⟩
      refine ⟨_, rF_289 hC hB, ?_⟩
      refine ⟨rK_Wld hC, ?_⟩
      refine ⟨_, rF_257 hC, ?_⟩
      refine ⟨rK_FArr hC, ?_⟩
      obtain ⟨i_x1_E21, h⟩ := h
      refine ⟨(rN_FArr hC).symm ▸ i_x1_E21, ?_⟩
      obtain ⟨a111, ea111, h⟩ := vEx h
      have k_a111 := vp_lk i_x1_E21 ea111
      refine ⟨_, (rP_FArr hC (vp_lt i_x1_E21)).trans (congrArg (fun z => some (X 5 z)) ea111.symm), ?_⟩
      refine ⟨rK_FR hC k_a111, ?_⟩
      refine ⟨(rN_FR hC k_a111).symm ▸ vp_lit18_22, ?_⟩
      intro x113 ex
      replace h := h x113 (ex.trans (rB_FR hC k_a111 q_lit18 (by decide)))
      intro x114 ex
      replace h := h x114 ex
      refine ⟨(rN_FR hC k_a111).symm ▸ vp_lit18_22, ?_⟩
      intro S116 eS
      obtain ⟨Z116, eZ, h⟩ := vEx h
      replace hC := wB_FR hC k_a111 q_lit18 (by decide) eS eZ
      replace hP := eS ▸ hSt.1 _ 5 a111 _ _ (Or.inr (Or.inl ⟨rfl, k_a111⟩)) hP
      clear eS eZ
      refine ⟨_, rF_289 hC hB, ?_⟩
      refine ⟨rK_Wld hC, ?_⟩
      refine ⟨_, rF_257 hC, ?_⟩
      refine ⟨rK_FArr hC, ?_⟩
      obtain ⟨i_x2_E21, h⟩ := h
      refine ⟨(rN_FArr hC).symm ▸ i_x2_E21, ?_⟩
      obtain ⟨a120, ea120, h⟩ := vEx h
      have k_a120 := vp_lk i_x2_E21 ea120
      refine ⟨_, (rP_FArr hC (vp_lt i_x2_E21)).trans (congrArg (fun z => some (X 5 z)) ea120.symm), ?_⟩
      refine ⟨rK_FR hC k_a120, ?_⟩
      refine ⟨(rN_FR hC k_a120).symm ▸ vp_lit18_22, ?_⟩
      intro x122 ex
      replace h := h x122 (ex.trans (rB_FR hC k_a120 q_lit18 (by decide)))
      intro x123 ex
      replace h := h x123 ex
      refine ⟨(rN_FR hC k_a120).symm ▸ vp_lit18_22, ?_⟩
      intro S125 eS
      obtain ⟨Z125, eZ, h⟩ := vEx h
      replace hC := wB_FR hC k_a120 q_lit18 (by decide) eS eZ
      replace hP := eS ▸ hSt.1 _ 5 a120 _ _ (Or.inr (Or.inl ⟨rfl, k_a120⟩)) hP
      clear eS eZ
      refine ⟨_, rF_289 hC hB, ?_⟩
      refine ⟨rK_Wld hC, ?_⟩
      refine ⟨_, rF_257 hC, ?_⟩
      refine ⟨rK_FArr hC, ?_⟩
      obtain ⟨i_x2_E21, h⟩ := h
      refine ⟨(rN_FArr hC).symm ▸ i_x2_E21, ?_⟩
      obtain ⟨a129, ea129, h⟩ := vEx h
      have k_a129 := vp_lk i_x2_E21 ea129
      refine ⟨_, (rP_FArr hC (vp_lt i_x2_E21)).trans (congrArg (fun z => some (X 5 z)) ea129.symm), ?_⟩
      refine ⟨rK_FR hC k_a129, ?_⟩
      refine ⟨(rN_FR hC k_a129).symm ▸ vp_lit10_22, ?_⟩
      intro x131 ex
      replace h := h x131 (ex.trans (rB_FR hC k_a129 q_lit10 (by decide)))
      intro x132 ex
      replace h := h x132 ex
      refine ⟨(rN_FR hC k_a129).symm ▸ vp_lit10_22, ?_⟩
      intro S134 eS
      obtain ⟨Z134, eZ, h⟩ := vEx h
      replace hC := wB_FR hC k_a129 q_lit10 (by decide) eS eZ
      replace hP := eS ▸ hSt.1 _ 5 a129 _ _ (Or.inr (Or.inl ⟨rfl, k_a129⟩)) hP
      clear eS eZ
      refine ⟨_, rF_289 hC hB, ?_⟩
      refine ⟨rK_Wld hC, ?_⟩
      refine ⟨_, rF_257 hC, ?_⟩
      refine ⟨rK_FArr hC, ?_⟩
      obtain ⟨i_x2_E21, h⟩ := h
      refine ⟨(rN_FArr hC).symm ▸ i_x2_E21, ?_⟩
      obtain ⟨a138, ea138, h⟩ := vEx h
      have k_a138 := vp_lk i_x2_E21 ea138
      refine ⟨_, (rP_FArr hC (vp_lt i_x2_E21)).trans (congrArg (fun z => some (X 5 z)) ea138.symm), ?_⟩
      refine ⟨rK_FR hC k_a138, ?_⟩
      refine ⟨(rN_FR hC k_a138).symm ▸ vp_lit10_22, ?_⟩
      intro x140 ex
      replace h := h x140 (ex.trans (rB_FR hC k_a138 q_lit10 (by decide)))
      exact hQ _ _ _ hC hP h
    · replace h := h.2 c
      exact u_X8_help_b21 hSt hB hQ hC hP h
def v_X8_help (E : fT) (x1 : Int32) (x2 : Int32) (Z : yT) (Q : Int32 → yT → Prop) : Prop :=
  v_X8_help_b0 E x1 x2 Z Q
set_option maxHeartbeats 1000000 in
theorem u_X8_help {Q : Int32 → sT → Prop} {Q' : Int32 → yT → Prop} {x1 : Int32} {x2 : Int32} {S : sT} {Z : yT} (hSt : rSt X E P) (hB : E.2.2) (hQ : ∀ x S Z, RC X E S Z → P S → Q' x Z → Q x S)   (hC : RC X E S Z) (hP : P S) (h : v_X8_help E x1 x2 Z Q') : w_X8_help (X 0 0) x1 x2 S Q := by
  unfold v_X8_help at h
  unfold w_X8_help
  exact u_X8_help_b0 hSt hB hQ hC hP h
def v_X8_ducks_b39 (E : fT) (x1 : Int32) (y0 : Int32) (y1 : Int32) (y2 : Nat) (Z : yT) (Q : Int32 → yT → Prop) : Prop :=
  vp_in y1 22 ∧
  ∀ Z102 : yT, Z102 = s_up2 Z (Int32.toNatClampNeg y1) y2 y0 →
  vp_in x1 E.2.1 ∧
  ∀ a106 : Nat, a106 = Int32.toNatClampNeg x1 →
  ∀ x108 : Int32, x108 = Z102 8 a106 →
  Q x108 Z102
set_option maxHeartbeats 1000000 in
theorem u_X8_ducks_b39 {Q : Int32 → sT → Prop} {Q' : Int32 → yT → Prop} {x1 : Int32} {y0 : Int32} {y1 : Int32} {y2 : Nat} {S : sT} {Z : yT} (hSt : rSt X E P) (hB : E.2.2) (hQ : ∀ x S Z, RC X E S Z → P S → Q' x Z → Q x S)  (k_y2 : y2 < E.2.1) (hC : RC X E S Z) (hP : P S) (h : v_X8_ducks_b39 E x1 y0 y1 y2 Z Q') : w_X8_ducks_b39 (X 0 0) x1 y0 y1 (X 5 y2) S Q := by
  unfold v_X8_ducks_b39 at h
  unfold w_X8_ducks_b39
  refine ⟨rK_FR hC k_y2, ?_⟩
  obtain ⟨i_y1_22, h⟩ := h
  refine ⟨(rN_FR hC k_y2).symm ▸ i_y1_22, ?_⟩
  intro S102 eS
  obtain ⟨Z102, eZ, h⟩ := vEx h
  replace hC := wB_FR hC k_y2 rfl (vp_lt i_y1_22) eS eZ
  replace hP := eS ▸ hSt.1 _ 5 y2 _ _ (Or.inr (Or.inl ⟨rfl, k_y2⟩)) hP
  clear eS eZ
  refine ⟨rK_Mod hC hB, ?_⟩
  refine ⟨_, rF_289 hC hB, ?_⟩
  refine ⟨rK_Wld hC, ?_⟩
  refine ⟨_, rF_257 hC, ?_⟩
  refine ⟨rK_FArr hC, ?_⟩
  obtain ⟨i_x1_E21, h⟩ := h
  refine ⟨(rN_FArr hC).symm ▸ i_x1_E21, ?_⟩
  obtain ⟨a106, ea106, h⟩ := vEx h
  have k_a106 := vp_lk i_x1_E21 ea106
  refine ⟨_, (rP_FArr hC (vp_lt i_x1_E21)).trans (congrArg (fun z => some (X 5 z)) ea106.symm), ?_⟩
  refine ⟨rK_FR hC k_a106, ?_⟩
  refine ⟨(rN_FR hC k_a106).symm ▸ vp_lit8_22, ?_⟩
  intro x108 ex
  replace h := h x108 (ex.trans (rB_FR hC k_a106 q_lit8 (by decide)))
  exact hQ _ _ _ hC hP h
def v_X8_ducks_b0 (E : fT) (x1 : Int32) (x2 : Int32) (Z : yT) (Q : Int32 → yT → Prop) : Prop :=
  ∀ Z101 : yT, Z101 = s_up2 Z 80 0 (0 : Int32) →
  v_X8_isField E x1 Z101 (fun x103 Z102 =>
  ((¬ x103 = 0 →
  vp_in x1 E.2.1 ∧
  ∀ a108 : Nat, a108 = Int32.toNatClampNeg x1 →
  ((x2 = 0 →
  v_X8_ducks_b39 E x1 (0 : Int32) (16 : Int32) a108 Z102 Q) ∧
  (¬ x2 = 0 →
  v_X8_ducks_b39 E x1 (1 : Int32) (16 : Int32) a108 Z102 Q))) ∧
  (x103 = 0 →
  v_X8_refuse E (1 : Int32) Z102 (fun x111 Z110 =>
  Q x111 Z110))))
set_option maxHeartbeats 1000000 in
theorem u_X8_ducks_b0 {Q : Int32 → sT → Prop} {Q' : Int32 → yT → Prop} {x1 : Int32} {x2 : Int32} {S : sT} {Z : yT} (hSt : rSt X E P) (hB : E.2.2) (hQ : ∀ x S Z, RC X E S Z → P S → Q' x Z → Q x S)   (hC : RC X E S Z) (hP : P S) (h : v_X8_ducks_b0 E x1 x2 Z Q') : w_X8_ducks_b0 (X 0 0) x1 x2 S Q := by
  unfold v_X8_ducks_b0 at h
  unfold w_X8_ducks_b0
  refine ⟨rK_Mod hC hB, ?_⟩
  intro S101 eS
  obtain ⟨Z101, eZ, h⟩ := vEx h
  replace hC := wI_80 hC hB eS eZ
  replace hP := eS ▸ hSt.2 _ _ hP
  clear eS eZ
  refine u_X8_isField hSt hB (fun x103 S102 Z102 hC hP h => ?_) hC hP h
  refine ⟨fun c => ?_, fun c => ?_⟩
  · replace h := h.1 c
    refine ⟨rK_Mod hC hB, ?_⟩
    refine ⟨_, rF_289 hC hB, ?_⟩
    refine ⟨rK_Wld hC, ?_⟩
    refine ⟨_, rF_257 hC, ?_⟩
    refine ⟨rK_FArr hC, ?_⟩
    obtain ⟨i_x1_E21, h⟩ := h
    refine ⟨(rN_FArr hC).symm ▸ i_x1_E21, ?_⟩
    obtain ⟨a108, ea108, h⟩ := vEx h
    have k_a108 := vp_lk i_x1_E21 ea108
    refine ⟨_, (rP_FArr hC (vp_lt i_x1_E21)).trans (congrArg (fun z => some (X 5 z)) ea108.symm), ?_⟩
    refine ⟨fun c => ?_, fun c => ?_⟩
    · replace h := h.1 c
      exact u_X8_ducks_b39 (y2 := a108) hSt hB hQ k_a108 hC hP h
    · replace h := h.2 c
      exact u_X8_ducks_b39 (y2 := a108) hSt hB hQ k_a108 hC hP h
  · replace h := h.2 c
    refine ⟨rK_Mod hC hB, ?_⟩
    refine u_X8_refuse hSt hB (fun x111 S110 Z110 hC hP h => ?_) hC hP h
    exact hQ _ _ _ hC hP h
def v_X8_ducks (E : fT) (x1 : Int32) (x2 : Int32) (Z : yT) (Q : Int32 → yT → Prop) : Prop :=
  v_X8_ducks_b0 E x1 x2 Z Q
set_option maxHeartbeats 1000000 in
theorem u_X8_ducks {Q : Int32 → sT → Prop} {Q' : Int32 → yT → Prop} {x1 : Int32} {x2 : Int32} {S : sT} {Z : yT} (hSt : rSt X E P) (hB : E.2.2) (hQ : ∀ x S Z, RC X E S Z → P S → Q' x Z → Q x S)   (hC : RC X E S Z) (hP : P S) (h : v_X8_ducks E x1 x2 Z Q') : w_X8_ducks (X 0 0) x1 x2 S Q := by
  unfold v_X8_ducks at h
  unfold w_X8_ducks
  exact u_X8_ducks_b0 hSt hB hQ hC hP h
def v_X8_harvest_b157 (E : fT) (x4 : Int32) (Z : yT) (Q : Int32 → yT → Prop) : Prop :=
  Q x4 Z
set_option maxHeartbeats 1000000 in
theorem u_X8_harvest_b157 {Q : Int32 → sT → Prop} {Q' : Int32 → yT → Prop} {x4 : Int32} {S : sT} {Z : yT} (hSt : rSt X E P) (hB : E.2.2) (hQ : ∀ x S Z, RC X E S Z → P S → Q' x Z → Q x S)   (hC : RC X E S Z) (hP : P S) (h : v_X8_harvest_b157 E x4 Z Q') : w_X8_harvest_b157 x4 S Q := by
  unfold v_X8_harvest_b157 at h
  unfold w_X8_harvest_b157
  exact hQ _ _ _ hC hP h
def v_X8_harvest_b0 (E : fT) (x1 : Int32) (x2 : Int32) (Z : yT) (Q : Int32 → yT → Prop) : Prop :=
  ∀ Z101 : yT, Z101 = s_up2 Z 80 0 (0 : Int32) →
  v_X8_isField E x1 Z101 (fun x103 Z102 =>
  ((¬ x103 = 0 →
  vp_in x1 E.2.1 ∧
  ∀ a108 : Nat, a108 = Int32.toNatClampNeg x1 →
  ∀ x110 : Int32, x110 = Z102 4 a108 →
  ((x110 = (5 : Int32) →
  v_X7_yield E a108 Z102 (fun x114 Z113 =>
  ∀ x118 : Int32, x118 = Z113 74 0 →
  ∀ x119 : Int32, x119 = x118 + x114 →
  ∀ Z121 : yT, Z121 = s_up2 Z113 74 0 x119 →
  ∀ x125 : Int32, x125 = Z121 0 a108 →
  vp_in x125 E.1 ∧
  ∀ a127 : Nat, a127 = Int32.toNatClampNeg x125 →
  ∀ x129 : Int32, x129 = Z121 40 a127 →
  ∀ x130 : Int32, x130 = x129 + x114 →
  ∀ Z132 : yT, Z132 = s_up2 Z121 40 a127 x130 →
  ∀ x136 : Int32, x136 = Z132 0 a108 →
  vp_in x136 E.1 ∧
  ∀ a138 : Nat, a138 = Int32.toNatClampNeg x136 →
  ∀ x140 : Int32, x140 = Z132 36 a138 →
  ∀ x141 : Int32, x141 = x114 / (10 : Int32) →
  ∀ x142 : Int32, x142 = x140 + x141 →
  ∀ Z144 : yT, Z144 = s_up2 Z132 36 a138 x142 →
  ∀ x146 : Int32, x146 = Z144 19 a108 →
  ∀ x147 : Int32, x147 = x114 / (10 : Int32) →
  ∀ x148 : Int32, x148 = x114 - x147 →
  ∀ x149 : Int32, x149 = x146 + x148 →
  ∀ Z151 : yT, Z151 = s_up2 Z144 19 a108 x149 →
  ∀ Z153 : yT, Z153 = s_up2 Z151 4 a108 (0 : Int32) →
  ((x2 = 0 →
  ∀ x156 : Int32, x156 = Z153 9 a108 →
  ∀ x157 : Int32, x157 = x156 + (10 : Int32) →
  ∀ x158 : Int32, x158 = s_min (50 : Int32) x157 →
  ∀ Z160 : yT, Z160 = s_up2 Z153 9 a108 x158 →
  v_X8_harvest_b157 E x114 Z160 Q) ∧
  (¬ x2 = 0 →
  ∀ x162 : Int32, x162 = Z153 8 a108 →
  ∀ x163 : Int32, x163 = x162 / (2 : Int32) →
  ∀ Z165 : yT, Z165 = s_up2 Z153 8 a108 x163 →
  v_X8_harvest_b157 E x114 Z165 Q)))) ∧
  (¬ x110 = (5 : Int32) →
  v_X8_refuse E (2 : Int32) Z102 (fun x167 Z166 =>
  Q x167 Z166)))) ∧
  (x103 = 0 →
  v_X8_refuse E (1 : Int32) Z102 (fun x169 Z168 =>
  Q x169 Z168))))
set_option maxHeartbeats 1000000 in
theorem u_X8_harvest_b0 {Q : Int32 → sT → Prop} {Q' : Int32 → yT → Prop} {x1 : Int32} {x2 : Int32} {S : sT} {Z : yT} (hSt : rSt X E P) (hB : E.2.2) (hQ : ∀ x S Z, RC X E S Z → P S → Q' x Z → Q x S)   (hC : RC X E S Z) (hP : P S) (h : v_X8_harvest_b0 E x1 x2 Z Q') : w_X8_harvest_b0 (X 0 0) x1 x2 S Q := by
  unfold v_X8_harvest_b0 at h
  unfold w_X8_harvest_b0
  refine ⟨rK_Mod hC hB, ?_⟩
  intro S101 eS
  obtain ⟨Z101, eZ, h⟩ := vEx h
  replace hC := wI_80 hC hB eS eZ
  replace hP := eS ▸ hSt.2 _ _ hP
  clear eS eZ
  refine u_X8_isField hSt hB (fun x103 S102 Z102 hC hP h => ?_) hC hP h
  refine ⟨fun c => ?_, fun c => ?_⟩
  · replace h := h.1 c
    refine ⟨rK_Mod hC hB, ?_⟩
    refine ⟨_, rF_289 hC hB, ?_⟩
    refine ⟨rK_Wld hC, ?_⟩
    refine ⟨_, rF_257 hC, ?_⟩
    refine ⟨rK_FArr hC, ?_⟩
    obtain ⟨i_x1_E21, h⟩ := h
    refine ⟨(rN_FArr hC).symm ▸ i_x1_E21, ?_⟩
    obtain ⟨a108, ea108, h⟩ := vEx h
    have k_a108 := vp_lk i_x1_E21 ea108
    refine ⟨_, (rP_FArr hC (vp_lt i_x1_E21)).trans (congrArg (fun z => some (X 5 z)) ea108.symm), ?_⟩
    refine ⟨rK_FR hC k_a108, ?_⟩
    refine ⟨(rN_FR hC k_a108).symm ▸ vp_lit4_22, ?_⟩
    intro x110 ex
    replace h := h x110 (ex.trans (rB_FR hC k_a108 q_lit4 (by decide)))
    refine ⟨fun c => ?_, fun c => ?_⟩
    · replace h := h.1 c
      refine ⟨_, rF_289 hC hB, ?_⟩
      refine ⟨rK_Wld hC, ?_⟩
      refine u_X7_yield (x1 := a108) hSt (fun x114 S113 Z113 hC hP h => ?_) k_a108 hC hP h
      refine ⟨rK_Mod hC hB, ?_⟩
      refine ⟨_, rF_289 hC hB, ?_⟩
      refine ⟨rK_Wld hC, ?_⟩
      refine ⟨_, rF_258 hC, ?_⟩
      refine ⟨rK_All hC, ?_⟩
      refine ⟨(rN_All hC).symm ▸ vp_lit10_11, ?_⟩
      intro x118 ex
      replace h := h x118 (ex.trans (rB_All hC  q_lit10 (by decide)))
      intro x119 ex
      replace h := h x119 ex
      refine ⟨(rN_All hC).symm ▸ vp_lit10_11, ?_⟩
      intro S121 eS
      obtain ⟨Z121, eZ, h⟩ := vEx h
      replace hC := wB_All hC  q_lit10 (by decide) eS eZ
      replace hP := eS ▸ hSt.1 _ 6 0 _ _ (st_All) hP
      clear eS eZ
      refine ⟨_, rF_289 hC hB, ?_⟩
      refine ⟨rK_Wld hC, ?_⟩
      refine ⟨_, rF_256 hC, ?_⟩
      refine ⟨rK_FR hC k_a108, ?_⟩
      refine ⟨(rN_FR hC k_a108).symm ▸ vp_lit0_22, ?_⟩
      intro x125 ex
      replace h := h x125 (ex.trans (rB_FR hC k_a108 q_lit0 (by decide)))
      refine ⟨rK_SArr hC, ?_⟩
      obtain ⟨i_x125_E1, h⟩ := h
      refine ⟨(rN_SArr hC).symm ▸ i_x125_E1, ?_⟩
      obtain ⟨a127, ea127, h⟩ := vEx h
      have k_a127 := vp_lk i_x125_E1 ea127
      refine ⟨_, (rP_SArr hC (vp_lt i_x125_E1)).trans (congrArg (fun z => some (X 4 z)) ea127.symm), ?_⟩
      refine ⟨rK_SR hC k_a127, ?_⟩
      refine ⟨(rN_SR hC k_a127).symm ▸ vp_lit8_10, ?_⟩
      intro x129 ex
      replace h := h x129 (ex.trans (rB_SR hC k_a127 q_lit8 (by decide)))
      intro x130 ex
      replace h := h x130 ex
      refine ⟨(rN_SR hC k_a127).symm ▸ vp_lit8_10, ?_⟩
      intro S132 eS
      obtain ⟨Z132, eZ, h⟩ := vEx h
      replace hC := wB_SR hC k_a127 q_lit8 (by decide) eS eZ
      replace hP := eS ▸ hSt.1 _ 4 a127 _ _ (Or.inl ⟨rfl, k_a127⟩) hP
      clear eS eZ
      refine ⟨_, rF_289 hC hB, ?_⟩
      refine ⟨rK_Wld hC, ?_⟩
      refine ⟨_, rF_256 hC, ?_⟩
      refine ⟨(rN_FR hC k_a108).symm ▸ vp_lit0_22, ?_⟩
      intro x136 ex
      replace h := h x136 (ex.trans (rB_FR hC k_a108 q_lit0 (by decide)))
      refine ⟨rK_SArr hC, ?_⟩
      obtain ⟨i_x136_E1, h⟩ := h
      refine ⟨(rN_SArr hC).symm ▸ i_x136_E1, ?_⟩
      obtain ⟨a138, ea138, h⟩ := vEx h
      have k_a138 := vp_lk i_x136_E1 ea138
      refine ⟨_, (rP_SArr hC (vp_lt i_x136_E1)).trans (congrArg (fun z => some (X 4 z)) ea138.symm), ?_⟩
      refine ⟨rK_SR hC k_a138, ?_⟩
      refine ⟨(rN_SR hC k_a138).symm ▸ vp_lit4_10, ?_⟩
      intro x140 ex
      replace h := h x140 (ex.trans (rB_SR hC k_a138 q_lit4 (by decide)))
      intro x141 ex
      replace h := h x141 ex
      intro x142 ex
      replace h := h x142 ex
      refine ⟨(rN_SR hC k_a138).symm ▸ vp_lit4_10, ?_⟩
      intro S144 eS
      obtain ⟨Z144, eZ, h⟩ := vEx h
      replace hC := wB_SR hC k_a138 q_lit4 (by decide) eS eZ
      replace hP := eS ▸ hSt.1 _ 4 a138 _ _ (Or.inl ⟨rfl, k_a138⟩) hP
      clear eS eZ
      refine ⟨(rN_FR hC k_a108).symm ▸ vp_lit19_22, ?_⟩
      intro x146 ex
      replace h := h x146 (ex.trans (rB_FR hC k_a108 q_lit19 (by decide)))
      intro x147 ex
      replace h := h x147 ex
      intro x148 ex
      replace h := h x148 ex
      intro x149 ex
      replace h := h x149 ex
      refine ⟨(rN_FR hC k_a108).symm ▸ vp_lit19_22, ?_⟩
      intro S151 eS
      obtain ⟨Z151, eZ, h⟩ := vEx h
      replace hC := wB_FR hC k_a108 q_lit19 (by decide) eS eZ
      replace hP := eS ▸ hSt.1 _ 5 a108 _ _ (Or.inr (Or.inl ⟨rfl, k_a108⟩)) hP
      clear eS eZ
      refine ⟨(rN_FR hC k_a108).symm ▸ vp_lit4_22, ?_⟩
      intro S153 eS
      obtain ⟨Z153, eZ, h⟩ := vEx h
      replace hC := wB_FR hC k_a108 q_lit4 (by decide) eS eZ
      replace hP := eS ▸ hSt.1 _ 5 a108 _ _ (Or.inr (Or.inl ⟨rfl, k_a108⟩)) hP
      clear eS eZ
      refine ⟨fun c => ?_, fun c => ?_⟩
      · replace h := h.1 c
        refine ⟨(rN_FR hC k_a108).symm ▸ vp_lit9_22, ?_⟩
        intro x156 ex
        replace h := h x156 (ex.trans (rB_FR hC k_a108 q_lit9 (by decide)))
        intro x157 ex
        replace h := h x157 ex
        intro x158 ex
        replace h := h x158 ex
        refine ⟨(rN_FR hC k_a108).symm ▸ vp_lit9_22, ?_⟩
        intro S160 eS
        obtain ⟨Z160, eZ, h⟩ := vEx h
        replace hC := wB_FR hC k_a108 q_lit9 (by decide) eS eZ
        replace hP := eS ▸ hSt.1 _ 5 a108 _ _ (Or.inr (Or.inl ⟨rfl, k_a108⟩)) hP
        clear eS eZ
        exact u_X8_harvest_b157 hSt hB hQ hC hP h
      · replace h := h.2 c
        refine ⟨(rN_FR hC k_a108).symm ▸ vp_lit8_22, ?_⟩
        intro x162 ex
        replace h := h x162 (ex.trans (rB_FR hC k_a108 q_lit8 (by decide)))
        intro x163 ex
        replace h := h x163 ex
        refine ⟨(rN_FR hC k_a108).symm ▸ vp_lit8_22, ?_⟩
        intro S165 eS
        obtain ⟨Z165, eZ, h⟩ := vEx h
        replace hC := wB_FR hC k_a108 q_lit8 (by decide) eS eZ
        replace hP := eS ▸ hSt.1 _ 5 a108 _ _ (Or.inr (Or.inl ⟨rfl, k_a108⟩)) hP
        clear eS eZ
        exact u_X8_harvest_b157 hSt hB hQ hC hP h
    · replace h := h.2 c
      refine u_X8_refuse hSt hB (fun x167 S166 Z166 hC hP h => ?_) hC hP h
      exact hQ _ _ _ hC hP h
  · replace h := h.2 c
    refine ⟨rK_Mod hC hB, ?_⟩
    refine u_X8_refuse hSt hB (fun x169 S168 Z168 hC hP h => ?_) hC hP h
    exact hQ _ _ _ hC hP h
def v_X8_harvest (E : fT) (x1 : Int32) (x2 : Int32) (Z : yT) (Q : Int32 → yT → Prop) : Prop :=
  v_X8_harvest_b0 E x1 x2 Z Q
set_option maxHeartbeats 1000000 in
theorem u_X8_harvest {Q : Int32 → sT → Prop} {Q' : Int32 → yT → Prop} {x1 : Int32} {x2 : Int32} {S : sT} {Z : yT} (hSt : rSt X E P) (hB : E.2.2) (hQ : ∀ x S Z, RC X E S Z → P S → Q' x Z → Q x S)   (hC : RC X E S Z) (hP : P S) (h : v_X8_harvest E x1 x2 Z Q') : w_X8_harvest (X 0 0) x1 x2 S Q := by
  unfold v_X8_harvest at h
  unfold w_X8_harvest
  exact u_X8_harvest_b0 hSt hB hQ hC hP h
def v_X8_cut_b0 (E : fT) (x1 : Int32) (Z : yT) (Q : Int32 → yT → Prop) : Prop :=
  ∀ Z101 : yT, Z101 = s_up2 Z 80 0 (0 : Int32) →
  v_X8_isField E x1 Z101 (fun x103 Z102 =>
  ((¬ x103 = 0 →
  vp_in x1 E.2.1 ∧
  ∀ a108 : Nat, a108 = Int32.toNatClampNeg x1 →
  ∀ x110 : Int32, x110 = Z102 4 a108 →
  ((x110 = (5 : Int32) →
  ∀ x115 : Int32, x115 = Z102 64 0 →
  ∀ x116 : Int32, x116 = (7 : Int32) * x115 →
  ∀ x117 : Int32, x117 = (13 : Int32) * x1 →
  ∀ x118 : Int32, x118 = x116 + x117 →
  ∀ x122 : Int32, x122 = Z102 73 0 →
  ∀ x123 : Int32, x123 = (5 : Int32) * x122 →
  ∀ x124 : Int32, x124 = x118 + x123 →
  ∀ x125 : Int32, x125 = x124 - x124 / (21 : Int32) * (21 : Int32) →
  v_X7_yield E a108 Z102 (fun x128 Z127 =>
  ∀ x129 : Int32, x129 = (90 : Int32) + x125 →
  ∀ x130 : Int32, x130 = x128 * x129 →
  ∀ x131 : Int32, x131 = x130 / (100 : Int32) →
  ∀ x135 : Int32, x135 = Z127 73 0 →
  ∀ x136 : Int32, x136 = x135 + (1 : Int32) →
  ∀ Z138 : yT, Z138 = s_up2 Z127 73 0 x136 →
  ∀ x140 : Int32, x140 = Z138 20 a108 →
  ∀ x141 : Int32, x141 = (100 : Int32) * x131 →
  ∀ x142 : Int32, x142 = x141 + (109 : Int32) →
  ∀ x143 : Int32, x143 = x142 / (110 : Int32) →
  ∀ x144 : Int32, x144 = s_max x140 x143 →
  ∀ Z146 : yT, Z146 = s_up2 Z138 20 a108 x144 →
  ∀ x148 : Int32, x148 = Z146 21 a108 →
  ∀ x149 : Int32, x149 = x131 + (1 : Int32) →
  ∀ x150 : Int32, x150 = (100 : Int32) * x149 →
  ∀ x151 : Int32, x151 = x150 - (1 : Int32) →
  ∀ x152 : Int32, x152 = x151 / (90 : Int32) →
  ∀ x153 : Int32, x153 = s_min x148 x152 →
  ∀ Z155 : yT, Z155 = s_up2 Z146 21 a108 x153 →
  Q x131 Z155)) ∧
  (¬ x110 = (5 : Int32) →
  v_X8_refuse E (2 : Int32) Z102 (fun x157 Z156 =>
  Q x157 Z156)))) ∧
  (x103 = 0 →
  v_X8_refuse E (1 : Int32) Z102 (fun x159 Z158 =>
  Q x159 Z158))))
set_option maxHeartbeats 1000000 in
theorem u_X8_cut_b0 {Q : Int32 → sT → Prop} {Q' : Int32 → yT → Prop} {x1 : Int32} {S : sT} {Z : yT} (hSt : rSt X E P) (hB : E.2.2) (hQ : ∀ x S Z, RC X E S Z → P S → Q' x Z → Q x S)   (hC : RC X E S Z) (hP : P S) (h : v_X8_cut_b0 E x1 Z Q') : w_X8_cut_b0 (X 0 0) x1 S Q := by
  unfold v_X8_cut_b0 at h
  unfold w_X8_cut_b0
  refine ⟨rK_Mod hC hB, ?_⟩
  intro S101 eS
  obtain ⟨Z101, eZ, h⟩ := vEx h
  replace hC := wI_80 hC hB eS eZ
  replace hP := eS ▸ hSt.2 _ _ hP
  clear eS eZ
  refine u_X8_isField hSt hB (fun x103 S102 Z102 hC hP h => ?_) hC hP h
  refine ⟨fun c => ?_, fun c => ?_⟩
  · replace h := h.1 c
    refine ⟨rK_Mod hC hB, ?_⟩
    refine ⟨_, rF_289 hC hB, ?_⟩
    refine ⟨rK_Wld hC, ?_⟩
    refine ⟨_, rF_257 hC, ?_⟩
    refine ⟨rK_FArr hC, ?_⟩
    obtain ⟨i_x1_E21, h⟩ := h
    refine ⟨(rN_FArr hC).symm ▸ i_x1_E21, ?_⟩
    obtain ⟨a108, ea108, h⟩ := vEx h
    have k_a108 := vp_lk i_x1_E21 ea108
    refine ⟨_, (rP_FArr hC (vp_lt i_x1_E21)).trans (congrArg (fun z => some (X 5 z)) ea108.symm), ?_⟩
    refine ⟨rK_FR hC k_a108, ?_⟩
    refine ⟨(rN_FR hC k_a108).symm ▸ vp_lit4_22, ?_⟩
    intro x110 ex
    replace h := h x110 (ex.trans (rB_FR hC k_a108 q_lit4 (by decide)))
    refine ⟨fun c => ?_, fun c => ?_⟩
    · replace h := h.1 c
      refine ⟨_, rF_289 hC hB, ?_⟩
      refine ⟨rK_Wld hC, ?_⟩
      refine ⟨_, rF_258 hC, ?_⟩
      refine ⟨rK_All hC, ?_⟩
      refine ⟨(rN_All hC).symm ▸ vp_lit0_11, ?_⟩
      intro x115 ex
      replace h := h x115 (ex.trans (rB_All hC  q_lit0 (by decide)))
      intro x116 ex
      replace h := h x116 ex
      intro x117 ex
      replace h := h x117 ex
      intro x118 ex
      replace h := h x118 ex
      refine ⟨_, rF_289 hC hB, ?_⟩
      refine ⟨rK_Wld hC, ?_⟩
      refine ⟨_, rF_258 hC, ?_⟩
      refine ⟨rK_All hC, ?_⟩
      refine ⟨(rN_All hC).symm ▸ vp_lit9_11, ?_⟩
      intro x122 ex
      replace h := h x122 (ex.trans (rB_All hC  q_lit9 (by decide)))
      intro x123 ex
      replace h := h x123 ex
      intro x124 ex
      replace h := h x124 ex
      intro x125 ex
      replace h := h x125 ex
      refine ⟨_, rF_289 hC hB, ?_⟩
      refine ⟨rK_Wld hC, ?_⟩
      refine u_X7_yield (x1 := a108) hSt (fun x128 S127 Z127 hC hP h => ?_) k_a108 hC hP h
      intro x129 ex
      replace h := h x129 ex
      intro x130 ex
      replace h := h x130 ex
      intro x131 ex
      replace h := h x131 ex
      refine ⟨rK_Mod hC hB, ?_⟩
      refine ⟨_, rF_289 hC hB, ?_⟩
      refine ⟨rK_Wld hC, ?_⟩
      refine ⟨_, rF_258 hC, ?_⟩
      refine ⟨rK_All hC, ?_⟩
      refine ⟨(rN_All hC).symm ▸ vp_lit9_11, ?_⟩
      intro x135 ex
      replace h := h x135 (ex.trans (rB_All hC  q_lit9 (by decide)))
      intro x136 ex
      replace h := h x136 ex
      refine ⟨(rN_All hC).symm ▸ vp_lit9_11, ?_⟩
      intro S138 eS
      obtain ⟨Z138, eZ, h⟩ := vEx h
      replace hC := wB_All hC  q_lit9 (by decide) eS eZ
      replace hP := eS ▸ hSt.1 _ 6 0 _ _ (st_All) hP
      clear eS eZ
      refine ⟨rK_FR hC k_a108, ?_⟩
      refine ⟨(rN_FR hC k_a108).symm ▸ vp_lit20_22, ?_⟩
      intro x140 ex
      replace h := h x140 (ex.trans (rB_FR hC k_a108 q_lit20 (by decide)))
      intro x141 ex
      replace h := h x141 ex
      intro x142 ex
      replace h := h x142 ex
      intro x143 ex
      replace h := h x143 ex
      intro x144 ex
      replace h := h x144 ex
      refine ⟨(rN_FR hC k_a108).symm ▸ vp_lit20_22, ?_⟩
      intro S146 eS
      obtain ⟨Z146, eZ, h⟩ := vEx h
      replace hC := wB_FR hC k_a108 q_lit20 (by decide) eS eZ
      replace hP := eS ▸ hSt.1 _ 5 a108 _ _ (Or.inr (Or.inl ⟨rfl, k_a108⟩)) hP
      clear eS eZ
      refine ⟨(rN_FR hC k_a108).symm ▸ vp_lit21_22, ?_⟩
      intro x148 ex
      replace h := h x148 (ex.trans (rB_FR hC k_a108 q_lit21 (by decide)))
      intro x149 ex
      replace h := h x149 ex
      intro x150 ex
      replace h := h x150 ex
      intro x151 ex
      replace h := h x151 ex
      intro x152 ex
      replace h := h x152 ex
      intro x153 ex
      replace h := h x153 ex
      refine ⟨(rN_FR hC k_a108).symm ▸ vp_lit21_22, ?_⟩
      intro S155 eS
      obtain ⟨Z155, eZ, h⟩ := vEx h
      replace hC := wB_FR hC k_a108 q_lit21 (by decide) eS eZ
      replace hP := eS ▸ hSt.1 _ 5 a108 _ _ (Or.inr (Or.inl ⟨rfl, k_a108⟩)) hP
      clear eS eZ
      exact hQ _ _ _ hC hP h
    · replace h := h.2 c
      refine u_X8_refuse hSt hB (fun x157 S156 Z156 hC hP h => ?_) hC hP h
      exact hQ _ _ _ hC hP h
  · replace h := h.2 c
    refine ⟨rK_Mod hC hB, ?_⟩
    refine u_X8_refuse hSt hB (fun x159 S158 Z158 hC hP h => ?_) hC hP h
    exact hQ _ _ _ hC hP h
def v_X8_cut (E : fT) (x1 : Int32) (Z : yT) (Q : Int32 → yT → Prop) : Prop :=
  v_X8_cut_b0 E x1 Z Q
set_option maxHeartbeats 1000000 in
theorem u_X8_cut {Q : Int32 → sT → Prop} {Q' : Int32 → yT → Prop} {x1 : Int32} {S : sT} {Z : yT} (hSt : rSt X E P) (hB : E.2.2) (hQ : ∀ x S Z, RC X E S Z → P S → Q' x Z → Q x S)   (hC : RC X E S Z) (hP : P S) (h : v_X8_cut E x1 Z Q') : w_X8_cut (X 0 0) x1 S Q := by
  unfold v_X8_cut at h
  unfold w_X8_cut
  exact u_X8_cut_b0 hSt hB hQ hC hP h
def v_X8_day_b36 (E : fT) (Z : yT) (Q : Int32 → yT → Prop) : Prop :=
  v_X8_refuse E (1 : Int32) Z (fun x102 Z101 =>
  Q x102 Z101)
set_option maxHeartbeats 1000000 in
theorem u_X8_day_b36 {Q : Int32 → sT → Prop} {Q' : Int32 → yT → Prop}  {S : sT} {Z : yT} (hSt : rSt X E P) (hB : E.2.2) (hQ : ∀ x S Z, RC X E S Z → P S → Q' x Z → Q x S)   (hC : RC X E S Z) (hP : P S) (h : v_X8_day_b36 E Z Q') : w_X8_day_b36 (X 0 0) S Q := by
  unfold v_X8_day_b36 at h
  unfold w_X8_day_b36
  refine ⟨rK_Mod hC hB, ?_⟩
  refine u_X8_refuse hSt hB (fun x102 S101 Z101 hC hP h => ?_) hC hP h
  exact hQ _ _ _ hC hP h
def v_X8_day_b0 (E : fT) (x1 : Int32) (x2 : Int32) (x3 : Int32) (Z : yT) (Q : Int32 → yT → Prop) : Prop :=
  ∀ Z101 : yT, Z101 = s_up2 Z 80 0 (0 : Int32) →
  v_X8_is E x1 (0 : Int32) (200 : Int32) Z101 (fun x103 Z102 =>
  ((x103 = 0 →
  v_X8_day_b36 E Z102 Q) ∧
  (¬ x103 = 0 →
  v_X8_is E x2 (0 : Int32) (40 : Int32) Z102 (fun x106 Z105 =>
  ((x106 = 0 →
  v_X8_day_b36 E Z105 Q) ∧
  (¬ x106 = 0 →
  v_X8_is E x3 (0 : Int32) (30 : Int32) Z105 (fun x109 Z108 =>
  ((¬ x109 = 0 →
  ∀ Z114 : yT, Z114 = s_up2 Z108 65 0 x1 →
  ∀ Z118 : yT, Z118 = s_up2 Z114 66 0 x2 →
  ∀ Z122 : yT, Z122 = s_up2 Z118 67 0 x3 →
  v_X7_pass E Z122 (fun Z124 =>
  ∀ x128 : Int32, x128 = Z124 64 0 →
  Q x128 Z124)) ∧
  (x109 = 0 →
  v_X8_day_b36 E Z108 Q)))))))))
set_option maxHeartbeats 1000000 in
theorem u_X8_day_b0 {Q : Int32 → sT → Prop} {Q' : Int32 → yT → Prop} {x1 : Int32} {x2 : Int32} {x3 : Int32} {S : sT} {Z : yT} (hSt : rSt X E P) (hB : E.2.2) (hQ : ∀ x S Z, RC X E S Z → P S → Q' x Z → Q x S)   (hC : RC X E S Z) (hP : P S) (h : v_X8_day_b0 E x1 x2 x3 Z Q') : w_X8_day_b0 (X 0 0) x1 x2 x3 S Q := by
  unfold v_X8_day_b0 at h
  unfold w_X8_day_b0
  refine ⟨rK_Mod hC hB, ?_⟩
  intro S101 eS
  obtain ⟨Z101, eZ, h⟩ := vEx h
  replace hC := wI_80 hC hB eS eZ
  replace hP := eS ▸ hSt.2 _ _ hP
  clear eS eZ
  refine u_X8_is hSt (fun x103 S102 Z102 hC hP h => ?_) hC hP h
  refine ⟨fun c => ?_, fun c => ?_⟩
  · replace h := h.1 c
    exact u_X8_day_b36 hSt hB hQ hC hP h
  · replace h := h.2 c
    refine u_X8_is hSt (fun x106 S105 Z105 hC hP h => ?_) hC hP h
    refine ⟨fun c => ?_, fun c => ?_⟩
    · replace h := h.1 c
      exact u_X8_day_b36 hSt hB hQ hC hP h
    · replace h := h.2 c
      refine u_X8_is hSt (fun x109 S108 Z108 hC hP h => ?_) hC hP h
      refine ⟨fun c => ?_, fun c => ?_⟩
      · replace h := h.1 c
        refine ⟨rK_Mod hC hB, ?_⟩
        refine ⟨_, rF_289 hC hB, ?_⟩
        refine ⟨rK_Wld hC, ?_⟩
        refine ⟨_, rF_258 hC, ?_⟩
        refine ⟨rK_All hC, ?_⟩
        refine ⟨(rN_All hC).symm ▸ vp_lit1_11, ?_⟩
        intro S114 eS
        obtain ⟨Z114, eZ, h⟩ := vEx h
        replace hC := wB_All hC  q_lit1 (by decide) eS eZ
        replace hP := eS ▸ hSt.1 _ 6 0 _ _ (st_All) hP
        clear eS eZ
        refine ⟨_, rF_289 hC hB, ?_⟩
        refine ⟨rK_Wld hC, ?_⟩
        refine ⟨_, rF_258 hC, ?_⟩
        refine ⟨rK_All hC, ?_⟩
        refine ⟨(rN_All hC).symm ▸ vp_lit2_11, ?_⟩
        intro S118 eS
        obtain ⟨Z118, eZ, h⟩ := vEx h
        replace hC := wB_All hC  q_lit2 (by decide) eS eZ
        replace hP := eS ▸ hSt.1 _ 6 0 _ _ (st_All) hP
        clear eS eZ
        refine ⟨_, rF_289 hC hB, ?_⟩
        refine ⟨rK_Wld hC, ?_⟩
        refine ⟨_, rF_258 hC, ?_⟩
        refine ⟨rK_All hC, ?_⟩
        refine ⟨(rN_All hC).symm ▸ vp_lit3_11, ?_⟩
        intro S122 eS
        obtain ⟨Z122, eZ, h⟩ := vEx h
        replace hC := wB_All hC  q_lit3 (by decide) eS eZ
        replace hP := eS ▸ hSt.1 _ 6 0 _ _ (st_All) hP
        clear eS eZ
        refine ⟨_, rF_289 hC hB, ?_⟩
        refine ⟨rK_Wld hC, ?_⟩
        refine u_X7_pass hSt (fun S124 Z124 hC hP h => ?_) hC hP h
        refine ⟨rK_Mod hC hB, ?_⟩
        refine ⟨_, rF_289 hC hB, ?_⟩
        refine ⟨rK_Wld hC, ?_⟩
        refine ⟨_, rF_258 hC, ?_⟩
        refine ⟨rK_All hC, ?_⟩
        refine ⟨(rN_All hC).symm ▸ vp_lit0_11, ?_⟩
        intro x128 ex
        replace h := h x128 (ex.trans (rB_All hC  q_lit0 (by decide)))
        exact hQ _ _ _ hC hP h
      · replace h := h.2 c
        exact u_X8_day_b36 hSt hB hQ hC hP h
def v_X8_day (E : fT) (x1 : Int32) (x2 : Int32) (x3 : Int32) (Z : yT) (Q : Int32 → yT → Prop) : Prop :=
  v_X8_day_b0 E x1 x2 x3 Z Q
set_option maxHeartbeats 1000000 in
theorem u_X8_day {Q : Int32 → sT → Prop} {Q' : Int32 → yT → Prop} {x1 : Int32} {x2 : Int32} {x3 : Int32} {S : sT} {Z : yT} (hSt : rSt X E P) (hB : E.2.2) (hQ : ∀ x S Z, RC X E S Z → P S → Q' x Z → Q x S)   (hC : RC X E S Z) (hP : P S) (h : v_X8_day E x1 x2 x3 Z Q') : w_X8_day (X 0 0) x1 x2 x3 S Q := by
  unfold v_X8_day at h
  unfold w_X8_day
  exact u_X8_day_b0 hSt hB hQ hC hP h
def v_X8_inspect_b91 (E : fT) (x1 : Int32) (x2 : Int32) (x4 : Int32) (x5 : Int32) (Z : yT) (kk36 : Int32 → Int32 → Int32 → Int32 → yT → Prop) (Q : Int32 → yT → Prop) : Prop :=
  ∀ x101 : Int32, x101 = x5 + 1 →
  kk36 x1 x2 x4 x101 Z
set_option maxHeartbeats 1000000 in
theorem u_X8_inspect_b91 {Q : Int32 → sT → Prop} {Q' : Int32 → yT → Prop} {x1 : Int32} {x2 : Int32} {x4 : Int32} {x5 : Int32} {S : sT} {Z : yT} (hSt : rSt X E P) (hB : E.2.2) (hQ : ∀ x S Z, RC X E S Z → P S → Q' x Z → Q x S) {kk36 : Nat → Int32 → Int32 → Nat → Int32 → Int32 → sT → Prop} {kk36' : Int32 → Int32 → Int32 → Int32 → yT → Prop} (hkk36 : ∀ (x1 : Int32) (x2 : Int32) (x4 : Int32) (x5 : Int32) S Z, RC X E S Z → P S → kk36' x1 x2 x4 x5 Z → kk36 (X 0 0) x1 x2 (X 3 0) x4 x5 S)  (hC : RC X E S Z) (hP : P S) (h : v_X8_inspect_b91 E x1 x2 x4 x5 Z kk36' Q') : w_X8_inspect_b91 (X 0 0) x1 x2 (X 3 0) x4 x5 S kk36 Q := by
  unfold v_X8_inspect_b91 at h
  unfold w_X8_inspect_b91
  intro x101 ex
  replace h := h x101 ex
  exact hkk36 x1 x2 x4 x101 _ _  hC hP h
def v_X8_inspect_b36 (E : fT)  (Q : Int32 → yT → Prop) : Nat → Int32 → Int32 → Int32 → Int32 → yT → Prop
  | 0 => fun _ _ _ _ _ => False
  | n + 1 => fun x1 x2 x4 x5 Z =>
    ((x4 ≤ x5 →
    vp_in x1 E.1 ∧
    ∀ a105 : Nat, a105 = Int32.toNatClampNeg x1 →
    ∀ x107 : Int32, x107 = Z 36 a105 →
    ∀ x108 : Int32, x108 = x107 + x2 →
    ∀ Z110 : yT, Z110 = s_up2 Z 36 a105 x108 →
    Q x2 Z110) ∧
    (¬ x4 ≤ x5 →
    vp_in x5 E.2.1 ∧
    ∀ a112 : Nat, a112 = Int32.toNatClampNeg x5 →
    ∀ x114 : Int32, x114 = Z 0 a112 →
    ((x114 = x1 →
    ∀ x117 : Int32, x117 = Z 17 a112 →
    ∀ x119 : Int32, x119 = Z 15 a112 →
    ∀ x120 : Int32, x120 = (5 : Int32) * x119 →
    ∀ x121 : Int32, x121 = x117 - x120 →
    ∀ Z123 : yT, Z123 = s_up2 Z 17 a112 x121 →
    ∀ x125 : Int32, x125 = Z123 15 a112 →
    ∀ x126 : Int32, x126 = (5 : Int32) * x125 →
    ∀ x127 : Int32, x127 = x2 + x126 →
    ∀ Z129 : yT, Z129 = s_up2 Z123 15 a112 (0 : Int32) →
    v_X8_inspect_b91 E x1 x127 x4 x5 Z129 (fun x1 x2 x4 x5 Z => v_X8_inspect_b36 E Q n x1 x2 x4 x5 Z) Q) ∧
    (¬ x114 = x1 →
    v_X8_inspect_b91 E x1 x2 x4 x5 Z (fun x1 x2 x4 x5 Z => v_X8_inspect_b36 E Q n x1 x2 x4 x5 Z) Q))))
set_option maxHeartbeats 1000000 in
theorem u_X8_inspect_b36 {Q : Int32 → sT → Prop} {Q' : Int32 → yT → Prop} (hSt : rSt X E P) (hB : E.2.2) (hQ : ∀ x S Z, RC X E S Z → P S → Q' x Z → Q x S)  : ∀ (n : Nat) (x1 : Int32) (x2 : Int32) (x4 : Int32) (x5 : Int32) (S : sT) (Z : yT), RC X E S Z → P S → v_X8_inspect_b36 E  Q' n x1 x2 x4 x5 Z → w_X8_inspect_b36  Q n (X 0 0) x1 x2 (X 3 0) x4 x5 S := by
  intro n
  induction n with
  | zero => intro x1 x2 x4 x5 S Z  hC hP h; exact absurd h id
  | succ n ih =>
    intro x1 x2 x4 x5 S Z  hC hP h
    unfold v_X8_inspect_b36 at h
    unfold w_X8_inspect_b36
    refine ⟨fun c => ?_, fun c => ?_⟩
    · replace h := h.1 c
      refine ⟨rK_Mod hC hB, ?_⟩
      refine ⟨_, rF_289 hC hB, ?_⟩
      refine ⟨rK_Wld hC, ?_⟩
      refine ⟨_, rF_256 hC, ?_⟩
      refine ⟨rK_SArr hC, ?_⟩
      obtain ⟨i_x1_E1, h⟩ := h
      refine ⟨(rN_SArr hC).symm ▸ i_x1_E1, ?_⟩
      obtain ⟨a105, ea105, h⟩ := vEx h
      have k_a105 := vp_lk i_x1_E1 ea105
      refine ⟨_, (rP_SArr hC (vp_lt i_x1_E1)).trans (congrArg (fun z => some (X 4 z)) ea105.symm), ?_⟩
      refine ⟨rK_SR hC k_a105, ?_⟩
      refine ⟨(rN_SR hC k_a105).symm ▸ vp_lit4_10, ?_⟩
      intro x107 ex
      replace h := h x107 (ex.trans (rB_SR hC k_a105 q_lit4 (by decide)))
      intro x108 ex
      replace h := h x108 ex
      refine ⟨(rN_SR hC k_a105).symm ▸ vp_lit4_10, ?_⟩
      intro S110 eS
      obtain ⟨Z110, eZ, h⟩ := vEx h
      replace hC := wB_SR hC k_a105 q_lit4 (by decide) eS eZ
      replace hP := eS ▸ hSt.1 _ 4 a105 _ _ (Or.inl ⟨rfl, k_a105⟩) hP
      clear eS eZ
      exact hQ _ _ _ hC hP h
    · replace h := h.2 c
      refine ⟨rK_FArr hC, ?_⟩
      obtain ⟨i_x5_E21, h⟩ := h
      refine ⟨(rN_FArr hC).symm ▸ i_x5_E21, ?_⟩
      obtain ⟨a112, ea112, h⟩ := vEx h
      have k_a112 := vp_lk i_x5_E21 ea112
      refine ⟨_, (rP_FArr hC (vp_lt i_x5_E21)).trans (congrArg (fun z => some (X 5 z)) ea112.symm), ?_⟩
      refine ⟨rK_FR hC k_a112, ?_⟩
      refine ⟨(rN_FR hC k_a112).symm ▸ vp_lit0_22, ?_⟩
      intro x114 ex
      replace h := h x114 (ex.trans (rB_FR hC k_a112 q_lit0 (by decide)))
      refine ⟨fun c => ?_, fun c => ?_⟩
      · replace h := h.1 c
        refine ⟨(rN_FR hC k_a112).symm ▸ vp_lit17_22, ?_⟩
        intro x117 ex
        replace h := h x117 (ex.trans (rB_FR hC k_a112 q_lit17 (by decide)))
        refine ⟨(rN_FR hC k_a112).symm ▸ vp_lit15_22, ?_⟩
        intro x119 ex
        replace h := h x119 (ex.trans (rB_FR hC k_a112 q_lit15 (by decide)))
        intro x120 ex
        replace h := h x120 ex
        intro x121 ex
        replace h := h x121 ex
        refine ⟨(rN_FR hC k_a112).symm ▸ vp_lit17_22, ?_⟩
        intro S123 eS
        obtain ⟨Z123, eZ, h⟩ := vEx h
        replace hC := wB_FR hC k_a112 q_lit17 (by decide) eS eZ
        replace hP := eS ▸ hSt.1 _ 5 a112 _ _ (Or.inr (Or.inl ⟨rfl, k_a112⟩)) hP
        clear eS eZ
        refine ⟨(rN_FR hC k_a112).symm ▸ vp_lit15_22, ?_⟩
        intro x125 ex
        replace h := h x125 (ex.trans (rB_FR hC k_a112 q_lit15 (by decide)))
        intro x126 ex
        replace h := h x126 ex
        intro x127 ex
        replace h := h x127 ex
        refine ⟨(rN_FR hC k_a112).symm ▸ vp_lit15_22, ?_⟩
        intro S129 eS
        obtain ⟨Z129, eZ, h⟩ := vEx h
        replace hC := wB_FR hC k_a112 q_lit15 (by decide) eS eZ
        replace hP := eS ▸ hSt.1 _ 5 a112 _ _ (Or.inr (Or.inl ⟨rfl, k_a112⟩)) hP
        clear eS eZ
        exact u_X8_inspect_b91 hSt hB hQ (fun x1 x2 x4 x5 S Z hC hP h => ih x1 x2 x4 x5 _ _ hC hP h) hC hP h
      · replace h := h.2 c
        exact u_X8_inspect_b91 hSt hB hQ (fun x1 x2 x4 x5 S Z hC hP h => ih x1 x2 x4 x5 _ _ hC hP h) hC hP h
def v_X8_inspect_b0 (E : fT) (x1 : Int32) (Z : yT) (Q : Int32 → yT → Prop) : Prop :=
  ∀ Z101 : yT, Z101 = s_up2 Z 80 0 (0 : Int32) →
  v_X8_isSociety E x1 Z101 (fun x103 Z102 =>
  ((¬ x103 = 0 →
  ∀ x107 : Int32, x107 = nI E.2.1 →
  ∃ n9 : Nat, 
  v_X8_inspect_b36 E Q n9 x1 (0 : Int32) x107 (0 : Int32) Z102) ∧
  (x103 = 0 →
  v_X8_refuse E (1 : Int32) Z102 (fun x109 Z108 =>
  Q x109 Z108))))
set_option maxHeartbeats 1000000 in
theorem u_X8_inspect_b0 {Q : Int32 → sT → Prop} {Q' : Int32 → yT → Prop} {x1 : Int32} {S : sT} {Z : yT} (hSt : rSt X E P) (hB : E.2.2) (hQ : ∀ x S Z, RC X E S Z → P S → Q' x Z → Q x S)   (hC : RC X E S Z) (hP : P S) (h : v_X8_inspect_b0 E x1 Z Q') : w_X8_inspect_b0 (X 0 0) x1 S Q := by
  unfold v_X8_inspect_b0 at h
  unfold w_X8_inspect_b0
  refine ⟨rK_Mod hC hB, ?_⟩
  intro S101 eS
  obtain ⟨Z101, eZ, h⟩ := vEx h
  replace hC := wI_80 hC hB eS eZ
  replace hP := eS ▸ hSt.2 _ _ hP
  clear eS eZ
  refine u_X8_isSociety hSt hB (fun x103 S102 Z102 hC hP h => ?_) hC hP h
  refine ⟨fun c => ?_, fun c => ?_⟩
  · replace h := h.1 c
    refine ⟨rK_Mod hC hB, ?_⟩
    refine ⟨_, rF_289 hC hB, ?_⟩
    refine ⟨rK_Wld hC, ?_⟩
    refine ⟨_, rF_257 hC, ?_⟩
    refine ⟨rK_FArr hC, ?_⟩
    intro x107 ex
    replace h := h x107 (ex.trans (congrArg nI (rN_FArr hC)))
    obtain ⟨n9, h⟩ := h
    refine ⟨n9, ?_⟩
    exact u_X8_inspect_b36 hSt hB hQ n9 x1 (0 : Int32) x107 (0 : Int32) _ _ hC hP h
  · replace h := h.2 c
    refine ⟨rK_Mod hC hB, ?_⟩
    refine u_X8_refuse hSt hB (fun x109 S108 Z108 hC hP h => ?_) hC hP h
    exact hQ _ _ _ hC hP h
def v_X8_inspect (E : fT) (x1 : Int32) (Z : yT) (Q : Int32 → yT → Prop) : Prop :=
  v_X8_inspect_b0 E x1 Z Q
set_option maxHeartbeats 1000000 in
theorem u_X8_inspect {Q : Int32 → sT → Prop} {Q' : Int32 → yT → Prop} {x1 : Int32} {S : sT} {Z : yT} (hSt : rSt X E P) (hB : E.2.2) (hQ : ∀ x S Z, RC X E S Z → P S → Q' x Z → Q x S)   (hC : RC X E S Z) (hP : P S) (h : v_X8_inspect E x1 Z Q') : w_X8_inspect (X 0 0) x1 S Q := by
  unfold v_X8_inspect at h
  unfold w_X8_inspect
  exact u_X8_inspect_b0 hSt hB hQ hC hP h
def v_X8_sell_b0 (E : fT) (x1 : Int32) (x2 : Int32) (Z : yT) (Q : Int32 → yT → Prop) : Prop :=
  ∀ Z101 : yT, Z101 = s_up2 Z 80 0 (0 : Int32) →
  v_X8_isField E x1 Z101 (fun x103 Z102 =>
  ((¬ x103 = 0 →
  (((1 : Int32) ≤ x2 →
  vp_in x1 E.2.1 ∧
  ∀ a109 : Nat, a109 = Int32.toNatClampNeg x1 →
  ∀ x111 : Int32, x111 = Z102 19 a109 →
  ((x2 ≤ x111 →
  ∀ x114 : Int32, x114 = Z102 19 a109 →
  ∀ x115 : Int32, x115 = x114 - x2 →
  ∀ Z117 : yT, Z117 = s_up2 Z102 19 a109 x115 →
  ∀ x119 : Int32, x119 = Z117 17 a109 →
  ∀ x120 : Int32, x120 = x119 + x2 →
  ∀ Z122 : yT, Z122 = s_up2 Z117 17 a109 x120 →
  ∀ x124 : Int32, x124 = Z122 17 a109 →
  Q x124 Z122) ∧
  (¬ x2 ≤ x111 →
  v_X8_refuse E (3 : Int32) Z102 (fun x126 Z125 =>
  Q x126 Z125)))) ∧
  (¬ (1 : Int32) ≤ x2 →
  v_X8_refuse E (2 : Int32) Z102 (fun x128 Z127 =>
  Q x128 Z127)))) ∧
  (x103 = 0 →
  v_X8_refuse E (1 : Int32) Z102 (fun x130 Z129 =>
  Q x130 Z129))))
set_option maxHeartbeats 1000000 in
theorem u_X8_sell_b0 {Q : Int32 → sT → Prop} {Q' : Int32 → yT → Prop} {x1 : Int32} {x2 : Int32} {S : sT} {Z : yT} (hSt : rSt X E P) (hB : E.2.2) (hQ : ∀ x S Z, RC X E S Z → P S → Q' x Z → Q x S)   (hC : RC X E S Z) (hP : P S) (h : v_X8_sell_b0 E x1 x2 Z Q') : w_X8_sell_b0 (X 0 0) x1 x2 S Q := by
  unfold v_X8_sell_b0 at h
  unfold w_X8_sell_b0
  refine ⟨rK_Mod hC hB, ?_⟩
  intro S101 eS
  obtain ⟨Z101, eZ, h⟩ := vEx h
  replace hC := wI_80 hC hB eS eZ
  replace hP := eS ▸ hSt.2 _ _ hP
  clear eS eZ
  refine u_X8_isField hSt hB (fun x103 S102 Z102 hC hP h => ?_) hC hP h
  refine ⟨fun c => ?_, fun c => ?_⟩
  · replace h := h.1 c
    refine ⟨fun c => ?_, fun c => ?_⟩
    · replace h := h.1 c
      refine ⟨rK_Mod hC hB, ?_⟩
      refine ⟨_, rF_289 hC hB, ?_⟩
      refine ⟨rK_Wld hC, ?_⟩
      refine ⟨_, rF_257 hC, ?_⟩
      refine ⟨rK_FArr hC, ?_⟩
      obtain ⟨i_x1_E21, h⟩ := h
      refine ⟨(rN_FArr hC).symm ▸ i_x1_E21, ?_⟩
      obtain ⟨a109, ea109, h⟩ := vEx h
      have k_a109 := vp_lk i_x1_E21 ea109
      refine ⟨_, (rP_FArr hC (vp_lt i_x1_E21)).trans (congrArg (fun z => some (X 5 z)) ea109.symm), ?_⟩
      refine ⟨rK_FR hC k_a109, ?_⟩
      refine ⟨(rN_FR hC k_a109).symm ▸ vp_lit19_22, ?_⟩
      intro x111 ex
      replace h := h x111 (ex.trans (rB_FR hC k_a109 q_lit19 (by decide)))
      refine ⟨fun c => ?_, fun c => ?_⟩
      · replace h := h.1 c
        refine ⟨(rN_FR hC k_a109).symm ▸ vp_lit19_22, ?_⟩
        intro x114 ex
        replace h := h x114 (ex.trans (rB_FR hC k_a109 q_lit19 (by decide)))
        intro x115 ex
        replace h := h x115 ex
        refine ⟨(rN_FR hC k_a109).symm ▸ vp_lit19_22, ?_⟩
        intro S117 eS
        obtain ⟨Z117, eZ, h⟩ := vEx h
        replace hC := wB_FR hC k_a109 q_lit19 (by decide) eS eZ
        replace hP := eS ▸ hSt.1 _ 5 a109 _ _ (Or.inr (Or.inl ⟨rfl, k_a109⟩)) hP
        clear eS eZ
        refine ⟨(rN_FR hC k_a109).symm ▸ vp_lit17_22, ?_⟩
        intro x119 ex
        replace h := h x119 (ex.trans (rB_FR hC k_a109 q_lit17 (by decide)))
        intro x120 ex
        replace h := h x120 ex
        refine ⟨(rN_FR hC k_a109).symm ▸ vp_lit17_22, ?_⟩
        intro S122 eS
        obtain ⟨Z122, eZ, h⟩ := vEx h
        replace hC := wB_FR hC k_a109 q_lit17 (by decide) eS eZ
        replace hP := eS ▸ hSt.1 _ 5 a109 _ _ (Or.inr (Or.inl ⟨rfl, k_a109⟩)) hP
        clear eS eZ
        refine ⟨(rN_FR hC k_a109).symm ▸ vp_lit17_22, ?_⟩
        intro x124 ex
        replace h := h x124 (ex.trans (rB_FR hC k_a109 q_lit17 (by decide)))
        exact hQ _ _ _ hC hP h
      · replace h := h.2 c
        refine u_X8_refuse hSt hB (fun x126 S125 Z125 hC hP h => ?_) hC hP h
        exact hQ _ _ _ hC hP h
    · replace h := h.2 c
      refine ⟨rK_Mod hC hB, ?_⟩
      refine u_X8_refuse hSt hB (fun x128 S127 Z127 hC hP h => ?_) hC hP h
      exact hQ _ _ _ hC hP h
  · replace h := h.2 c
    refine ⟨rK_Mod hC hB, ?_⟩
    refine u_X8_refuse hSt hB (fun x130 S129 Z129 hC hP h => ?_) hC hP h
    exact hQ _ _ _ hC hP h
def v_X8_sell (E : fT) (x1 : Int32) (x2 : Int32) (Z : yT) (Q : Int32 → yT → Prop) : Prop :=
  v_X8_sell_b0 E x1 x2 Z Q
set_option maxHeartbeats 1000000 in
theorem u_X8_sell {Q : Int32 → sT → Prop} {Q' : Int32 → yT → Prop} {x1 : Int32} {x2 : Int32} {S : sT} {Z : yT} (hSt : rSt X E P) (hB : E.2.2) (hQ : ∀ x S Z, RC X E S Z → P S → Q' x Z → Q x S)   (hC : RC X E S Z) (hP : P S) (h : v_X8_sell E x1 x2 Z Q') : w_X8_sell (X 0 0) x1 x2 S Q := by
  unfold v_X8_sell at h
  unfold w_X8_sell
  exact u_X8_sell_b0 hSt hB hQ hC hP h
def v_X8_thought_b42 (E : fT) (y0 : Int32) (Z : yT) (Q : Int32 → yT → Prop) : Prop :=
  Q y0 Z
set_option maxHeartbeats 1000000 in
theorem u_X8_thought_b42 {Q : Int32 → sT → Prop} {Q' : Int32 → yT → Prop} {y0 : Int32} {S : sT} {Z : yT} (hSt : rSt X E P) (hB : E.2.2) (hQ : ∀ x S Z, RC X E S Z → P S → Q' x Z → Q x S)   (hC : RC X E S Z) (hP : P S) (h : v_X8_thought_b42 E y0 Z Q') : w_X8_thought_b42 y0 S Q := by
  unfold v_X8_thought_b42 at h
  unfold w_X8_thought_b42
  exact hQ _ _ _ hC hP h
def v_X8_thought_b33 (E : fT) (y0 : Int32) (y1 : Nat) (Z : yT) (Q : Int32 → yT → Prop) : Prop :=
  vp_in y0 22 ∧
  ∀ x102 : Int32, x102 = Z (Int32.toNatClampNeg y0) y1 →
  v_X8_thought_b42 E x102 Z Q
set_option maxHeartbeats 1000000 in
theorem u_X8_thought_b33 {Q : Int32 → sT → Prop} {Q' : Int32 → yT → Prop} {y0 : Int32} {y1 : Nat} {S : sT} {Z : yT} (hSt : rSt X E P) (hB : E.2.2) (hQ : ∀ x S Z, RC X E S Z → P S → Q' x Z → Q x S)  (k_y1 : y1 < E.2.1) (hC : RC X E S Z) (hP : P S) (h : v_X8_thought_b33 E y0 y1 Z Q') : w_X8_thought_b33 y0 (X 5 y1) S Q := by
  unfold v_X8_thought_b33 at h
  unfold w_X8_thought_b33
  refine ⟨rK_FR hC k_y1, ?_⟩
  obtain ⟨i_y0_22, h⟩ := h
  refine ⟨(rN_FR hC k_y1).symm ▸ i_y0_22, ?_⟩
  intro x102 ex
  replace h := h x102 (ex.trans (rB_FR hC k_y1 rfl (vp_lt i_y0_22)))
  exact u_X8_thought_b42 hSt hB hQ hC hP h
def v_X8_thought_b0 (E : fT) (x1 : Int32) (x2 : Int32) (Z : yT) (Q : Int32 → yT → Prop) : Prop :=
  ∀ Z101 : yT, Z101 = s_up2 Z 80 0 (0 : Int32) →
  v_X8_isField E x1 Z101 (fun x103 Z102 =>
  ((x103 = 0 →
  v_X8_refuse E (1 : Int32) Z102 (fun x106 Z105 =>
  v_X8_thought_b42 E x106 Z105 Q)) ∧
  (¬ x103 = 0 →
  vp_in x1 E.2.1 ∧
  ∀ a110 : Nat, a110 = Int32.toNatClampNeg x1 →
  ((x2 = 0 →
  v_X8_thought_b33 E (20 : Int32) a110 Z102 Q) ∧
  (¬ x2 = 0 →
  v_X8_thought_b33 E (21 : Int32) a110 Z102 Q)))))
set_option maxHeartbeats 1000000 in
theorem u_X8_thought_b0 {Q : Int32 → sT → Prop} {Q' : Int32 → yT → Prop} {x1 : Int32} {x2 : Int32} {S : sT} {Z : yT} (hSt : rSt X E P) (hB : E.2.2) (hQ : ∀ x S Z, RC X E S Z → P S → Q' x Z → Q x S)   (hC : RC X E S Z) (hP : P S) (h : v_X8_thought_b0 E x1 x2 Z Q') : w_X8_thought_b0 (X 0 0) x1 x2 S Q := by
  unfold v_X8_thought_b0 at h
  unfold w_X8_thought_b0
  refine ⟨rK_Mod hC hB, ?_⟩
  intro S101 eS
  obtain ⟨Z101, eZ, h⟩ := vEx h
  replace hC := wI_80 hC hB eS eZ
  replace hP := eS ▸ hSt.2 _ _ hP
  clear eS eZ
  refine u_X8_isField hSt hB (fun x103 S102 Z102 hC hP h => ?_) hC hP h
  refine ⟨fun c => ?_, fun c => ?_⟩
  · replace h := h.1 c
    refine ⟨rK_Mod hC hB, ?_⟩
    refine u_X8_refuse hSt hB (fun x106 S105 Z105 hC hP h => ?_) hC hP h
    exact u_X8_thought_b42 hSt hB hQ hC hP h
  · replace h := h.2 c
    refine ⟨rK_Mod hC hB, ?_⟩
    refine ⟨_, rF_289 hC hB, ?_⟩
    refine ⟨rK_Wld hC, ?_⟩
    refine ⟨_, rF_257 hC, ?_⟩
    refine ⟨rK_FArr hC, ?_⟩
    obtain ⟨i_x1_E21, h⟩ := h
    refine ⟨(rN_FArr hC).symm ▸ i_x1_E21, ?_⟩
    obtain ⟨a110, ea110, h⟩ := vEx h
    have k_a110 := vp_lk i_x1_E21 ea110
    refine ⟨_, (rP_FArr hC (vp_lt i_x1_E21)).trans (congrArg (fun z => some (X 5 z)) ea110.symm), ?_⟩
    refine ⟨fun c => ?_, fun c => ?_⟩
    · replace h := h.1 c
      exact u_X8_thought_b33 (y1 := a110) hSt hB hQ k_a110 hC hP h
    · replace h := h.2 c
      exact u_X8_thought_b33 (y1 := a110) hSt hB hQ k_a110 hC hP h
def v_X8_thought (E : fT) (x1 : Int32) (x2 : Int32) (Z : yT) (Q : Int32 → yT → Prop) : Prop :=
  v_X8_thought_b0 E x1 x2 Z Q
set_option maxHeartbeats 1000000 in
theorem u_X8_thought {Q : Int32 → sT → Prop} {Q' : Int32 → yT → Prop} {x1 : Int32} {x2 : Int32} {S : sT} {Z : yT} (hSt : rSt X E P) (hB : E.2.2) (hQ : ∀ x S Z, RC X E S Z → P S → Q' x Z → Q x S)   (hC : RC X E S Z) (hP : P S) (h : v_X8_thought E x1 x2 Z Q') : w_X8_thought (X 0 0) x1 x2 S Q := by
  unfold v_X8_thought at h
  unfold w_X8_thought
  exact u_X8_thought_b0 hSt hB hQ hC hP h
def v_X8_suspectNow_b164 (E : fT) (x1 : Int32) (x2 : Int32) (x3 : Int32) (x4 : Int32) (x5 : Int32) (x6 : Int32) (Z : yT) (kk85 : Int32 → Int32 → Int32 → Int32 → Int32 → Int32 → yT → Prop) (Q : Int32 → yT → Prop) : Prop :=
  ∀ x101 : Int32, x101 = x6 + 1 →
  kk85 x1 x2 x3 x4 x5 x101 Z
set_option maxHeartbeats 1000000 in
theorem u_X8_suspectNow_b164 {Q : Int32 → sT → Prop} {Q' : Int32 → yT → Prop} {x1 : Int32} {x2 : Int32} {x3 : Int32} {x4 : Int32} {x5 : Int32} {x6 : Int32} {S : sT} {Z : yT} (hSt : rSt X E P) (hB : E.2.2) (hQ : ∀ x S Z, RC X E S Z → P S → Q' x Z → Q x S) {kk85 : Nat → Int32 → Int32 → Int32 → Int32 → Int32 → Int32 → sT → Prop} {kk85' : Int32 → Int32 → Int32 → Int32 → Int32 → Int32 → yT → Prop} (hkk85 : ∀ (x1 : Int32) (x2 : Int32) (x3 : Int32) (x4 : Int32) (x5 : Int32) (x6 : Int32) S Z, RC X E S Z → P S → kk85' x1 x2 x3 x4 x5 x6 Z → kk85 (X 0 0) x1 x2 x3 x4 x5 x6 S)  (hC : RC X E S Z) (hP : P S) (h : v_X8_suspectNow_b164 E x1 x2 x3 x4 x5 x6 Z kk85' Q') : w_X8_suspectNow_b164 (X 0 0) x1 x2 x3 x4 x5 x6 S kk85 Q := by
  unfold v_X8_suspectNow_b164 at h
  unfold w_X8_suspectNow_b164
  intro x101 ex
  replace h := h x101 ex
  exact hkk85 x1 x2 x3 x4 x5 x101 _ _  hC hP h
def v_X8_suspectNow_b85 (E : fT)  (Q : Int32 → yT → Prop) : Nat → Int32 → Int32 → Int32 → Int32 → Int32 → Int32 → yT → Prop
  | 0 => fun _ _ _ _ _ _ _ => False
  | n + 1 => fun x1 x2 x3 x4 x5 x6 Z =>
    ∀ x103 : Int32, x103 = nI E.2.1 →
    ((x103 ≤ x6 →
    Q x4 Z) ∧
    (¬ x103 ≤ x6 →
    vp_in x6 E.2.1 ∧
    ∀ a108 : Nat, a108 = Int32.toNatClampNeg x6 →
    ∀ x110 : Int32, x110 = Z 0 a108 →
    ((¬ x110 = x1 →
    v_X8_suspectNow_b164 E x1 x2 x3 x4 x5 x6 Z (fun x1 x2 x3 x4 x5 x6 Z => v_X8_suspectNow_b85 E Q n x1 x2 x3 x4 x5 x6 Z) Q) ∧
    (x110 = x1 →
    ∀ x113 : Int32, x113 = Z 11 a108 →
    ((¬ x113 = 0 →
    ∀ x116 : Int32, x116 = Z 11 a108 →
    ∀ x118 : Int32, x118 = Z 13 a108 →
    ∀ x119 : Int32, x119 = x2 * x118 →
    ¬ x3 = 0 ∧
    ∀ x121 : Int32, x121 = x119 / x3 →
    ∀ x122 : Int32, x122 = x116 - x121 →
    ((x5 < x122 →
    v_X8_suspectNow_b164 E x1 x2 x3 x6 x122 x6 Z (fun x1 x2 x3 x4 x5 x6 Z => v_X8_suspectNow_b85 E Q n x1 x2 x3 x4 x5 x6 Z) Q) ∧
    (¬ x5 < x122 →
    v_X8_suspectNow_b164 E x1 x2 x3 x4 x5 x6 Z (fun x1 x2 x3 x4 x5 x6 Z => v_X8_suspectNow_b85 E Q n x1 x2 x3 x4 x5 x6 Z) Q))) ∧
    (x113 = 0 →
    v_X8_suspectNow_b164 E x1 x2 x3 x4 x5 x6 Z (fun x1 x2 x3 x4 x5 x6 Z => v_X8_suspectNow_b85 E Q n x1 x2 x3 x4 x5 x6 Z) Q))))))
set_option maxHeartbeats 1000000 in
theorem u_X8_suspectNow_b85 {Q : Int32 → sT → Prop} {Q' : Int32 → yT → Prop} (hSt : rSt X E P) (hB : E.2.2) (hQ : ∀ x S Z, RC X E S Z → P S → Q' x Z → Q x S)  : ∀ (n : Nat) (x1 : Int32) (x2 : Int32) (x3 : Int32) (x4 : Int32) (x5 : Int32) (x6 : Int32) (S : sT) (Z : yT), RC X E S Z → P S → v_X8_suspectNow_b85 E  Q' n x1 x2 x3 x4 x5 x6 Z → w_X8_suspectNow_b85  Q n (X 0 0) x1 x2 x3 x4 x5 x6 S := by
  intro n
  induction n with
  | zero => intro x1 x2 x3 x4 x5 x6 S Z  hC hP h; exact absurd h id
  | succ n ih =>
    intro x1 x2 x3 x4 x5 x6 S Z  hC hP h
    unfold v_X8_suspectNow_b85 at h
    unfold w_X8_suspectNow_b85
    refine ⟨rK_Mod hC hB, ?_⟩
    refine ⟨_, rF_289 hC hB, ?_⟩
    refine ⟨rK_Wld hC, ?_⟩
    refine ⟨_, rF_257 hC, ?_⟩
    refine ⟨rK_FArr hC, ?_⟩
    intro x103 ex
    replace h := h x103 (ex.trans (congrArg nI (rN_FArr hC)))
    refine ⟨fun c => ?_, fun c => ?_⟩
    · replace h := h.1 c
      exact hQ _ _ _ hC hP h
    · replace h := h.2 c
      refine ⟨_, rF_289 hC hB, ?_⟩
      refine ⟨rK_Wld hC, ?_⟩
      refine ⟨_, rF_257 hC, ?_⟩
      refine ⟨rK_FArr hC, ?_⟩
      obtain ⟨i_x6_E21, h⟩ := h
      refine ⟨(rN_FArr hC).symm ▸ i_x6_E21, ?_⟩
      obtain ⟨a108, ea108, h⟩ := vEx h
      have k_a108 := vp_lk i_x6_E21 ea108
      refine ⟨_, (rP_FArr hC (vp_lt i_x6_E21)).trans (congrArg (fun z => some (X 5 z)) ea108.symm), ?_⟩
      refine ⟨rK_FR hC k_a108, ?_⟩
      refine ⟨(rN_FR hC k_a108).symm ▸ vp_lit0_22, ?_⟩
      intro x110 ex
      replace h := h x110 (ex.trans (rB_FR hC k_a108 q_lit0 (by decide)))
      refine ⟨fun c => ?_, fun c => ?_⟩
      · replace h := h.1 c
        exact u_X8_suspectNow_b164 hSt hB hQ (fun x1 x2 x3 x4 x5 x6 S Z hC hP h => ih x1 x2 x3 x4 x5 x6 _ _ hC hP h) hC hP h
      · replace h := h.2 c
        refine ⟨(rN_FR hC k_a108).symm ▸ vp_lit11_22, ?_⟩
        intro x113 ex
        replace h := h x113 (ex.trans (rB_FR hC k_a108 q_lit11 (by decide)))
        refine ⟨fun c => ?_, fun c => ?_⟩
        · replace h := h.1 c
          refine ⟨(rN_FR hC k_a108).symm ▸ vp_lit11_22, ?_⟩
          intro x116 ex
          replace h := h x116 (ex.trans (rB_FR hC k_a108 q_lit11 (by decide)))
          refine ⟨(rN_FR hC k_a108).symm ▸ vp_lit13_22, ?_⟩
          intro x118 ex
          replace h := h x118 (ex.trans (rB_FR hC k_a108 q_lit13 (by decide)))
          intro x119 ex
          replace h := h x119 ex
          obtain ⟨hn, h⟩ := h
          refine ⟨hn, ?_⟩
          intro x121 ex
          replace h := h x121 ex
          intro x122 ex
          replace h := h x122 ex
          refine ⟨fun c => ?_, fun c => ?_⟩
          · replace h := h.1 c
            exact u_X8_suspectNow_b164 hSt hB hQ (fun x1 x2 x3 x4 x5 x6 S Z hC hP h => ih x1 x2 x3 x4 x5 x6 _ _ hC hP h) hC hP h
          · replace h := h.2 c
            exact u_X8_suspectNow_b164 hSt hB hQ (fun x1 x2 x3 x4 x5 x6 S Z hC hP h => ih x1 x2 x3 x4 x5 x6 _ _ hC hP h) hC hP h
        · replace h := h.2 c
          exact u_X8_suspectNow_b164 hSt hB hQ (fun x1 x2 x3 x4 x5 x6 S Z hC hP h => ih x1 x2 x3 x4 x5 x6 _ _ hC hP h) hC hP h
def v_X8_suspectNow_b70 (E : fT) (x1 : Int32) (x2 : Int32) (x3 : Int32) (x5 : Int32) (x6 : Int32) (Z : yT) (kk21 : Int32 → Int32 → Int32 → Int32 → Int32 → yT → Prop) (Q : Int32 → yT → Prop) : Prop :=
  ∀ x101 : Int32, x101 = x6 + 1 →
  kk21 x1 x2 x3 x5 x101 Z
set_option maxHeartbeats 1000000 in
theorem u_X8_suspectNow_b70 {Q : Int32 → sT → Prop} {Q' : Int32 → yT → Prop} {x1 : Int32} {x2 : Int32} {x3 : Int32} {x5 : Int32} {x6 : Int32} {S : sT} {Z : yT} (hSt : rSt X E P) (hB : E.2.2) (hQ : ∀ x S Z, RC X E S Z → P S → Q' x Z → Q x S) {kk21 : Nat → Int32 → Int32 → Int32 → Nat → Int32 → Int32 → sT → Prop} {kk21' : Int32 → Int32 → Int32 → Int32 → Int32 → yT → Prop} (hkk21 : ∀ (x1 : Int32) (x2 : Int32) (x3 : Int32) (x5 : Int32) (x6 : Int32) S Z, RC X E S Z → P S → kk21' x1 x2 x3 x5 x6 Z → kk21 (X 0 0) x1 x2 x3 (X 3 0) x5 x6 S)  (hC : RC X E S Z) (hP : P S) (h : v_X8_suspectNow_b70 E x1 x2 x3 x5 x6 Z kk21' Q') : w_X8_suspectNow_b70 (X 0 0) x1 x2 x3 (X 3 0) x5 x6 S kk21 Q := by
  unfold v_X8_suspectNow_b70 at h
  unfold w_X8_suspectNow_b70
  intro x101 ex
  replace h := h x101 ex
  exact hkk21 x1 x2 x3 x5 x101 _ _  hC hP h
def v_X8_suspectNow_b21 (E : fT)  (Q : Int32 → yT → Prop) : Nat → Int32 → Int32 → Int32 → Int32 → Int32 → yT → Prop
  | 0 => fun _ _ _ _ _ _ => False
  | n + 1 => fun x1 x2 x3 x5 x6 Z =>
    ((x5 ≤ x6 →
    ∃ n9 : Nat, 
    v_X8_suspectNow_b85 E Q n9 x1 x2 x3 (-1 : Int32) (0 : Int32) (0 : Int32) Z) ∧
    (¬ x5 ≤ x6 →
    vp_in x6 E.2.1 ∧
    ∀ a103 : Nat, a103 = Int32.toNatClampNeg x6 →
    ∀ x105 : Int32, x105 = Z 0 a103 →
    ((¬ x105 = x1 →
    v_X8_suspectNow_b70 E x1 x2 x3 x5 x6 Z (fun x1 x2 x3 x5 x6 Z => v_X8_suspectNow_b21 E Q n x1 x2 x3 x5 x6 Z) Q) ∧
    (x105 = x1 →
    ∀ x108 : Int32, x108 = Z 11 a103 →
    ((¬ x108 = 0 →
    ∀ x111 : Int32, x111 = Z 11 a103 →
    ∀ x112 : Int32, x112 = x2 + x111 →
    ∀ x114 : Int32, x114 = Z 13 a103 →
    ∀ x115 : Int32, x115 = x3 + x114 →
    v_X8_suspectNow_b70 E x1 x112 x115 x5 x6 Z (fun x1 x2 x3 x5 x6 Z => v_X8_suspectNow_b21 E Q n x1 x2 x3 x5 x6 Z) Q) ∧
    (x108 = 0 →
    v_X8_suspectNow_b70 E x1 x2 x3 x5 x6 Z (fun x1 x2 x3 x5 x6 Z => v_X8_suspectNow_b21 E Q n x1 x2 x3 x5 x6 Z) Q))))))
set_option maxHeartbeats 1000000 in
theorem u_X8_suspectNow_b21 {Q : Int32 → sT → Prop} {Q' : Int32 → yT → Prop} (hSt : rSt X E P) (hB : E.2.2) (hQ : ∀ x S Z, RC X E S Z → P S → Q' x Z → Q x S)  : ∀ (n : Nat) (x1 : Int32) (x2 : Int32) (x3 : Int32) (x5 : Int32) (x6 : Int32) (S : sT) (Z : yT), RC X E S Z → P S → v_X8_suspectNow_b21 E  Q' n x1 x2 x3 x5 x6 Z → w_X8_suspectNow_b21  Q n (X 0 0) x1 x2 x3 (X 3 0) x5 x6 S := by
  intro n
  induction n with
  | zero => intro x1 x2 x3 x5 x6 S Z  hC hP h; exact absurd h id
  | succ n ih =>
    intro x1 x2 x3 x5 x6 S Z  hC hP h
    unfold v_X8_suspectNow_b21 at h
    unfold w_X8_suspectNow_b21
    refine ⟨fun c => ?_, fun c => ?_⟩
    · replace h := h.1 c
      obtain ⟨n9, h⟩ := h
      refine ⟨n9, ?_⟩
      exact u_X8_suspectNow_b85 hSt hB hQ n9 x1 x2 x3 (-1 : Int32) (0 : Int32) (0 : Int32) _ _ hC hP h
    · replace h := h.2 c
      refine ⟨rK_FArr hC, ?_⟩
      obtain ⟨i_x6_E21, h⟩ := h
      refine ⟨(rN_FArr hC).symm ▸ i_x6_E21, ?_⟩
      obtain ⟨a103, ea103, h⟩ := vEx h
      have k_a103 := vp_lk i_x6_E21 ea103
      refine ⟨_, (rP_FArr hC (vp_lt i_x6_E21)).trans (congrArg (fun z => some (X 5 z)) ea103.symm), ?_⟩
      refine ⟨rK_FR hC k_a103, ?_⟩
      refine ⟨(rN_FR hC k_a103).symm ▸ vp_lit0_22, ?_⟩
      intro x105 ex
      replace h := h x105 (ex.trans (rB_FR hC k_a103 q_lit0 (by decide)))
      refine ⟨fun c => ?_, fun c => ?_⟩
      · replace h := h.1 c
        exact u_X8_suspectNow_b70 hSt hB hQ (fun x1 x2 x3 x5 x6 S Z hC hP h => ih x1 x2 x3 x5 x6 _ _ hC hP h) hC hP h
      · replace h := h.2 c
        refine ⟨(rN_FR hC k_a103).symm ▸ vp_lit11_22, ?_⟩
        intro x108 ex
        replace h := h x108 (ex.trans (rB_FR hC k_a103 q_lit11 (by decide)))
        refine ⟨fun c => ?_, fun c => ?_⟩
        · replace h := h.1 c
          refine ⟨(rN_FR hC k_a103).symm ▸ vp_lit11_22, ?_⟩
          intro x111 ex
          replace h := h x111 (ex.trans (rB_FR hC k_a103 q_lit11 (by decide)))
          intro x112 ex
          replace h := h x112 ex
          refine ⟨(rN_FR hC k_a103).symm ▸ vp_lit13_22, ?_⟩
          intro x114 ex
          replace h := h x114 (ex.trans (rB_FR hC k_a103 q_lit13 (by decide)))
          intro x115 ex
          replace h := h x115 ex
          exact u_X8_suspectNow_b70 hSt hB hQ (fun x1 x2 x3 x5 x6 S Z hC hP h => ih x1 x2 x3 x5 x6 _ _ hC hP h) hC hP h
        · replace h := h.2 c
          exact u_X8_suspectNow_b70 hSt hB hQ (fun x1 x2 x3 x5 x6 S Z hC hP h => ih x1 x2 x3 x5 x6 _ _ hC hP h) hC hP h
def v_X8_suspectNow_b0 (E : fT) (x1 : Int32) (Z : yT) (Q : Int32 → yT → Prop) : Prop :=
  ∀ x103 : Int32, x103 = nI E.2.1 →
  ∃ n9 : Nat, 
  v_X8_suspectNow_b21 E Q n9 x1 (0 : Int32) (0 : Int32) x103 (0 : Int32) Z
set_option maxHeartbeats 1000000 in
theorem u_X8_suspectNow_b0 {Q : Int32 → sT → Prop} {Q' : Int32 → yT → Prop} {x1 : Int32} {S : sT} {Z : yT} (hSt : rSt X E P) (hB : E.2.2) (hQ : ∀ x S Z, RC X E S Z → P S → Q' x Z → Q x S)   (hC : RC X E S Z) (hP : P S) (h : v_X8_suspectNow_b0 E x1 Z Q') : w_X8_suspectNow_b0 (X 0 0) x1 S Q := by
  unfold v_X8_suspectNow_b0 at h
  unfold w_X8_suspectNow_b0
  refine ⟨rK_Mod hC hB, ?_⟩
  refine ⟨_, rF_289 hC hB, ?_⟩
  refine ⟨rK_Wld hC, ?_⟩
  refine ⟨_, rF_257 hC, ?_⟩
  refine ⟨rK_FArr hC, ?_⟩
  intro x103 ex
  replace h := h x103 (ex.trans (congrArg nI (rN_FArr hC)))
  obtain ⟨n9, h⟩ := h
  refine ⟨n9, ?_⟩
  exact u_X8_suspectNow_b21 hSt hB hQ n9 x1 (0 : Int32) (0 : Int32) x103 (0 : Int32) _ _ hC hP h
def v_X8_suspectNow (E : fT) (x1 : Int32) (Z : yT) (Q : Int32 → yT → Prop) : Prop :=
  v_X8_suspectNow_b0 E x1 Z Q
set_option maxHeartbeats 1000000 in
theorem u_X8_suspectNow {Q : Int32 → sT → Prop} {Q' : Int32 → yT → Prop} {x1 : Int32} {S : sT} {Z : yT} (hSt : rSt X E P) (hB : E.2.2) (hQ : ∀ x S Z, RC X E S Z → P S → Q' x Z → Q x S)   (hC : RC X E S Z) (hP : P S) (h : v_X8_suspectNow E x1 Z Q') : w_X8_suspectNow (X 0 0) x1 S Q := by
  unfold v_X8_suspectNow at h
  unfold w_X8_suspectNow
  exact u_X8_suspectNow_b0 hSt hB hQ hC hP h
def v_X8_suspect_b26 (E : fT) (y0 : Int32) (Z : yT) (Q : Int32 → yT → Prop) : Prop :=
  Q y0 Z
set_option maxHeartbeats 1000000 in
theorem u_X8_suspect_b26 {Q : Int32 → sT → Prop} {Q' : Int32 → yT → Prop} {y0 : Int32} {S : sT} {Z : yT} (hSt : rSt X E P) (hB : E.2.2) (hQ : ∀ x S Z, RC X E S Z → P S → Q' x Z → Q x S)   (hC : RC X E S Z) (hP : P S) (h : v_X8_suspect_b26 E y0 Z Q') : w_X8_suspect_b26 y0 S Q := by
  unfold v_X8_suspect_b26 at h
  unfold w_X8_suspect_b26
  exact hQ _ _ _ hC hP h
def v_X8_suspect_b0 (E : fT) (x1 : Int32) (Z : yT) (Q : Int32 → yT → Prop) : Prop :=
  ∀ Z101 : yT, Z101 = s_up2 Z 80 0 (0 : Int32) →
  v_X8_isSociety E x1 Z101 (fun x103 Z102 =>
  ((x103 = 0 →
  v_X8_refuse E (1 : Int32) Z102 (fun x106 Z105 =>
  v_X8_suspect_b26 E x106 Z105 Q)) ∧
  (¬ x103 = 0 →
  v_X8_suspectNow E x1 Z102 (fun x108 Z107 =>
  v_X8_suspect_b26 E x108 Z107 Q))))
set_option maxHeartbeats 1000000 in
theorem u_X8_suspect_b0 {Q : Int32 → sT → Prop} {Q' : Int32 → yT → Prop} {x1 : Int32} {S : sT} {Z : yT} (hSt : rSt X E P) (hB : E.2.2) (hQ : ∀ x S Z, RC X E S Z → P S → Q' x Z → Q x S)   (hC : RC X E S Z) (hP : P S) (h : v_X8_suspect_b0 E x1 Z Q') : w_X8_suspect_b0 (X 0 0) x1 S Q := by
  unfold v_X8_suspect_b0 at h
  unfold w_X8_suspect_b0
  refine ⟨rK_Mod hC hB, ?_⟩
  intro S101 eS
  obtain ⟨Z101, eZ, h⟩ := vEx h
  replace hC := wI_80 hC hB eS eZ
  replace hP := eS ▸ hSt.2 _ _ hP
  clear eS eZ
  refine u_X8_isSociety hSt hB (fun x103 S102 Z102 hC hP h => ?_) hC hP h
  refine ⟨fun c => ?_, fun c => ?_⟩
  · replace h := h.1 c
    refine ⟨rK_Mod hC hB, ?_⟩
    refine u_X8_refuse hSt hB (fun x106 S105 Z105 hC hP h => ?_) hC hP h
    exact u_X8_suspect_b26 hSt hB hQ hC hP h
  · replace h := h.2 c
    refine ⟨rK_Mod hC hB, ?_⟩
    refine u_X8_suspectNow hSt hB (fun x108 S107 Z107 hC hP h => ?_) hC hP h
    exact u_X8_suspect_b26 hSt hB hQ hC hP h
def v_X8_suspect (E : fT) (x1 : Int32) (Z : yT) (Q : Int32 → yT → Prop) : Prop :=
  v_X8_suspect_b0 E x1 Z Q
set_option maxHeartbeats 1000000 in
theorem u_X8_suspect {Q : Int32 → sT → Prop} {Q' : Int32 → yT → Prop} {x1 : Int32} {S : sT} {Z : yT} (hSt : rSt X E P) (hB : E.2.2) (hQ : ∀ x S Z, RC X E S Z → P S → Q' x Z → Q x S)   (hC : RC X E S Z) (hP : P S) (h : v_X8_suspect E x1 Z Q') : w_X8_suspect (X 0 0) x1 S Q := by
  unfold v_X8_suspect at h
  unfold w_X8_suspect
  exact u_X8_suspect_b0 hSt hB hQ hC hP h
def v_X8_isLong_b0 (E : fT) (x0 : Int32) (Z : yT) (Q : Int32 → yT → Prop) : Prop :=
  v_X8_is E x0 (1 : Int32) (40 : Int32) Z (fun x102 Z101 =>
  (x102 = 0 ∨ x102 = 1) ∧
  Q x102 Z101)
set_option maxHeartbeats 1000000 in
theorem u_X8_isLong_b0 {Q : Int32 → sT → Prop} {Q' : Int32 → yT → Prop} {x0 : Int32} {S : sT} {Z : yT} (hSt : rSt X E P) (hQ : ∀ x S Z, RC X E S Z → P S → Q' x Z → Q x S)   (hC : RC X E S Z) (hP : P S) (h : v_X8_isLong_b0 E x0 Z Q') : w_X8_isLong_b0 x0 S Q := by
  unfold v_X8_isLong_b0 at h
  unfold w_X8_isLong_b0
  refine u_X8_is hSt (fun x102 S101 Z101 hC hP h => ?_) hC hP h
  obtain ⟨hn, h⟩ := h
  refine ⟨hn, ?_⟩
  exact hQ _ _ _ hC hP h
def v_X8_isLong (E : fT) (x0 : Int32) (Z : yT) (Q : Int32 → yT → Prop) : Prop :=
  v_X8_isLong_b0 E x0 Z Q
set_option maxHeartbeats 1000000 in
theorem u_X8_isLong {Q : Int32 → sT → Prop} {Q' : Int32 → yT → Prop} {x0 : Int32} {S : sT} {Z : yT} (hSt : rSt X E P) (hQ : ∀ x S Z, RC X E S Z → P S → Q' x Z → Q x S)   (hC : RC X E S Z) (hP : P S) (h : v_X8_isLong E x0 Z Q') : w_X8_isLong x0 S Q := by
  unfold v_X8_isLong at h
  unfold w_X8_isLong
  exact u_X8_isLong_b0 hSt hQ hC hP h
def v_X8_plantAll_b49 (E : fT) (x1 : Int32) (x2 : Int32) (x3 : Int32) (Z : yT) (kk2 : Int32 → Int32 → Int32 → yT → Prop) (Q : yT → Prop) : Prop :=
  ∀ x101 : Int32, x101 = x3 + 1 →
  kk2 x1 x2 x101 Z
set_option maxHeartbeats 1000000 in
theorem u_X8_plantAll_b49 {Q : sT → Prop} {Q' : yT → Prop} {x1 : Int32} {x2 : Int32} {x3 : Int32} {S : sT} {Z : yT} (hSt : rSt X E P) (hQ : ∀ S Z, RC X E S Z → P S → Q' Z → Q S) {kk2 : Nat → Int32 → Int32 → Int32 → sT → Prop} {kk2' : Int32 → Int32 → Int32 → yT → Prop} (hkk2 : ∀ (x1 : Int32) (x2 : Int32) (x3 : Int32) S Z, RC X E S Z → P S → kk2' x1 x2 x3 Z → kk2 (X 1 0) x1 x2 x3 S)  (hC : RC X E S Z) (hP : P S) (h : v_X8_plantAll_b49 E x1 x2 x3 Z kk2' Q') : w_X8_plantAll_b49 (X 1 0) x1 x2 x3 S kk2 Q := by
  unfold v_X8_plantAll_b49 at h
  unfold w_X8_plantAll_b49
  intro x101 ex
  replace h := h x101 ex
  exact hkk2 x1 x2 x101 _ _  hC hP h
def v_X8_plantAll_b2 (E : fT)  (Q : yT → Prop) : Nat → Int32 → Int32 → Int32 → yT → Prop
  | 0 => fun _ _ _ _ => False
  | n + 1 => fun x1 x2 x3 Z =>
    ∀ x102 : Int32, x102 = nI E.2.1 →
    ((x102 ≤ x3 →
    Q Z) ∧
    (¬ x102 ≤ x3 →
    vp_in x3 E.2.1 ∧
    ∀ a106 : Nat, a106 = Int32.toNatClampNeg x3 →
    ∀ x108 : Int32, x108 = Z 0 a106 →
    ((¬ x108 = x1 →
    v_X8_plantAll_b49 E x1 x2 x3 Z (fun x1 x2 x3 Z => v_X8_plantAll_b2 E Q n x1 x2 x3 Z) Q) ∧
    (x108 = x1 →
    ∀ x111 : Int32, x111 = Z 4 a106 →
    ((x111 ≤ (1 : Int32) →
    v_X7_plant E x3 x2 Z (fun Z113 =>
    ∀ Z115 : yT, Z115 = s_up2 Z113 2 a106 (0 : Int32) →
    v_X8_plantAll_b49 E x1 x2 x3 Z115 (fun x1 x2 x3 Z => v_X8_plantAll_b2 E Q n x1 x2 x3 Z) Q)) ∧
    (¬ x111 ≤ (1 : Int32) →
    v_X8_plantAll_b49 E x1 x2 x3 Z (fun x1 x2 x3 Z => v_X8_plantAll_b2 E Q n x1 x2 x3 Z) Q))))))
set_option maxHeartbeats 1000000 in
theorem u_X8_plantAll_b2 {Q : sT → Prop} {Q' : yT → Prop} (hSt : rSt X E P) (hQ : ∀ S Z, RC X E S Z → P S → Q' Z → Q S)  : ∀ (n : Nat) (x1 : Int32) (x2 : Int32) (x3 : Int32) (S : sT) (Z : yT), RC X E S Z → P S → v_X8_plantAll_b2 E  Q' n x1 x2 x3 Z → w_X8_plantAll_b2  Q n (X 1 0) x1 x2 x3 S := by
  intro n
  induction n with
  | zero => intro x1 x2 x3 S Z  hC hP h; exact absurd h id
  | succ n ih =>
    intro x1 x2 x3 S Z  hC hP h
    unfold v_X8_plantAll_b2 at h
    unfold w_X8_plantAll_b2
    refine ⟨rK_Wld hC, ?_⟩
    refine ⟨_, rF_257 hC, ?_⟩
    refine ⟨rK_FArr hC, ?_⟩
    intro x102 ex
    replace h := h x102 (ex.trans (congrArg nI (rN_FArr hC)))
    refine ⟨fun c => ?_, fun c => ?_⟩
    · replace h := h.1 c
      exact hQ _ _ hC hP h
    · replace h := h.2 c
      refine ⟨_, rF_257 hC, ?_⟩
      refine ⟨rK_FArr hC, ?_⟩
      obtain ⟨i_x3_E21, h⟩ := h
      refine ⟨(rN_FArr hC).symm ▸ i_x3_E21, ?_⟩
      obtain ⟨a106, ea106, h⟩ := vEx h
      have k_a106 := vp_lk i_x3_E21 ea106
      refine ⟨_, (rP_FArr hC (vp_lt i_x3_E21)).trans (congrArg (fun z => some (X 5 z)) ea106.symm), ?_⟩
      refine ⟨rK_FR hC k_a106, ?_⟩
      refine ⟨(rN_FR hC k_a106).symm ▸ vp_lit0_22, ?_⟩
      intro x108 ex
      replace h := h x108 (ex.trans (rB_FR hC k_a106 q_lit0 (by decide)))
      refine ⟨fun c => ?_, fun c => ?_⟩
      · replace h := h.1 c
        exact u_X8_plantAll_b49 hSt hQ (fun x1 x2 x3 S Z hC hP h => ih x1 x2 x3 _ _ hC hP h) hC hP h
      · replace h := h.2 c
        refine ⟨(rN_FR hC k_a106).symm ▸ vp_lit4_22, ?_⟩
        intro x111 ex
        replace h := h x111 (ex.trans (rB_FR hC k_a106 q_lit4 (by decide)))
        refine ⟨fun c => ?_, fun c => ?_⟩
        · replace h := h.1 c
          refine u_X7_plant hSt (fun S113 Z113 hC hP h => ?_) hC hP h
          refine ⟨rK_FR hC k_a106, ?_⟩
          refine ⟨(rN_FR hC k_a106).symm ▸ vp_lit2_22, ?_⟩
          intro S115 eS
          obtain ⟨Z115, eZ, h⟩ := vEx h
          replace hC := wB_FR hC k_a106 q_lit2 (by decide) eS eZ
          replace hP := eS ▸ hSt.1 _ 5 a106 _ _ (Or.inr (Or.inl ⟨rfl, k_a106⟩)) hP
          clear eS eZ
          exact u_X8_plantAll_b49 hSt hQ (fun x1 x2 x3 S Z hC hP h => ih x1 x2 x3 _ _ hC hP h) hC hP h
        · replace h := h.2 c
          exact u_X8_plantAll_b49 hSt hQ (fun x1 x2 x3 S Z hC hP h => ih x1 x2 x3 _ _ hC hP h) hC hP h
def v_X8_plantAll_b0 (E : fT) (x1 : Int32) (x2 : Int32) (Z : yT) (Q : yT → Prop) : Prop :=
  ∃ n9 : Nat, 
  v_X8_plantAll_b2 E Q n9 x1 x2 (0 : Int32) Z
set_option maxHeartbeats 1000000 in
theorem u_X8_plantAll_b0 {Q : sT → Prop} {Q' : yT → Prop} {x1 : Int32} {x2 : Int32} {S : sT} {Z : yT} (hSt : rSt X E P) (hQ : ∀ S Z, RC X E S Z → P S → Q' Z → Q S)   (hC : RC X E S Z) (hP : P S) (h : v_X8_plantAll_b0 E x1 x2 Z Q') : w_X8_plantAll_b0 (X 1 0) x1 x2 S Q := by
  unfold v_X8_plantAll_b0 at h
  unfold w_X8_plantAll_b0
  obtain ⟨n9, h⟩ := h
  refine ⟨n9, ?_⟩
  exact u_X8_plantAll_b2 hSt hQ n9 x1 x2 (0 : Int32) _ _ hC hP h
def v_X8_plantAll (E : fT) (x1 : Int32) (x2 : Int32) (Z : yT) (Q : yT → Prop) : Prop :=
  v_X8_plantAll_b0 E x1 x2 Z Q
set_option maxHeartbeats 1000000 in
theorem u_X8_plantAll {Q : sT → Prop} {Q' : yT → Prop} {x1 : Int32} {x2 : Int32} {S : sT} {Z : yT} (hSt : rSt X E P) (hQ : ∀ S Z, RC X E S Z → P S → Q' Z → Q S)   (hC : RC X E S Z) (hP : P S) (h : v_X8_plantAll E x1 x2 Z Q') : w_X8_plantAll (X 1 0) x1 x2 S Q := by
  unfold v_X8_plantAll at h
  unfold w_X8_plantAll
  exact u_X8_plantAll_b0 hSt hQ hC hP h
def v_X8_size_b44 (E : fT) (x1 : Int32) (x4 : Int32) (x5 : Int32) (y0 : Int32) (y1 : Int32) (Z : yT) (kk17 : Int32 → Int32 → Int32 → Int32 → yT → Prop) (Q : Int32 → yT → Prop) : Prop :=
  ∀ x101 : Int32, x101 = y1 + y0 →
  ∀ x102 : Int32, x102 = x5 + 1 →
  kk17 x1 x101 x4 x102 Z
set_option maxHeartbeats 1000000 in
theorem u_X8_size_b44 {Q : Int32 → sT → Prop} {Q' : Int32 → yT → Prop} {x1 : Int32} {x4 : Int32} {x5 : Int32} {y0 : Int32} {y1 : Int32} {S : sT} {Z : yT} (hSt : rSt X E P) (hB : E.2.2) (hQ : ∀ x S Z, RC X E S Z → P S → Q' x Z → Q x S) {kk17 : Int32 → Int32 → Nat → Int32 → Int32 → sT → Prop} {kk17' : Int32 → Int32 → Int32 → Int32 → yT → Prop} (hkk17 : ∀ (x1 : Int32) (x2 : Int32) (x4 : Int32) (x5 : Int32) S Z, RC X E S Z → P S → kk17' x1 x2 x4 x5 Z → kk17 x1 x2 (X 3 0) x4 x5 S)  (hC : RC X E S Z) (hP : P S) (h : v_X8_size_b44 E x1 x4 x5 y0 y1 Z kk17' Q') : w_X8_size_b44 x1 (X 3 0) x4 x5 y0 y1 S kk17 Q := by
  unfold v_X8_size_b44 at h
  unfold w_X8_size_b44
  intro x101 ex
  replace h := h x101 ex
  intro x102 ex
  replace h := h x102 ex
  exact hkk17 x1 x101 x4 x102 _ _  hC hP h
def v_X8_size_b17 (E : fT)  (Q : Int32 → yT → Prop) : Nat → Int32 → Int32 → Int32 → Int32 → yT → Prop
  | 0 => fun _ _ _ _ _ => False
  | n + 1 => fun x1 x2 x4 x5 Z =>
    ((x4 ≤ x5 →
    Q x2 Z) ∧
    (¬ x4 ≤ x5 →
    vp_in x5 E.2.1 ∧
    ∀ a103 : Nat, a103 = Int32.toNatClampNeg x5 →
    ∀ x105 : Int32, x105 = Z 0 a103 →
    ((¬ x105 = x1 →
    v_X8_size_b44 E x1 x4 x5 (0 : Int32) x2 Z (fun x1 x2 x4 x5 Z => v_X8_size_b17 E Q n x1 x2 x4 x5 Z) Q) ∧
    (x105 = x1 →
    v_X8_size_b44 E x1 x4 x5 (1 : Int32) x2 Z (fun x1 x2 x4 x5 Z => v_X8_size_b17 E Q n x1 x2 x4 x5 Z) Q))))
set_option maxHeartbeats 1000000 in
theorem u_X8_size_b17 {Q : Int32 → sT → Prop} {Q' : Int32 → yT → Prop} (hSt : rSt X E P) (hB : E.2.2) (hQ : ∀ x S Z, RC X E S Z → P S → Q' x Z → Q x S)  : ∀ (n : Nat) (x1 : Int32) (x2 : Int32) (x4 : Int32) (x5 : Int32) (S : sT) (Z : yT), RC X E S Z → P S → v_X8_size_b17 E  Q' n x1 x2 x4 x5 Z → w_X8_size_b17  Q n x1 x2 (X 3 0) x4 x5 S := by
  intro n
  induction n with
  | zero => intro x1 x2 x4 x5 S Z  hC hP h; exact absurd h id
  | succ n ih =>
    intro x1 x2 x4 x5 S Z  hC hP h
    unfold v_X8_size_b17 at h
    unfold w_X8_size_b17
    refine ⟨fun c => ?_, fun c => ?_⟩
    · replace h := h.1 c
      exact hQ _ _ _ hC hP h
    · replace h := h.2 c
      refine ⟨rK_FArr hC, ?_⟩
      obtain ⟨i_x5_E21, h⟩ := h
      refine ⟨(rN_FArr hC).symm ▸ i_x5_E21, ?_⟩
      obtain ⟨a103, ea103, h⟩ := vEx h
      have k_a103 := vp_lk i_x5_E21 ea103
      refine ⟨_, (rP_FArr hC (vp_lt i_x5_E21)).trans (congrArg (fun z => some (X 5 z)) ea103.symm), ?_⟩
      refine ⟨rK_FR hC k_a103, ?_⟩
      refine ⟨(rN_FR hC k_a103).symm ▸ vp_lit0_22, ?_⟩
      intro x105 ex
      replace h := h x105 (ex.trans (rB_FR hC k_a103 q_lit0 (by decide)))
      refine ⟨fun c => ?_, fun c => ?_⟩
      · replace h := h.1 c
        exact u_X8_size_b44 hSt hB hQ (fun x1 x2 x4 x5 S Z hC hP h => ih x1 x2 x4 x5 _ _ hC hP h) hC hP h
      · replace h := h.2 c
        exact u_X8_size_b44 hSt hB hQ (fun x1 x2 x4 x5 S Z hC hP h => ih x1 x2 x4 x5 _ _ hC hP h) hC hP h
def v_X8_size_b0 (E : fT) (x1 : Int32) (Z : yT) (Q : Int32 → yT → Prop) : Prop :=
  ∀ x103 : Int32, x103 = nI E.2.1 →
  ∃ n9 : Nat, 
  v_X8_size_b17 E Q n9 x1 (0 : Int32) x103 (0 : Int32) Z
set_option maxHeartbeats 1000000 in
theorem u_X8_size_b0 {Q : Int32 → sT → Prop} {Q' : Int32 → yT → Prop} {x1 : Int32} {S : sT} {Z : yT} (hSt : rSt X E P) (hB : E.2.2) (hQ : ∀ x S Z, RC X E S Z → P S → Q' x Z → Q x S)   (hC : RC X E S Z) (hP : P S) (h : v_X8_size_b0 E x1 Z Q') : w_X8_size_b0 (X 0 0) x1 S Q := by
  unfold v_X8_size_b0 at h
  unfold w_X8_size_b0
  refine ⟨rK_Mod hC hB, ?_⟩
  refine ⟨_, rF_289 hC hB, ?_⟩
  refine ⟨rK_Wld hC, ?_⟩
  refine ⟨_, rF_257 hC, ?_⟩
  refine ⟨rK_FArr hC, ?_⟩
  intro x103 ex
  replace h := h x103 (ex.trans (congrArg nI (rN_FArr hC)))
  obtain ⟨n9, h⟩ := h
  refine ⟨n9, ?_⟩
  exact u_X8_size_b17 hSt hB hQ n9 x1 (0 : Int32) x103 (0 : Int32) _ _ hC hP h
def v_X8_size (E : fT) (x1 : Int32) (Z : yT) (Q : Int32 → yT → Prop) : Prop :=
  v_X8_size_b0 E x1 Z Q
set_option maxHeartbeats 1000000 in
theorem u_X8_size {Q : Int32 → sT → Prop} {Q' : Int32 → yT → Prop} {x1 : Int32} {S : sT} {Z : yT} (hSt : rSt X E P) (hB : E.2.2) (hQ : ∀ x S Z, RC X E S Z → P S → Q' x Z → Q x S)   (hC : RC X E S Z) (hP : P S) (h : v_X8_size E x1 Z Q') : w_X8_size (X 0 0) x1 S Q := by
  unfold v_X8_size at h
  unfold w_X8_size
  exact u_X8_size_b0 hSt hB hQ hC hP h
def v_X8_rate_b30 (E : fT) (y0 : Int32) (Z : yT) (Q : Int32 → yT → Prop) : Prop :=
  Q y0 Z
set_option maxHeartbeats 1000000 in
theorem u_X8_rate_b30 {Q : Int32 → sT → Prop} {Q' : Int32 → yT → Prop} {y0 : Int32} {S : sT} {Z : yT} (hSt : rSt X E P) (hB : E.2.2) (hQ : ∀ x S Z, RC X E S Z → P S → Q' x Z → Q x S)   (hC : RC X E S Z) (hP : P S) (h : v_X8_rate_b30 E y0 Z Q') : w_X8_rate_b30 y0 S Q := by
  unfold v_X8_rate_b30 at h
  unfold w_X8_rate_b30
  exact hQ _ _ _ hC hP h
def v_X8_rate_b0 (E : fT) (x1 : Int32) (Z : yT) (Q : Int32 → yT → Prop) : Prop :=
  v_X8_size E x1 Z (fun x102 Z101 =>
  ((¬ x102 = 0 →
  vp_in x1 E.1 ∧
  ∀ a107 : Nat, a107 = Int32.toNatClampNeg x1 →
  ∀ x109 : Int32, x109 = Z101 40 a107 →
  v_X8_size E x1 Z101 (fun x111 Z110 =>
  ¬ x111 = 0 ∧
  ∀ x113 : Int32, x113 = x109 / x111 →
  v_X8_rate_b30 E x113 Z110 Q)) ∧
  (x102 = 0 →
  v_X8_rate_b30 E (0 : Int32) Z101 Q)))
set_option maxHeartbeats 1000000 in
theorem u_X8_rate_b0 {Q : Int32 → sT → Prop} {Q' : Int32 → yT → Prop} {x1 : Int32} {S : sT} {Z : yT} (hSt : rSt X E P) (hB : E.2.2) (hQ : ∀ x S Z, RC X E S Z → P S → Q' x Z → Q x S)   (hC : RC X E S Z) (hP : P S) (h : v_X8_rate_b0 E x1 Z Q') : w_X8_rate_b0 (X 0 0) x1 S Q := by
  unfold v_X8_rate_b0 at h
  unfold w_X8_rate_b0
  refine ⟨rK_Mod hC hB, ?_⟩
  refine u_X8_size hSt hB (fun x102 S101 Z101 hC hP h => ?_) hC hP h
  refine ⟨fun c => ?_, fun c => ?_⟩
  · replace h := h.1 c
    refine ⟨rK_Mod hC hB, ?_⟩
    refine ⟨_, rF_289 hC hB, ?_⟩
    refine ⟨rK_Wld hC, ?_⟩
    refine ⟨_, rF_256 hC, ?_⟩
    refine ⟨rK_SArr hC, ?_⟩
    obtain ⟨i_x1_E1, h⟩ := h
    refine ⟨(rN_SArr hC).symm ▸ i_x1_E1, ?_⟩
    obtain ⟨a107, ea107, h⟩ := vEx h
    have k_a107 := vp_lk i_x1_E1 ea107
    refine ⟨_, (rP_SArr hC (vp_lt i_x1_E1)).trans (congrArg (fun z => some (X 4 z)) ea107.symm), ?_⟩
    refine ⟨rK_SR hC k_a107, ?_⟩
    refine ⟨(rN_SR hC k_a107).symm ▸ vp_lit8_10, ?_⟩
    intro x109 ex
    replace h := h x109 (ex.trans (rB_SR hC k_a107 q_lit8 (by decide)))
    refine u_X8_size hSt hB (fun x111 S110 Z110 hC hP h => ?_) hC hP h
    obtain ⟨hn, h⟩ := h
    refine ⟨hn, ?_⟩
    intro x113 ex
    replace h := h x113 ex
    exact u_X8_rate_b30 hSt hB hQ hC hP h
  · replace h := h.2 c
    exact u_X8_rate_b30 hSt hB hQ hC hP h
def v_X8_rate (E : fT) (x1 : Int32) (Z : yT) (Q : Int32 → yT → Prop) : Prop :=
  v_X8_rate_b0 E x1 Z Q
set_option maxHeartbeats 1000000 in
theorem u_X8_rate {Q : Int32 → sT → Prop} {Q' : Int32 → yT → Prop} {x1 : Int32} {S : sT} {Z : yT} (hSt : rSt X E P) (hB : E.2.2) (hQ : ∀ x S Z, RC X E S Z → P S → Q' x Z → Q x S)   (hC : RC X E S Z) (hP : P S) (h : v_X8_rate E x1 Z Q') : w_X8_rate (X 0 0) x1 S Q := by
  unfold v_X8_rate at h
  unfold w_X8_rate
  exact u_X8_rate_b0 hSt hB hQ hC hP h
def v_X8_vote_b60 (E : fT) (x1 : Int32) (x2 : Int32) (x3 : Int32) (Z : yT) (kk25 : Int32 → Int32 → Int32 → yT → Prop) (Q : Int32 → yT → Prop) : Prop :=
  ∀ x101 : Int32, x101 = x3 + 2 →
  kk25 x1 x2 x101 Z
set_option maxHeartbeats 1000000 in
theorem u_X8_vote_b60 {Q : Int32 → sT → Prop} {Q' : Int32 → yT → Prop} {x1 : Int32} {x2 : Int32} {x3 : Int32} {S : sT} {Z : yT} (hSt : rSt X E P) (hB : E.2.2) (hQ : ∀ x S Z, RC X E S Z → P S → Q' x Z → Q x S) {kk25 : Nat → Int32 → Int32 → Int32 → sT → Prop} {kk25' : Int32 → Int32 → Int32 → yT → Prop} (hkk25 : ∀ (x1 : Int32) (x2 : Int32) (x3 : Int32) S Z, RC X E S Z → P S → kk25' x1 x2 x3 Z → kk25 (X 0 0) x1 x2 x3 S)  (hC : RC X E S Z) (hP : P S) (h : v_X8_vote_b60 E x1 x2 x3 Z kk25' Q') : w_X8_vote_b60 (X 0 0) x1 x2 x3 S kk25 Q := by
  unfold v_X8_vote_b60 at h
  unfold w_X8_vote_b60
  intro x101 ex
  replace h := h x101 ex
  exact hkk25 x1 x2 x101 _ _  hC hP h
def v_X8_vote_b58 (E : fT) (x1 : Int32) (x3 : Int32) (Z : yT) (kk25 : Int32 → Int32 → Int32 → yT → Prop) (Q : Int32 → yT → Prop) : Prop :=
  v_X8_vote_b60 E x1 x3 x3 Z kk25 Q
set_option maxHeartbeats 1000000 in
theorem u_X8_vote_b58 {Q : Int32 → sT → Prop} {Q' : Int32 → yT → Prop} {x1 : Int32} {x3 : Int32} {S : sT} {Z : yT} (hSt : rSt X E P) (hB : E.2.2) (hQ : ∀ x S Z, RC X E S Z → P S → Q' x Z → Q x S) {kk25 : Nat → Int32 → Int32 → Int32 → sT → Prop} {kk25' : Int32 → Int32 → Int32 → yT → Prop} (hkk25 : ∀ (x1 : Int32) (x2 : Int32) (x3 : Int32) S Z, RC X E S Z → P S → kk25' x1 x2 x3 Z → kk25 (X 0 0) x1 x2 x3 S)  (hC : RC X E S Z) (hP : P S) (h : v_X8_vote_b58 E x1 x3 Z kk25' Q') : w_X8_vote_b58 (X 0 0) x1 x3 S kk25 Q := by
  unfold v_X8_vote_b58 at h
  unfold w_X8_vote_b58
  exact u_X8_vote_b60 hSt hB hQ hkk25 hC hP h
def v_X8_vote_b209 (E : fT) (x1 : Int32) (x3 : Int32) (Z : yT) (Q : Int32 → yT → Prop) : Prop :=
  vp_in x1 E.1 ∧
  ∀ a104 : Nat, a104 = Int32.toNatClampNeg x1 →
  ∀ Z106 : yT, Z106 = s_up2 Z 40 a104 (0 : Int32) →
  Q x3 Z106
set_option maxHeartbeats 1000000 in
theorem u_X8_vote_b209 {Q : Int32 → sT → Prop} {Q' : Int32 → yT → Prop} {x1 : Int32} {x3 : Int32} {S : sT} {Z : yT} (hSt : rSt X E P) (hB : E.2.2) (hQ : ∀ x S Z, RC X E S Z → P S → Q' x Z → Q x S)   (hC : RC X E S Z) (hP : P S) (h : v_X8_vote_b209 E x1 x3 Z Q') : w_X8_vote_b209 (X 0 0) x1 x3 S Q := by
  unfold v_X8_vote_b209 at h
  unfold w_X8_vote_b209
  refine ⟨rK_Mod hC hB, ?_⟩
  refine ⟨_, rF_289 hC hB, ?_⟩
  refine ⟨rK_Wld hC, ?_⟩
  refine ⟨_, rF_256 hC, ?_⟩
  refine ⟨rK_SArr hC, ?_⟩
  obtain ⟨i_x1_E1, h⟩ := h
  refine ⟨(rN_SArr hC).symm ▸ i_x1_E1, ?_⟩
  obtain ⟨a104, ea104, h⟩ := vEx h
  have k_a104 := vp_lk i_x1_E1 ea104
  refine ⟨_, (rP_SArr hC (vp_lt i_x1_E1)).trans (congrArg (fun z => some (X 4 z)) ea104.symm), ?_⟩
  refine ⟨rK_SR hC k_a104, ?_⟩
  refine ⟨(rN_SR hC k_a104).symm ▸ vp_lit8_10, ?_⟩
  intro S106 eS
  obtain ⟨Z106, eZ, h⟩ := vEx h
  replace hC := wB_SR hC k_a104 q_lit8 (by decide) eS eZ
  replace hP := eS ▸ hSt.1 _ 4 a104 _ _ (Or.inl ⟨rfl, k_a104⟩) hP
  clear eS eZ
  exact hQ _ _ _ hC hP h
def v_X8_vote_b141 (E : fT) (x1 : Int32) (x2 : Int32) (x5 : Int32) (x6 : Int32) (y0 : Int32) (y1 : Int32) (Z : yT) (kk85 : Int32 → Int32 → Int32 → Int32 → Int32 → yT → Prop) (Q : Int32 → yT → Prop) : Prop :=
  ∀ x101 : Int32, x101 = y1 + y0 →
  ∀ x102 : Int32, x102 = x6 + 1 →
  kk85 x1 x2 x101 x5 x102 Z
set_option maxHeartbeats 1000000 in
theorem u_X8_vote_b141 {Q : Int32 → sT → Prop} {Q' : Int32 → yT → Prop} {x1 : Int32} {x2 : Int32} {x5 : Int32} {x6 : Int32} {y0 : Int32} {y1 : Int32} {S : sT} {Z : yT} (hSt : rSt X E P) (hB : E.2.2) (hQ : ∀ x S Z, RC X E S Z → P S → Q' x Z → Q x S) {kk85 : Nat → Int32 → Int32 → Int32 → Nat → Int32 → Int32 → sT → Prop} {kk85' : Int32 → Int32 → Int32 → Int32 → Int32 → yT → Prop} (hkk85 : ∀ (x1 : Int32) (x2 : Int32) (x3 : Int32) (x5 : Int32) (x6 : Int32) S Z, RC X E S Z → P S → kk85' x1 x2 x3 x5 x6 Z → kk85 (X 0 0) x1 x2 x3 (X 3 0) x5 x6 S)  (hC : RC X E S Z) (hP : P S) (h : v_X8_vote_b141 E x1 x2 x5 x6 y0 y1 Z kk85' Q') : w_X8_vote_b141 (X 0 0) x1 x2 (X 3 0) x5 x6 y0 y1 S kk85 Q := by
  unfold v_X8_vote_b141 at h
  unfold w_X8_vote_b141
  intro x101 ex
  replace h := h x101 ex
  intro x102 ex
  replace h := h x102 ex
  exact hkk85 x1 x2 x101 x5 x102 _ _  hC hP h
def v_X8_vote_b140 (E : fT) (x1 : Int32) (x2 : Int32) (x5 : Int32) (x6 : Int32) (y0 : Int32) (Z : yT) (kk85 : Int32 → Int32 → Int32 → Int32 → Int32 → yT → Prop) (Q : Int32 → yT → Prop) : Prop :=
  v_X8_vote_b141 E x1 x2 x5 x6 (0 : Int32) y0 Z kk85 Q
set_option maxHeartbeats 1000000 in
theorem u_X8_vote_b140 {Q : Int32 → sT → Prop} {Q' : Int32 → yT → Prop} {x1 : Int32} {x2 : Int32} {x5 : Int32} {x6 : Int32} {y0 : Int32} {S : sT} {Z : yT} (hSt : rSt X E P) (hB : E.2.2) (hQ : ∀ x S Z, RC X E S Z → P S → Q' x Z → Q x S) {kk85 : Nat → Int32 → Int32 → Int32 → Nat → Int32 → Int32 → sT → Prop} {kk85' : Int32 → Int32 → Int32 → Int32 → Int32 → yT → Prop} (hkk85 : ∀ (x1 : Int32) (x2 : Int32) (x3 : Int32) (x5 : Int32) (x6 : Int32) S Z, RC X E S Z → P S → kk85' x1 x2 x3 x5 x6 Z → kk85 (X 0 0) x1 x2 x3 (X 3 0) x5 x6 S)  (hC : RC X E S Z) (hP : P S) (h : v_X8_vote_b140 E x1 x2 x5 x6 y0 Z kk85' Q') : w_X8_vote_b140 (X 0 0) x1 x2 (X 3 0) x5 x6 y0 S kk85 Q := by
  unfold v_X8_vote_b140 at h
  unfold w_X8_vote_b140
  exact u_X8_vote_b141 hSt hB hQ hkk85 hC hP h
def v_X8_vote_b136 (E : fT) (x1 : Int32) (x2 : Int32) (x5 : Int32) (x6 : Int32) (y0 : Int32) (Z : yT) (kk85 : Int32 → Int32 → Int32 → Int32 → Int32 → yT → Prop) (Q : Int32 → yT → Prop) : Prop :=
  v_X8_vote_b141 E x1 x2 x5 x6 (1 : Int32) y0 Z kk85 Q
set_option maxHeartbeats 1000000 in
theorem u_X8_vote_b136 {Q : Int32 → sT → Prop} {Q' : Int32 → yT → Prop} {x1 : Int32} {x2 : Int32} {x5 : Int32} {x6 : Int32} {y0 : Int32} {S : sT} {Z : yT} (hSt : rSt X E P) (hB : E.2.2) (hQ : ∀ x S Z, RC X E S Z → P S → Q' x Z → Q x S) {kk85 : Nat → Int32 → Int32 → Int32 → Nat → Int32 → Int32 → sT → Prop} {kk85' : Int32 → Int32 → Int32 → Int32 → Int32 → yT → Prop} (hkk85 : ∀ (x1 : Int32) (x2 : Int32) (x3 : Int32) (x5 : Int32) (x6 : Int32) S Z, RC X E S Z → P S → kk85' x1 x2 x3 x5 x6 Z → kk85 (X 0 0) x1 x2 x3 (X 3 0) x5 x6 S)  (hC : RC X E S Z) (hP : P S) (h : v_X8_vote_b136 E x1 x2 x5 x6 y0 Z kk85' Q') : w_X8_vote_b136 (X 0 0) x1 x2 (X 3 0) x5 x6 y0 S kk85 Q := by
  unfold v_X8_vote_b136 at h
  unfold w_X8_vote_b136
  exact u_X8_vote_b141 hSt hB hQ hkk85 hC hP h
def v_X8_vote_b85 (E : fT)  (Q : Int32 → yT → Prop) : Nat → Int32 → Int32 → Int32 → Int32 → Int32 → yT → Prop
  | 0 => fun _ _ _ _ _ _ => False
  | n + 1 => fun x1 x2 x3 x5 x6 Z =>
    ((x5 ≤ x6 →
    ∀ x102 : Int32, x102 = (2 : Int32) * x3 →
    v_X8_size E x1 Z (fun x104 Z103 =>
    ((x102 ≤ x104 →
    v_X8_vote_b209 E x1 x3 Z103 Q) ∧
    (¬ x102 ≤ x104 →
    ((x2 = (-1 : Int32) →
    v_X8_vote_b209 E x1 x3 Z103 Q) ∧
    (¬ x2 = (-1 : Int32) →
    vp_in x1 E.1 ∧
    ∀ a110 : Nat, a110 = Int32.toNatClampNeg x1 →
    vp_in x2 E.1 ∧
    ∀ a114 : Nat, a114 = Int32.toNatClampNeg x2 →
    ∀ x116 : Int32, x116 = Z103 34 a114 →
    ∀ Z118 : yT, Z118 = s_up2 Z103 34 a110 x116 →
    vp_in x1 E.1 ∧
    ∀ a122 : Nat, a122 = Int32.toNatClampNeg x1 →
    vp_in x2 E.1 ∧
    ∀ a126 : Nat, a126 = Int32.toNatClampNeg x2 →
    ∀ x128 : Int32, x128 = Z118 35 a126 →
    ∀ Z130 : yT, Z130 = s_up2 Z118 35 a122 x128 →
    v_X8_vote_b209 E x1 x3 Z130 Q)))))) ∧
    (¬ x5 ≤ x6 →
    vp_in x6 E.2.1 ∧
    ∀ a132 : Nat, a132 = Int32.toNatClampNeg x6 →
    ∀ x134 : Int32, x134 = Z 0 a132 →
    ((¬ x134 = x1 →
    v_X8_vote_b140 E x1 x2 x5 x6 x3 Z (fun x1 x2 x3 x5 x6 Z => v_X8_vote_b85 E Q n x1 x2 x3 x5 x6 Z) Q) ∧
    (x134 = x1 →
    ∀ x137 : Int32, x137 = Z 8 a132 →
    (((30 : Int32) < x137 →
    v_X8_vote_b136 E x1 x2 x5 x6 x3 Z (fun x1 x2 x3 x5 x6 Z => v_X8_vote_b85 E Q n x1 x2 x3 x5 x6 Z) Q) ∧
    (¬ (30 : Int32) < x137 →
    ((x2 = (-1 : Int32) →
    v_X8_vote_b140 E x1 x2 x5 x6 x3 Z (fun x1 x2 x3 x5 x6 Z => v_X8_vote_b85 E Q n x1 x2 x3 x5 x6 Z) Q) ∧
    (¬ x2 = (-1 : Int32) →
    v_X8_rate E x2 Z (fun x141 Z140 =>
    v_X8_rate E x1 Z140 (fun x143 Z142 =>
    ((x141 ≤ x143 →
    v_X8_vote_b140 E x1 x2 x5 x6 x3 Z142 (fun x1 x2 x3 x5 x6 Z => v_X8_vote_b85 E Q n x1 x2 x3 x5 x6 Z) Q) ∧
    (¬ x141 ≤ x143 →
    v_X8_vote_b136 E x1 x2 x5 x6 x3 Z142 (fun x1 x2 x3 x5 x6 Z => v_X8_vote_b85 E Q n x1 x2 x3 x5 x6 Z) Q))))))))))))
set_option maxHeartbeats 1000000 in
theorem u_X8_vote_b85 {Q : Int32 → sT → Prop} {Q' : Int32 → yT → Prop} (hSt : rSt X E P) (hB : E.2.2) (hQ : ∀ x S Z, RC X E S Z → P S → Q' x Z → Q x S)  : ∀ (n : Nat) (x1 : Int32) (x2 : Int32) (x3 : Int32) (x5 : Int32) (x6 : Int32) (S : sT) (Z : yT), RC X E S Z → P S → v_X8_vote_b85 E  Q' n x1 x2 x3 x5 x6 Z → w_X8_vote_b85  Q n (X 0 0) x1 x2 x3 (X 3 0) x5 x6 S := by
  intro n
  induction n with
  | zero => intro x1 x2 x3 x5 x6 S Z  hC hP h; exact absurd h id
  | succ n ih =>
    intro x1 x2 x3 x5 x6 S Z  hC hP h
    unfold v_X8_vote_b85 at h
    unfold w_X8_vote_b85
    refine ⟨fun c => ?_, fun c => ?_⟩
    · replace h := h.1 c
      intro x102 ex
      replace h := h x102 ex
      refine ⟨rK_Mod hC hB, ?_⟩
      refine u_X8_size hSt hB (fun x104 S103 Z103 hC hP h => ?_) hC hP h
      refine ⟨fun c => ?_, fun c => ?_⟩
      · replace h := h.1 c
        exact u_X8_vote_b209 hSt hB hQ hC hP h
      · replace h := h.2 c
        refine ⟨fun c => ?_, fun c => ?_⟩
        · replace h := h.1 c
          exact u_X8_vote_b209 hSt hB hQ hC hP h
        · replace h := h.2 c
          refine ⟨rK_Mod hC hB, ?_⟩
          refine ⟨_, rF_289 hC hB, ?_⟩
          refine ⟨rK_Wld hC, ?_⟩
          refine ⟨_, rF_256 hC, ?_⟩
          refine ⟨rK_SArr hC, ?_⟩
          obtain ⟨i_x1_E1, h⟩ := h
          refine ⟨(rN_SArr hC).symm ▸ i_x1_E1, ?_⟩
          obtain ⟨a110, ea110, h⟩ := vEx h
          have k_a110 := vp_lk i_x1_E1 ea110
          refine ⟨_, (rP_SArr hC (vp_lt i_x1_E1)).trans (congrArg (fun z => some (X 4 z)) ea110.symm), ?_⟩
          refine ⟨_, rF_289 hC hB, ?_⟩
          refine ⟨rK_Wld hC, ?_⟩
          refine ⟨_, rF_256 hC, ?_⟩
          refine ⟨rK_SArr hC, ?_⟩
          obtain ⟨i_x2_E1, h⟩ := h
          refine ⟨(rN_SArr hC).symm ▸ i_x2_E1, ?_⟩
          obtain ⟨a114, ea114, h⟩ := vEx h
          have k_a114 := vp_lk i_x2_E1 ea114
          refine ⟨_, (rP_SArr hC (vp_lt i_x2_E1)).trans (congrArg (fun z => some (X 4 z)) ea114.symm), ?_⟩
          refine ⟨rK_SR hC k_a114, ?_⟩
          refine ⟨(rN_SR hC k_a114).symm ▸ vp_lit2_10, ?_⟩
          intro x116 ex
          replace h := h x116 (ex.trans (rB_SR hC k_a114 q_lit2 (by decide)))
          refine ⟨rK_SR hC k_a110, ?_⟩
          refine ⟨(rN_SR hC k_a110).symm ▸ vp_lit2_10, ?_⟩
          intro S118 eS
          obtain ⟨Z118, eZ, h⟩ := vEx h
          replace hC := wB_SR hC k_a110 q_lit2 (by decide) eS eZ
          replace hP := eS ▸ hSt.1 _ 4 a110 _ _ (Or.inl ⟨rfl, k_a110⟩) hP
          clear eS eZ
          refine ⟨_, rF_289 hC hB, ?_⟩
          refine ⟨rK_Wld hC, ?_⟩
          refine ⟨_, rF_256 hC, ?_⟩
          refine ⟨rK_SArr hC, ?_⟩
          obtain ⟨i_x1_E1, h⟩ := h
          refine ⟨(rN_SArr hC).symm ▸ i_x1_E1, ?_⟩
          obtain ⟨a122, ea122, h⟩ := vEx h
          have k_a122 := vp_lk i_x1_E1 ea122
          refine ⟨_, (rP_SArr hC (vp_lt i_x1_E1)).trans (congrArg (fun z => some (X 4 z)) ea122.symm), ?_⟩
          refine ⟨_, rF_289 hC hB, ?_⟩
          refine ⟨rK_Wld hC, ?_⟩
          refine ⟨_, rF_256 hC, ?_⟩
          refine ⟨rK_SArr hC, ?_⟩
          obtain ⟨i_x2_E1, h⟩ := h
          refine ⟨(rN_SArr hC).symm ▸ i_x2_E1, ?_⟩
          obtain ⟨a126, ea126, h⟩ := vEx h
          have k_a126 := vp_lk i_x2_E1 ea126
          refine ⟨_, (rP_SArr hC (vp_lt i_x2_E1)).trans (congrArg (fun z => some (X 4 z)) ea126.symm), ?_⟩
          refine ⟨rK_SR hC k_a126, ?_⟩
          refine ⟨(rN_SR hC k_a126).symm ▸ vp_lit3_10, ?_⟩
          intro x128 ex
          replace h := h x128 (ex.trans (rB_SR hC k_a126 q_lit3 (by decide)))
          refine ⟨rK_SR hC k_a122, ?_⟩
          refine ⟨(rN_SR hC k_a122).symm ▸ vp_lit3_10, ?_⟩
          intro S130 eS
          obtain ⟨Z130, eZ, h⟩ := vEx h
          replace hC := wB_SR hC k_a122 q_lit3 (by decide) eS eZ
          replace hP := eS ▸ hSt.1 _ 4 a122 _ _ (Or.inl ⟨rfl, k_a122⟩) hP
          clear eS eZ
          exact u_X8_vote_b209 hSt hB hQ hC hP h
    · replace h := h.2 c
      refine ⟨rK_FArr hC, ?_⟩
      obtain ⟨i_x6_E21, h⟩ := h
      refine ⟨(rN_FArr hC).symm ▸ i_x6_E21, ?_⟩
      obtain ⟨a132, ea132, h⟩ := vEx h
      have k_a132 := vp_lk i_x6_E21 ea132
      refine ⟨_, (rP_FArr hC (vp_lt i_x6_E21)).trans (congrArg (fun z => some (X 5 z)) ea132.symm), ?_⟩
      refine ⟨rK_FR hC k_a132, ?_⟩
      refine ⟨(rN_FR hC k_a132).symm ▸ vp_lit0_22, ?_⟩
      intro x134 ex
      replace h := h x134 (ex.trans (rB_FR hC k_a132 q_lit0 (by decide)))
      refine ⟨fun c => ?_, fun c => ?_⟩
      · replace h := h.1 c
        exact u_X8_vote_b140 hSt hB hQ (fun x1 x2 x3 x5 x6 S Z hC hP h => ih x1 x2 x3 x5 x6 _ _ hC hP h) hC hP h
      · replace h := h.2 c
        refine ⟨(rN_FR hC k_a132).symm ▸ vp_lit8_22, ?_⟩
        intro x137 ex
        replace h := h x137 (ex.trans (rB_FR hC k_a132 q_lit8 (by decide)))
        refine ⟨fun c => ?_, fun c => ?_⟩
        · replace h := h.1 c
          exact u_X8_vote_b136 hSt hB hQ (fun x1 x2 x3 x5 x6 S Z hC hP h => ih x1 x2 x3 x5 x6 _ _ hC hP h) hC hP h
        · replace h := h.2 c
          refine ⟨fun c => ?_, fun c => ?_⟩
          · replace h := h.1 c
            exact u_X8_vote_b140 hSt hB hQ (fun x1 x2 x3 x5 x6 S Z hC hP h => ih x1 x2 x3 x5 x6 _ _ hC hP h) hC hP h
          · replace h := h.2 c
            refine ⟨rK_Mod hC hB, ?_⟩
            refine u_X8_rate hSt hB (fun x141 S140 Z140 hC hP h => ?_) hC hP h
            refine ⟨rK_Mod hC hB, ?_⟩
            refine u_X8_rate hSt hB (fun x143 S142 Z142 hC hP h => ?_) hC hP h
            refine ⟨fun c => ?_, fun c => ?_⟩
            · replace h := h.1 c
              exact u_X8_vote_b140 hSt hB hQ (fun x1 x2 x3 x5 x6 S Z hC hP h => ih x1 x2 x3 x5 x6 _ _ hC hP h) hC hP h
            · replace h := h.2 c
              exact u_X8_vote_b136 hSt hB hQ (fun x1 x2 x3 x5 x6 S Z hC hP h => ih x1 x2 x3 x5 x6 _ _ hC hP h) hC hP h
def v_X8_vote_b25 (E : fT)  (Q : Int32 → yT → Prop) : Nat → Int32 → Int32 → Int32 → yT → Prop
  | 0 => fun _ _ _ _ => False
  | n + 1 => fun x1 x2 x3 Z =>
    ∀ x101 : Int32, x101 = x1 + (1 : Int32) →
    ((x101 < x3 →
    ∀ x105 : Int32, x105 = nI E.2.1 →
    ∃ n9 : Nat, 
    v_X8_vote_b85 E Q n9 x1 x2 (0 : Int32) x105 (0 : Int32) Z) ∧
    (¬ x101 < x3 →
    v_X8_isSociety E x3 Z (fun x107 Z106 =>
    ((x107 = 0 →
    v_X8_vote_b60 E x1 x2 x3 Z106 (fun x1 x2 x3 Z => v_X8_vote_b25 E Q n x1 x2 x3 Z) Q) ∧
    (¬ x107 = 0 →
    ((x2 = (-1 : Int32) →
    v_X8_vote_b58 E x1 x3 Z106 (fun x1 x2 x3 Z => v_X8_vote_b25 E Q n x1 x2 x3 Z) Q) ∧
    (¬ x2 = (-1 : Int32) →
    v_X8_rate E x3 Z106 (fun x111 Z110 =>
    v_X8_rate E x2 Z110 (fun x113 Z112 =>
    ((x111 ≤ x113 →
    v_X8_vote_b60 E x1 x2 x3 Z112 (fun x1 x2 x3 Z => v_X8_vote_b25 E Q n x1 x2 x3 Z) Q) ∧
    (¬ x111 ≤ x113 →
    v_X8_vote_b58 E x1 x3 Z112 (fun x1 x2 x3 Z => v_X8_vote_b25 E Q n x1 x2 x3 Z) Q)))))))))))
set_option maxHeartbeats 1000000 in
theorem u_X8_vote_b25 {Q : Int32 → sT → Prop} {Q' : Int32 → yT → Prop} (hSt : rSt X E P) (hB : E.2.2) (hQ : ∀ x S Z, RC X E S Z → P S → Q' x Z → Q x S)  : ∀ (n : Nat) (x1 : Int32) (x2 : Int32) (x3 : Int32) (S : sT) (Z : yT), RC X E S Z → P S → v_X8_vote_b25 E  Q' n x1 x2 x3 Z → w_X8_vote_b25  Q n (X 0 0) x1 x2 x3 S := by
  intro n
  induction n with
  | zero => intro x1 x2 x3 S Z  hC hP h; exact absurd h id
  | succ n ih =>
    intro x1 x2 x3 S Z  hC hP h
    unfold v_X8_vote_b25 at h
    unfold w_X8_vote_b25
    intro x101 ex
    replace h := h x101 ex
    refine ⟨fun c => ?_, fun c => ?_⟩
    · replace h := h.1 c
      refine ⟨rK_Mod hC hB, ?_⟩
      refine ⟨_, rF_289 hC hB, ?_⟩
      refine ⟨rK_Wld hC, ?_⟩
      refine ⟨_, rF_257 hC, ?_⟩
      refine ⟨rK_FArr hC, ?_⟩
      intro x105 ex
      replace h := h x105 (ex.trans (congrArg nI (rN_FArr hC)))
      obtain ⟨n9, h⟩ := h
      refine ⟨n9, ?_⟩
      exact u_X8_vote_b85 hSt hB hQ n9 x1 x2 (0 : Int32) x105 (0 : Int32) _ _ hC hP h
    · replace h := h.2 c
      refine ⟨rK_Mod hC hB, ?_⟩
      refine u_X8_isSociety hSt hB (fun x107 S106 Z106 hC hP h => ?_) hC hP h
      refine ⟨fun c => ?_, fun c => ?_⟩
      · replace h := h.1 c
        exact u_X8_vote_b60 hSt hB hQ (fun x1 x2 x3 S Z hC hP h => ih x1 x2 x3 _ _ hC hP h) hC hP h
      · replace h := h.2 c
        refine ⟨fun c => ?_, fun c => ?_⟩
        · replace h := h.1 c
          exact u_X8_vote_b58 hSt hB hQ (fun x1 x2 x3 S Z hC hP h => ih x1 x2 x3 _ _ hC hP h) hC hP h
        · replace h := h.2 c
          refine ⟨rK_Mod hC hB, ?_⟩
          refine u_X8_rate hSt hB (fun x111 S110 Z110 hC hP h => ?_) hC hP h
          refine ⟨rK_Mod hC hB, ?_⟩
          refine u_X8_rate hSt hB (fun x113 S112 Z112 hC hP h => ?_) hC hP h
          refine ⟨fun c => ?_, fun c => ?_⟩
          · replace h := h.1 c
            exact u_X8_vote_b60 hSt hB hQ (fun x1 x2 x3 S Z hC hP h => ih x1 x2 x3 _ _ hC hP h) hC hP h
          · replace h := h.2 c
            exact u_X8_vote_b58 hSt hB hQ (fun x1 x2 x3 S Z hC hP h => ih x1 x2 x3 _ _ hC hP h) hC hP h
def v_X8_vote_b0 (E : fT) (x1 : Int32) (Z : yT) (Q : Int32 → yT → Prop) : Prop :=
  ∀ Z101 : yT, Z101 = s_up2 Z 80 0 (0 : Int32) →
  v_X8_isSociety E x1 Z101 (fun x103 Z102 =>
  ((¬ x103 = 0 →
  ∀ x105 : Int32, x105 = x1 - (1 : Int32) →
  ∃ n9 : Nat, 
  v_X8_vote_b25 E Q n9 x1 (-1 : Int32) x105 Z102) ∧
  (x103 = 0 →
  v_X8_refuse E (1 : Int32) Z102 (fun x107 Z106 =>
  Q x107 Z106))))
set_option maxHeartbeats 1000000 in
theorem u_X8_vote_b0 {Q : Int32 → sT → Prop} {Q' : Int32 → yT → Prop} {x1 : Int32} {S : sT} {Z : yT} (hSt : rSt X E P) (hB : E.2.2) (hQ : ∀ x S Z, RC X E S Z → P S → Q' x Z → Q x S)   (hC : RC X E S Z) (hP : P S) (h : v_X8_vote_b0 E x1 Z Q') : w_X8_vote_b0 (X 0 0) x1 S Q := by
  unfold v_X8_vote_b0 at h
  unfold w_X8_vote_b0
  refine ⟨rK_Mod hC hB, ?_⟩
  intro S101 eS
  obtain ⟨Z101, eZ, h⟩ := vEx h
  replace hC := wI_80 hC hB eS eZ
  replace hP := eS ▸ hSt.2 _ _ hP
  clear eS eZ
  refine u_X8_isSociety hSt hB (fun x103 S102 Z102 hC hP h => ?_) hC hP h
  refine ⟨fun c => ?_, fun c => ?_⟩
  · replace h := h.1 c
    intro x105 ex
    replace h := h x105 ex
    obtain ⟨n9, h⟩ := h
    refine ⟨n9, ?_⟩
    exact u_X8_vote_b25 hSt hB hQ n9 x1 (-1 : Int32) x105 _ _ hC hP h
  · replace h := h.2 c
    refine ⟨rK_Mod hC hB, ?_⟩
    refine u_X8_refuse hSt hB (fun x107 S106 Z106 hC hP h => ?_) hC hP h
    exact hQ _ _ _ hC hP h
def v_X8_vote (E : fT) (x1 : Int32) (Z : yT) (Q : Int32 → yT → Prop) : Prop :=
  v_X8_vote_b0 E x1 Z Q
set_option maxHeartbeats 1000000 in
theorem u_X8_vote {Q : Int32 → sT → Prop} {Q' : Int32 → yT → Prop} {x1 : Int32} {S : sT} {Z : yT} (hSt : rSt X E P) (hB : E.2.2) (hQ : ∀ x S Z, RC X E S Z → P S → Q' x Z → Q x S)   (hC : RC X E S Z) (hP : P S) (h : v_X8_vote E x1 Z Q') : w_X8_vote (X 0 0) x1 S Q := by
  unfold v_X8_vote at h
  unfold w_X8_vote
  exact u_X8_vote_b0 hSt hB hQ hC hP h
def v_X8_ofFieldNow_b141 (E : fT) (x2 : Int32) (x3 : Nat) (Z : yT) (Q : Int32 → yT → Prop) : Prop :=
  vp_in x2 22 ∧
  ∀ x102 : Int32, x102 = Z (Int32.toNatClampNeg x2) x3 →
  Q x102 Z
set_option maxHeartbeats 1000000 in
theorem u_X8_ofFieldNow_b141 {Q : Int32 → sT → Prop} {Q' : Int32 → yT → Prop} {x2 : Int32} {x3 : Nat} {S : sT} {Z : yT} (hSt : rSt X E P) (hB : E.2.2) (hQ : ∀ x S Z, RC X E S Z → P S → Q' x Z → Q x S)  (k_x3 : x3 < E.2.1) (hC : RC X E S Z) (hP : P S) (h : v_X8_ofFieldNow_b141 E x2 x3 Z Q') : w_X8_ofFieldNow_b141 x2 (X 5 x3) S Q := by
  unfold v_X8_ofFieldNow_b141 at h
  unfold w_X8_ofFieldNow_b141
  refine ⟨rK_FR hC k_x3, ?_⟩
  obtain ⟨i_x2_22, h⟩ := h
  refine ⟨(rN_FR hC k_x3).symm ▸ i_x2_22, ?_⟩
  intro x102 ex
  replace h := h x102 (ex.trans (rB_FR hC k_x3 rfl (vp_lt i_x2_22)))
  exact hQ _ _ _ hC hP h
def v_X8_ofFieldNow_b88 (E : fT) (y0 : Int32) (Z : yT) (Q : Int32 → yT → Prop) : Prop :=
  Q y0 Z
set_option maxHeartbeats 1000000 in
theorem u_X8_ofFieldNow_b88 {Q : Int32 → sT → Prop} {Q' : Int32 → yT → Prop} {y0 : Int32} {S : sT} {Z : yT} (hSt : rSt X E P) (hB : E.2.2) (hQ : ∀ x S Z, RC X E S Z → P S → Q' x Z → Q x S)   (hC : RC X E S Z) (hP : P S) (h : v_X8_ofFieldNow_b88 E y0 Z Q') : w_X8_ofFieldNow_b88 y0 S Q := by
  unfold v_X8_ofFieldNow_b88 at h
  unfold w_X8_ofFieldNow_b88
  exact hQ _ _ _ hC hP h
def v_X8_ofFieldNow_b102 (E : fT) (y0 : Int32) (Z : yT) (Q : Int32 → yT → Prop) : Prop :=
  Q y0 Z
set_option maxHeartbeats 1000000 in
theorem u_X8_ofFieldNow_b102 {Q : Int32 → sT → Prop} {Q' : Int32 → yT → Prop} {y0 : Int32} {S : sT} {Z : yT} (hSt : rSt X E P) (hB : E.2.2) (hQ : ∀ x S Z, RC X E S Z → P S → Q' x Z → Q x S)   (hC : RC X E S Z) (hP : P S) (h : v_X8_ofFieldNow_b102 E y0 Z Q') : w_X8_ofFieldNow_b102 y0 S Q := by
  unfold v_X8_ofFieldNow_b102 at h
  unfold w_X8_ofFieldNow_b102
  exact hQ _ _ _ hC hP h
def v_X8_ofFieldNow_b116 (E : fT) (y0 : Int32) (Z : yT) (Q : Int32 → yT → Prop) : Prop :=
  Q y0 Z
set_option maxHeartbeats 1000000 in
theorem u_X8_ofFieldNow_b116 {Q : Int32 → sT → Prop} {Q' : Int32 → yT → Prop} {y0 : Int32} {S : sT} {Z : yT} (hSt : rSt X E P) (hB : E.2.2) (hQ : ∀ x S Z, RC X E S Z → P S → Q' x Z → Q x S)   (hC : RC X E S Z) (hP : P S) (h : v_X8_ofFieldNow_b116 E y0 Z Q') : w_X8_ofFieldNow_b116 y0 S Q := by
  unfold v_X8_ofFieldNow_b116 at h
  unfold w_X8_ofFieldNow_b116
  exact hQ _ _ _ hC hP h
def v_X8_ofFieldNow_b22 (E : fT) (x2 : Int32) (x3 : Nat) (y0 : Int32) (Z : yT) (Q : Int32 → yT → Prop) : Prop :=
  ((x2 = 5 →
  ((y0 = 0 →
  ∀ x104 : Int32, x104 = Z 5 x3 →
  v_X8_ofFieldNow_b88 E x104 Z Q) ∧
  (¬ y0 = 0 →
  v_X8_ofFieldNow_b88 E (-1 : Int32) Z Q))) ∧
  (x2 = 6 →
  ((y0 = 0 →
  ∀ x108 : Int32, x108 = Z 6 x3 →
  v_X8_ofFieldNow_b102 E x108 Z Q) ∧
  (¬ y0 = 0 →
  v_X8_ofFieldNow_b102 E (0 : Int32) Z Q))) ∧
  (x2 = 7 →
  ((y0 = 0 →
  ∀ x112 : Int32, x112 = Z 7 x3 →
  v_X8_ofFieldNow_b116 E x112 Z Q) ∧
  (¬ y0 = 0 →
  v_X8_ofFieldNow_b116 E (0 : Int32) Z Q))) ∧
  (x2 = 8 →
  v_X8_ofFieldNow_b141 E x2 x3 Z Q) ∧
  (x2 = 9 →
  v_X8_ofFieldNow_b141 E x2 x3 Z Q) ∧
  (x2 = 10 →
  v_X7_yield E x3 Z (fun x118 Z117 =>
  Q x118 Z117)) ∧
  (x2 = 11 →
  ∀ x121 : Int32, x121 = Z 10 x3 →
  Q x121 Z) ∧
  (x2 = 12 →
  ∀ x124 : Int32, x124 = Z 11 x3 →
  Q x124 Z) ∧
  (x2 = 13 →
  ∀ x127 : Int32, x127 = Z 12 x3 →
  Q x127 Z) ∧
  ((¬ x2 = 5 ∧ ¬ x2 = 6 ∧ ¬ x2 = 7 ∧ ¬ x2 = 8 ∧ ¬ x2 = 9 ∧ ¬ x2 = 10 ∧ ¬ x2 = 11 ∧ ¬ x2 = 12 ∧ ¬ x2 = 13) →
  v_X8_ofFieldNow_b141 E x2 x3 Z Q))
set_option maxHeartbeats 1000000 in
theorem u_X8_ofFieldNow_b22 {Q : Int32 → sT → Prop} {Q' : Int32 → yT → Prop} {x2 : Int32} {x3 : Nat} {y0 : Int32} {S : sT} {Z : yT} (hSt : rSt X E P) (hB : E.2.2) (hQ : ∀ x S Z, RC X E S Z → P S → Q' x Z → Q x S)  (k_x3 : x3 < E.2.1) (hC : RC X E S Z) (hP : P S) (h : v_X8_ofFieldNow_b22 E x2 x3 y0 Z Q') : w_X8_ofFieldNow_b22 (X 0 0) x2 (X 5 x3) y0 S Q := by
  unfold v_X8_ofFieldNow_b22 at h
  unfold w_X8_ofFieldNow_b22
  refine ⟨fun c => ?_, fun c => ?_, fun c => ?_, fun c => ?_, fun c => ?_, fun c => ?_, fun c => ?_, fun c => ?_, fun c => ?_, fun c => ?_⟩
  · replace h := h.1 c
    refine ⟨fun c => ?_, fun c => ?_⟩
    · replace h := h.1 c
      refine ⟨rK_FR hC k_x3, ?_⟩
      refine ⟨(rN_FR hC k_x3).symm ▸ vp_lit5_22, ?_⟩
      intro x104 ex
      replace h := h x104 (ex.trans (rB_FR hC k_x3 q_lit5 (by decide)))
      exact u_X8_ofFieldNow_b88 hSt hB hQ hC hP h
    · replace h := h.2 c
      exact u_X8_ofFieldNow_b88 hSt hB hQ hC hP h
  · replace h := h.2.1 c
    refine ⟨fun c => ?_, fun c => ?_⟩
    · replace h := h.1 c
      refine ⟨rK_FR hC k_x3, ?_⟩
      refine ⟨(rN_FR hC k_x3).symm ▸ vp_lit6_22, ?_⟩
      intro x108 ex
      replace h := h x108 (ex.trans (rB_FR hC k_x3 q_lit6 (by decide)))
      exact u_X8_ofFieldNow_b102 hSt hB hQ hC hP h
    · replace h := h.2 c
      exact u_X8_ofFieldNow_b102 hSt hB hQ hC hP h
  · replace h := h.2.2.1 c
    refine ⟨fun c => ?_, fun c => ?_⟩
    · replace h := h.1 c
      refine ⟨rK_FR hC k_x3, ?_⟩
      refine ⟨(rN_FR hC k_x3).symm ▸ vp_lit7_22, ?_⟩
      intro x112 ex
      replace h := h x112 (ex.trans (rB_FR hC k_x3 q_lit7 (by decide)))
      exact u_X8_ofFieldNow_b116 hSt hB hQ hC hP h
    · replace h := h.2 c
      exact u_X8_ofFieldNow_b116 hSt hB hQ hC hP h
  · replace h := h.2.2.2.1 c
    exact u_X8_ofFieldNow_b141 (x3 := x3) hSt hB hQ k_x3 hC hP h
  · replace h := h.2.2.2.2.1 c
    exact u_X8_ofFieldNow_b141 (x3 := x3) hSt hB hQ k_x3 hC hP h
  · replace h := h.2.2.2.2.2.1 c
    refine ⟨rK_Mod hC hB, ?_⟩
    refine ⟨_, rF_289 hC hB, ?_⟩
    refine ⟨rK_Wld hC, ?_⟩
    refine u_X7_yield (x1 := x3) hSt (fun x118 S117 Z117 hC hP h => ?_) k_x3 hC hP h
    exact hQ _ _ _ hC hP h
  · replace h := h.2.2.2.2.2.2.1 c
    refine ⟨rK_FR hC k_x3, ?_⟩
    refine ⟨(rN_FR hC k_x3).symm ▸ vp_lit10_22, ?_⟩
    intro x121 ex
    replace h := h x121 (ex.trans (rB_FR hC k_x3 q_lit10 (by decide)))
    exact hQ _ _ _ hC hP h
  · replace h := h.2.2.2.2.2.2.2.1 c
    refine ⟨rK_FR hC k_x3, ?_⟩
    refine ⟨(rN_FR hC k_x3).symm ▸ vp_lit11_22, ?_⟩
    intro x124 ex
    replace h := h x124 (ex.trans (rB_FR hC k_x3 q_lit11 (by decide)))
    exact hQ _ _ _ hC hP h
  · replace h := h.2.2.2.2.2.2.2.2.1 c
    refine ⟨rK_FR hC k_x3, ?_⟩
    refine ⟨(rN_FR hC k_x3).symm ▸ vp_lit12_22, ?_⟩
    intro x127 ex
    replace h := h x127 (ex.trans (rB_FR hC k_x3 q_lit12 (by decide)))
    exact hQ _ _ _ hC hP h
  · replace h := h.2.2.2.2.2.2.2.2.2 c
    exact u_X8_ofFieldNow_b141 (x3 := x3) hSt hB hQ k_x3 hC hP h
def v_X8_ofFieldNow_b0 (E : fT) (x1 : Int32) (x2 : Int32) (Z : yT) (Q : Int32 → yT → Prop) : Prop :=
  vp_in x1 E.2.1 ∧
  ∀ a104 : Nat, a104 = Int32.toNatClampNeg x1 →
  ∀ x106 : Int32, x106 = Z 4 a104 →
  (((2 : Int32) ≤ x106 →
  v_X8_ofFieldNow_b22 E x2 a104 (0 : Int32) Z Q) ∧
  (¬ (2 : Int32) ≤ x106 →
  v_X8_ofFieldNow_b22 E x2 a104 (1 : Int32) Z Q))
set_option maxHeartbeats 1000000 in
theorem u_X8_ofFieldNow_b0 {Q : Int32 → sT → Prop} {Q' : Int32 → yT → Prop} {x1 : Int32} {x2 : Int32} {S : sT} {Z : yT} (hSt : rSt X E P) (hB : E.2.2) (hQ : ∀ x S Z, RC X E S Z → P S → Q' x Z → Q x S)   (hC : RC X E S Z) (hP : P S) (h : v_X8_ofFieldNow_b0 E x1 x2 Z Q') : w_X8_ofFieldNow_b0 (X 0 0) x1 x2 S Q := by
  unfold v_X8_ofFieldNow_b0 at h
  unfold w_X8_ofFieldNow_b0
  refine ⟨rK_Mod hC hB, ?_⟩
  refine ⟨_, rF_289 hC hB, ?_⟩
  refine ⟨rK_Wld hC, ?_⟩
  refine ⟨_, rF_257 hC, ?_⟩
  refine ⟨rK_FArr hC, ?_⟩
  obtain ⟨i_x1_E21, h⟩ := h
  refine ⟨(rN_FArr hC).symm ▸ i_x1_E21, ?_⟩
  obtain ⟨a104, ea104, h⟩ := vEx h
  have k_a104 := vp_lk i_x1_E21 ea104
  refine ⟨_, (rP_FArr hC (vp_lt i_x1_E21)).trans (congrArg (fun z => some (X 5 z)) ea104.symm), ?_⟩
  refine ⟨rK_FR hC k_a104, ?_⟩
  refine ⟨(rN_FR hC k_a104).symm ▸ vp_lit4_22, ?_⟩
  intro x106 ex
  replace h := h x106 (ex.trans (rB_FR hC k_a104 q_lit4 (by decide)))
  refine ⟨fun c => ?_, fun c => ?_⟩
  · replace h := h.1 c
    exact u_X8_ofFieldNow_b22 (x3 := a104) hSt hB hQ k_a104 hC hP h
  · replace h := h.2 c
    exact u_X8_ofFieldNow_b22 (x3 := a104) hSt hB hQ k_a104 hC hP h
def v_X8_ofFieldNow (E : fT) (x1 : Int32) (x2 : Int32) (Z : yT) (Q : Int32 → yT → Prop) : Prop :=
  v_X8_ofFieldNow_b0 E x1 x2 Z Q
set_option maxHeartbeats 1000000 in
theorem u_X8_ofFieldNow {Q : Int32 → sT → Prop} {Q' : Int32 → yT → Prop} {x1 : Int32} {x2 : Int32} {S : sT} {Z : yT} (hSt : rSt X E P) (hB : E.2.2) (hQ : ∀ x S Z, RC X E S Z → P S → Q' x Z → Q x S)   (hC : RC X E S Z) (hP : P S) (h : v_X8_ofFieldNow E x1 x2 Z Q') : w_X8_ofFieldNow (X 0 0) x1 x2 S Q := by
  unfold v_X8_ofFieldNow at h
  unfold w_X8_ofFieldNow
  exact u_X8_ofFieldNow_b0 hSt hB hQ hC hP h
def v_X8_ofField_b43 (E : fT) (y0 : Int32) (Z : yT) (Q : Int32 → yT → Prop) : Prop :=
  Q y0 Z
set_option maxHeartbeats 1000000 in
theorem u_X8_ofField_b43 {Q : Int32 → sT → Prop} {Q' : Int32 → yT → Prop} {y0 : Int32} {S : sT} {Z : yT} (hSt : rSt X E P) (hB : E.2.2) (hQ : ∀ x S Z, RC X E S Z → P S → Q' x Z → Q x S)   (hC : RC X E S Z) (hP : P S) (h : v_X8_ofField_b43 E y0 Z Q') : w_X8_ofField_b43 y0 S Q := by
  unfold v_X8_ofField_b43 at h
  unfold w_X8_ofField_b43
  exact hQ _ _ _ hC hP h
def v_X8_ofField_b0 (E : fT) (x1 : Int32) (x2 : Int32) (Z : yT) (Q : Int32 → yT → Prop) : Prop :=
  ∀ Z101 : yT, Z101 = s_up2 Z 80 0 (0 : Int32) →
  v_X8_isField E x1 Z101 (fun x103 Z102 =>
  ((¬ x103 = 0 →
  v_X8_is E x2 (0 : Int32) (13 : Int32) Z102 (fun x106 Z105 =>
  ((x106 = 0 →
  v_X8_refuse E (2 : Int32) Z105 (fun x109 Z108 =>
  v_X8_ofField_b43 E x109 Z108 Q)) ∧
  (¬ x106 = 0 →
  v_X8_ofFieldNow E x1 x2 Z105 (fun x111 Z110 =>
  v_X8_ofField_b43 E x111 Z110 Q))))) ∧
  (x103 = 0 →
  v_X8_refuse E (1 : Int32) Z102 (fun x113 Z112 =>
  Q x113 Z112))))
set_option maxHeartbeats 1000000 in
theorem u_X8_ofField_b0 {Q : Int32 → sT → Prop} {Q' : Int32 → yT → Prop} {x1 : Int32} {x2 : Int32} {S : sT} {Z : yT} (hSt : rSt X E P) (hB : E.2.2) (hQ : ∀ x S Z, RC X E S Z → P S → Q' x Z → Q x S)   (hC : RC X E S Z) (hP : P S) (h : v_X8_ofField_b0 E x1 x2 Z Q') : w_X8_ofField_b0 (X 0 0) x1 x2 S Q := by
  unfold v_X8_ofField_b0 at h
  unfold w_X8_ofField_b0
  refine ⟨rK_Mod hC hB, ?_⟩
  intro S101 eS
  obtain ⟨Z101, eZ, h⟩ := vEx h
  replace hC := wI_80 hC hB eS eZ
  replace hP := eS ▸ hSt.2 _ _ hP
  clear eS eZ
  refine u_X8_isField hSt hB (fun x103 S102 Z102 hC hP h => ?_) hC hP h
  refine ⟨fun c => ?_, fun c => ?_⟩
  · replace h := h.1 c
    refine u_X8_is hSt (fun x106 S105 Z105 hC hP h => ?_) hC hP h
    refine ⟨fun c => ?_, fun c => ?_⟩
    · replace h := h.1 c
      refine ⟨rK_Mod hC hB, ?_⟩
      refine u_X8_refuse hSt hB (fun x109 S108 Z108 hC hP h => ?_) hC hP h
      exact u_X8_ofField_b43 hSt hB hQ hC hP h
    · replace h := h.2 c
      refine ⟨rK_Mod hC hB, ?_⟩
      refine u_X8_ofFieldNow hSt hB (fun x111 S110 Z110 hC hP h => ?_) hC hP h
      exact u_X8_ofField_b43 hSt hB hQ hC hP h
  · replace h := h.2 c
    refine ⟨rK_Mod hC hB, ?_⟩
    refine u_X8_refuse hSt hB (fun x113 S112 Z112 hC hP h => ?_) hC hP h
    exact hQ _ _ _ hC hP h
def v_X8_ofField (E : fT) (x1 : Int32) (x2 : Int32) (Z : yT) (Q : Int32 → yT → Prop) : Prop :=
  v_X8_ofField_b0 E x1 x2 Z Q
set_option maxHeartbeats 1000000 in
theorem u_X8_ofField {Q : Int32 → sT → Prop} {Q' : Int32 → yT → Prop} {x1 : Int32} {x2 : Int32} {S : sT} {Z : yT} (hSt : rSt X E P) (hB : E.2.2) (hQ : ∀ x S Z, RC X E S Z → P S → Q' x Z → Q x S)   (hC : RC X E S Z) (hP : P S) (h : v_X8_ofField E x1 x2 Z Q') : w_X8_ofField (X 0 0) x1 x2 S Q := by
  unfold v_X8_ofField at h
  unfold w_X8_ofField
  exact u_X8_ofField_b0 hSt hB hQ hC hP h
def v_X8_meanDepth_b32 (E : fT) (Z : yT) (Q : UInt64 → yT → Prop) : Prop :=
  Q FP.dconst0 Z
set_option maxHeartbeats 1000000 in
theorem u_X8_meanDepth_b32 {Q : UInt64 → sT → Prop} {Q' : UInt64 → yT → Prop}  {S : sT} {Z : yT} (hSt : rSt X E P) (hB : E.2.2) (hQ : ∀ x S Z, RC X E S Z → P S → Q' x Z → Q x S)   (hC : RC X E S Z) (hP : P S) (h : v_X8_meanDepth_b32 E Z Q') : w_X8_meanDepth_b32 S Q := by
  unfold v_X8_meanDepth_b32 at h
  unfold w_X8_meanDepth_b32
  exact hQ _ _ _ hC hP h
def v_X8_meanDepth_b81 (E : fT) (x1 : Int32) (x4 : Int32) (x5 : Int32) (y0 : Int32) (y1 : Int32) (Z : yT) (kk51 : Int32 → Int32 → Int32 → Int32 → yT → Prop) (Q : UInt64 → yT → Prop) : Prop :=
  ∀ x101 : Int32, x101 = y1 + y0 →
  ∀ x102 : Int32, x102 = x5 + 1 →
  kk51 x1 x101 x4 x102 Z
set_option maxHeartbeats 1000000 in
theorem u_X8_meanDepth_b81 {Q : UInt64 → sT → Prop} {Q' : UInt64 → yT → Prop} {x1 : Int32} {x4 : Int32} {x5 : Int32} {y0 : Int32} {y1 : Int32} {S : sT} {Z : yT} (hSt : rSt X E P) (hB : E.2.2) (hQ : ∀ x S Z, RC X E S Z → P S → Q' x Z → Q x S) {kk51 : Nat → Int32 → Int32 → Nat → Int32 → Int32 → sT → Prop} {kk51' : Int32 → Int32 → Int32 → Int32 → yT → Prop} (hkk51 : ∀ (x1 : Int32) (x2 : Int32) (x4 : Int32) (x5 : Int32) S Z, RC X E S Z → P S → kk51' x1 x2 x4 x5 Z → kk51 (X 0 0) x1 x2 (X 3 0) x4 x5 S)  (hC : RC X E S Z) (hP : P S) (h : v_X8_meanDepth_b81 E x1 x4 x5 y0 y1 Z kk51' Q') : w_X8_meanDepth_b81 (X 0 0) x1 (X 3 0) x4 x5 y0 y1 S kk51 Q := by
  unfold v_X8_meanDepth_b81 at h
  unfold w_X8_meanDepth_b81
  intro x101 ex
  replace h := h x101 ex
  intro x102 ex
  replace h := h x102 ex
  exact hkk51 x1 x101 x4 x102 _ _  hC hP h
def v_X8_meanDepth_b51 (E : fT)  (Q : UInt64 → yT → Prop) : Nat → Int32 → Int32 → Int32 → Int32 → yT → Prop
  | 0 => fun _ _ _ _ _ => False
  | n + 1 => fun x1 x2 x4 x5 Z =>
    ((x4 ≤ x5 →
    ∀ f102 : UInt64, f102 = FP.i2d x2 →
    v_X8_size E x1 Z (fun x104 Z103 =>
    ∀ f105 : UInt64, f105 = FP.i2d x104 →
    vf_n64 (FP.ddiv f102 f105) ∧
    ∀ f107 : UInt64, f107 = FP.ddiv f102 f105 →
    Q f107 Z103)) ∧
    (¬ x4 ≤ x5 →
    vp_in x5 E.2.1 ∧
    ∀ a109 : Nat, a109 = Int32.toNatClampNeg x5 →
    ∀ x111 : Int32, x111 = Z 0 a109 →
    ((¬ x111 = x1 →
    v_X8_meanDepth_b81 E x1 x4 x5 (0 : Int32) x2 Z (fun x1 x2 x4 x5 Z => v_X8_meanDepth_b51 E Q n x1 x2 x4 x5 Z) Q) ∧
    (x111 = x1 →
    ∀ x114 : Int32, x114 = Z 1 a109 →
    v_X8_meanDepth_b81 E x1 x4 x5 x114 x2 Z (fun x1 x2 x4 x5 Z => v_X8_meanDepth_b51 E Q n x1 x2 x4 x5 Z) Q))))
set_option maxHeartbeats 1000000 in
theorem u_X8_meanDepth_b51 {Q : UInt64 → sT → Prop} {Q' : UInt64 → yT → Prop} (hSt : rSt X E P) (hB : E.2.2) (hQ : ∀ x S Z, RC X E S Z → P S → Q' x Z → Q x S)  : ∀ (n : Nat) (x1 : Int32) (x2 : Int32) (x4 : Int32) (x5 : Int32) (S : sT) (Z : yT), RC X E S Z → P S → v_X8_meanDepth_b51 E  Q' n x1 x2 x4 x5 Z → w_X8_meanDepth_b51  Q n (X 0 0) x1 x2 (X 3 0) x4 x5 S := by
  intro n
  induction n with
  | zero => intro x1 x2 x4 x5 S Z  hC hP h; exact absurd h id
  | succ n ih =>
    intro x1 x2 x4 x5 S Z  hC hP h
    unfold v_X8_meanDepth_b51 at h
    unfold w_X8_meanDepth_b51
    refine ⟨fun c => ?_, fun c => ?_⟩
    · replace h := h.1 c
      intro f102 ex
      replace h := h f102 ex
      refine ⟨rK_Mod hC hB, ?_⟩
      refine u_X8_size hSt hB (fun x104 S103 Z103 hC hP h => ?_) hC hP h
      intro f105 ex
      replace h := h f105 ex
      obtain ⟨hn, h⟩ := h
      refine ⟨hn, ?_⟩
      intro f107 ex
      replace h := h f107 ex
      exact hQ _ _ _ hC hP h
    · replace h := h.2 c
      refine ⟨rK_FArr hC, ?_⟩
      obtain ⟨i_x5_E21, h⟩ := h
      refine ⟨(rN_FArr hC).symm ▸ i_x5_E21, ?_⟩
      obtain ⟨a109, ea109, h⟩ := vEx h
      have k_a109 := vp_lk i_x5_E21 ea109
      refine ⟨_, (rP_FArr hC (vp_lt i_x5_E21)).trans (congrArg (fun z => some (X 5 z)) ea109.symm), ?_⟩
      refine ⟨rK_FR hC k_a109, ?_⟩
      refine ⟨(rN_FR hC k_a109).symm ▸ vp_lit0_22, ?_⟩
      intro x111 ex
      replace h := h x111 (ex.trans (rB_FR hC k_a109 q_lit0 (by decide)))
      refine ⟨fun c => ?_, fun c => ?_⟩
      · replace h := h.1 c
        exact u_X8_meanDepth_b81 hSt hB hQ (fun x1 x2 x4 x5 S Z hC hP h => ih x1 x2 x4 x5 _ _ hC hP h) hC hP h
      · replace h := h.2 c
        refine ⟨(rN_FR hC k_a109).symm ▸ vp_lit1_22, ?_⟩
        intro x114 ex
        replace h := h x114 (ex.trans (rB_FR hC k_a109 q_lit1 (by decide)))
        exact u_X8_meanDepth_b81 hSt hB hQ (fun x1 x2 x4 x5 S Z hC hP h => ih x1 x2 x4 x5 _ _ hC hP h) hC hP h
def v_X8_meanDepth_b14 (E : fT) (x1 : Int32) (y0 : Int32) (Z : yT) (Q : UInt64 → yT → Prop) : Prop :=
  ∀ Z101 : yT, Z101 = s_up2 Z 80 0 y0 →
  ∀ x102 : Int32, x102 = Z101 80 0 →
  ((0 < x102 →
  v_X8_meanDepth_b32 E Z101 Q) ∧
  (¬ 0 < x102 →
  v_X8_size E x1 Z101 (fun x105 Z104 =>
  ((¬ x105 = 0 →
  ∀ x109 : Int32, x109 = nI E.2.1 →
  ∃ n9 : Nat, 
  v_X8_meanDepth_b51 E Q n9 x1 (0 : Int32) x109 (0 : Int32) Z104) ∧
  (x105 = 0 →
  v_X8_meanDepth_b32 E Z104 Q)))))
set_option maxHeartbeats 1000000 in
theorem u_X8_meanDepth_b14 {Q : UInt64 → sT → Prop} {Q' : UInt64 → yT → Prop} {x1 : Int32} {y0 : Int32} {S : sT} {Z : yT} (hSt : rSt X E P) (hB : E.2.2) (hQ : ∀ x S Z, RC X E S Z → P S → Q' x Z → Q x S)   (hC : RC X E S Z) (hP : P S) (h : v_X8_meanDepth_b14 E x1 y0 Z Q') : w_X8_meanDepth_b14 (X 0 0) x1 y0 (X 0 0) S Q := by
  unfold v_X8_meanDepth_b14 at h
  unfold w_X8_meanDepth_b14
  refine ⟨rK_Mod hC hB, ?_⟩
  intro S101 eS
  obtain ⟨Z101, eZ, h⟩ := vEx h
  replace hC := wI_80 hC hB eS eZ
  replace hP := eS ▸ hSt.2 _ _ hP
  clear eS eZ
  refine ⟨rK_Mod hC hB, ?_⟩
  intro x102 ex
  replace h := h x102 (ex.trans (rI_80 hC hB))
  refine ⟨fun c => ?_, fun c => ?_⟩
  · replace h := h.1 c
    exact u_X8_meanDepth_b32 hSt hB hQ hC hP h
  · replace h := h.2 c
    refine u_X8_size hSt hB (fun x105 S104 Z104 hC hP h => ?_) hC hP h
    refine ⟨fun c => ?_, fun c => ?_⟩
    · replace h := h.1 c
      refine ⟨rK_Mod hC hB, ?_⟩
      refine ⟨_, rF_289 hC hB, ?_⟩
      refine ⟨rK_Wld hC, ?_⟩
      refine ⟨_, rF_257 hC, ?_⟩
      refine ⟨rK_FArr hC, ?_⟩
      intro x109 ex
      replace h := h x109 (ex.trans (congrArg nI (rN_FArr hC)))
      obtain ⟨n9, h⟩ := h
      refine ⟨n9, ?_⟩
      exact u_X8_meanDepth_b51 hSt hB hQ n9 x1 (0 : Int32) x109 (0 : Int32) _ _ hC hP h
    · replace h := h.2 c
      exact u_X8_meanDepth_b32 hSt hB hQ hC hP h
def v_X8_meanDepth_b0 (E : fT) (x1 : Int32) (Z : yT) (Q : UInt64 → yT → Prop) : Prop :=
  v_X8_isSociety E x1 Z (fun x102 Z101 =>
  ((x102 = 0 →
  v_X8_meanDepth_b14 E x1 (1 : Int32) Z101 Q) ∧
  (¬ x102 = 0 →
  v_X8_meanDepth_b14 E x1 (0 : Int32) Z101 Q)))
set_option maxHeartbeats 1000000 in
theorem u_X8_meanDepth_b0 {Q : UInt64 → sT → Prop} {Q' : UInt64 → yT → Prop} {x1 : Int32} {S : sT} {Z : yT} (hSt : rSt X E P) (hB : E.2.2) (hQ : ∀ x S Z, RC X E S Z → P S → Q' x Z → Q x S)   (hC : RC X E S Z) (hP : P S) (h : v_X8_meanDepth_b0 E x1 Z Q') : w_X8_meanDepth_b0 (X 0 0) x1 S Q := by
  unfold v_X8_meanDepth_b0 at h
  unfold w_X8_meanDepth_b0
  refine ⟨rK_Mod hC hB, ?_⟩
  refine u_X8_isSociety hSt hB (fun x102 S101 Z101 hC hP h => ?_) hC hP h
  refine ⟨fun c => ?_, fun c => ?_⟩
  · replace h := h.1 c
    exact u_X8_meanDepth_b14 hSt hB hQ hC hP h
  · replace h := h.2 c
    exact u_X8_meanDepth_b14 hSt hB hQ hC hP h
def v_X8_meanDepth (E : fT) (x1 : Int32) (Z : yT) (Q : UInt64 → yT → Prop) : Prop :=
  v_X8_meanDepth_b0 E x1 Z Q
set_option maxHeartbeats 1000000 in
theorem u_X8_meanDepth {Q : UInt64 → sT → Prop} {Q' : UInt64 → yT → Prop} {x1 : Int32} {S : sT} {Z : yT} (hSt : rSt X E P) (hB : E.2.2) (hQ : ∀ x S Z, RC X E S Z → P S → Q' x Z → Q x S)   (hC : RC X E S Z) (hP : P S) (h : v_X8_meanDepth E x1 Z Q') : w_X8_meanDepth (X 0 0) x1 S Q := by
  unfold v_X8_meanDepth at h
  unfold w_X8_meanDepth
  exact u_X8_meanDepth_b0 hSt hB hQ hC hP h
end
