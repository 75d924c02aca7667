section
variable {H : Nat → Nat → Nat → Nat} {E : eT} {P : sT → Prop} {w : Nat}
def vT_X6_society_b43 (E : eT) (Z : zT) (QX : String → zT → Prop) : Prop :=
  QX "java/lang/IllegalArgumentException" Z
set_option maxHeartbeats 1000000 in
theorem uT_X6_society_b43 {Q : String → sT → Prop} {Q' : String → zT → Prop}  {S : sT} {Z : zT} (hSt : cSt P) (hQ : ∀ x S Z, CC H E S Z → P S → Q' x Z → Q x S)   (hC : CC H E S Z) (hP : P S) (h : vT_X6_society_b43 E Z Q') : wT_X6_society_b43 S Q := by
  unfold vT_X6_society_b43 at h
  unfold wT_X6_society_b43
  exact hQ _ _ _ hC hP h
def vT_X6_society_b0 (E : eT) (x1 : Int32) (x2 : Int32) (x3 : Int32) (x4 : Int32) (Z : zT) (QX : String → zT → Prop) : Prop :=
  v_X6_isWithin E x1 (1 : Int32) (9 : Int32) Z (fun x102 Z101 =>
  ((x102 = 0 →
  vT_X6_society_b43 E Z101 QX) ∧
  (¬ x102 = 0 →
  v_X6_isWithin E x2 (0 : Int32) (50 : Int32) Z101 (fun x105 Z104 =>
  ((x105 = 0 →
  vT_X6_society_b43 E Z104 QX) ∧
  (¬ x105 = 0 →
  v_X6_isWithin E x3 (0 : Int32) (209 : Int32) Z104 (fun x108 Z107 =>
  ((x108 = 0 →
  vT_X6_society_b43 E Z107 QX) ∧
  (¬ x108 = 0 →
  v_X6_isWithin E x4 (1 : Int32) (210 : Int32) Z107 (fun x111 Z110 =>
  ((¬ x111 = 0 →
  ∀ x116 : Int32, x116 = nI E.1 →
  ((x116 < (3 : Int32) →
  False) ∧
  (¬ x116 < (3 : Int32) →
  QX "java/lang/IllegalStateException" Z110))) ∧
  (x111 = 0 →
  vT_X6_society_b43 E Z110 QX))))))))))))
set_option maxHeartbeats 1000000 in
theorem uT_X6_society_b0 {Q : String → sT → Prop} {Q' : String → zT → Prop} {x1 : Int32} {x2 : Int32} {x3 : Int32} {x4 : Int32} {S : sT} {Z : zT} (hSt : cSt P) (hQ : ∀ x S Z, CC H E S Z → P S → Q' x Z → Q x S)   (hC : CC H E S Z) (hP : P S) (h : vT_X6_society_b0 E x1 x2 x3 x4 Z Q') : wT_X6_society_b0 (H 0 9 0) x1 x2 x3 x4 S Q := by
  unfold vT_X6_society_b0 at h
  unfold wT_X6_society_b0
  refine u_X6_isWithin hSt (fun x102 S101 Z101 hC hP h => ?_) hC hP h
  refine ⟨fun c => ?_, fun c => ?_⟩
  · replace h := h.1 c
    exact uT_X6_society_b43 hSt hQ hC hP h
  · replace h := h.2 c
    refine u_X6_isWithin hSt (fun x105 S104 Z104 hC hP h => ?_) hC hP h
    refine ⟨fun c => ?_, fun c => ?_⟩
    · replace h := h.1 c
      exact uT_X6_society_b43 hSt hQ hC hP h
    · replace h := h.2 c
      refine u_X6_isWithin hSt (fun x108 S107 Z107 hC hP h => ?_) hC hP h
      refine ⟨fun c => ?_, fun c => ?_⟩
      · replace h := h.1 c
        exact uT_X6_society_b43 hSt hQ hC hP h
      · replace h := h.2 c
        refine u_X6_isWithin hSt (fun x111 S110 Z110 hC hP h => ?_) hC hP h
        refine ⟨fun c => ?_, fun c => ?_⟩
        · replace h := h.1 c
          refine ⟨rK_Sub hC, ?_⟩
          refine ⟨_, rF_224 hC, ?_⟩
          refine ⟨rK_Hill hC z02, ?_⟩
          refine ⟨_, rF_96 hC z02, ?_⟩
          refine ⟨rK_LS hC z02, ?_⟩
          refine us_size (rL_LS hC z02) ?_
          replace h := h _ rfl
          refine ⟨fun c => ?_, fun c => ?_⟩
          · replace h := h.1 c
            exact h.elim
          · replace h := h.2 c
            exact hQ _ _ _ hC hP h
        · replace h := h.2 c
          exact uT_X6_society_b43 hSt hQ hC hP h
def vT_X6_society (E : eT) (x1 : Int32) (x2 : Int32) (x3 : Int32) (x4 : Int32) (Z : zT) (QX : String → zT → Prop) : Prop :=
  vT_X6_society_b0 E x1 x2 x3 x4 Z QX
set_option maxHeartbeats 1000000 in
theorem uT_X6_society {Q : String → sT → Prop} {Q' : String → zT → Prop} {x1 : Int32} {x2 : Int32} {x3 : Int32} {x4 : Int32} {S : sT} {Z : zT} (hSt : cSt P) (hQ : ∀ x S Z, CC H E S Z → P S → Q' x Z → Q x S)   (hC : CC H E S Z) (hP : P S) (h : vT_X6_society E x1 x2 x3 x4 Z Q') : wT_X6_society (H 0 9 0) x1 x2 x3 x4 S Q := by
  unfold vT_X6_society at h
  unfold wT_X6_society
  exact uT_X6_society_b0 hSt hQ hC hP h
def vT_X6_societyAt_b18 (E : eT) (Z : zT) (QX : String → zT → Prop) : Prop :=
  QX "java/lang/IndexOutOfBoundsException" Z
set_option maxHeartbeats 1000000 in
theorem uT_X6_societyAt_b18 {Q : String → sT → Prop} {Q' : String → zT → Prop}  {S : sT} {Z : zT} (hSt : cSt P) (hQ : ∀ x S Z, CC H E S Z → P S → Q' x Z → Q x S)   (hC : CC H E S Z) (hP : P S) (h : vT_X6_societyAt_b18 E Z Q') : wT_X6_societyAt_b18 S Q := by
  unfold vT_X6_societyAt_b18 at h
  unfold wT_X6_societyAt_b18
  exact hQ _ _ _ hC hP h
def vT_X6_societyAt_b0 (E : eT) (x1 : Int32) (Z : zT) (QX : String → zT → Prop) : Prop :=
  ((x1 < 0 →
  vT_X6_societyAt_b18 E Z QX) ∧
  (¬ x1 < 0 →
  ∀ x105 : Int32, x105 = nI E.1 →
  ((x1 < x105 →
  False) ∧
  (¬ x1 < x105 →
  vT_X6_societyAt_b18 E Z QX))))
set_option maxHeartbeats 1000000 in
theorem uT_X6_societyAt_b0 {Q : String → sT → Prop} {Q' : String → zT → Prop} {x1 : Int32} {S : sT} {Z : zT} (hSt : cSt P) (hQ : ∀ x S Z, CC H E S Z → P S → Q' x Z → Q x S)   (hC : CC H E S Z) (hP : P S) (h : vT_X6_societyAt_b0 E x1 Z Q') : wT_X6_societyAt_b0 (H 0 9 0) x1 S Q := by
  unfold vT_X6_societyAt_b0 at h
  unfold wT_X6_societyAt_b0
  refine ⟨fun c => ?_, fun c => ?_⟩
  · replace h := h.1 c
    exact uT_X6_societyAt_b18 hSt hQ hC hP h
  · replace h := h.2 c
    refine ⟨rK_Sub hC, ?_⟩
    refine ⟨_, rF_224 hC, ?_⟩
    refine ⟨rK_Hill hC z02, ?_⟩
    refine ⟨_, rF_96 hC z02, ?_⟩
    refine ⟨rK_LS hC z02, ?_⟩
    refine us_size (rL_LS hC z02) ?_
    replace h := h _ rfl
    refine ⟨fun c => ?_, fun c => ?_⟩
    · replace h := h.1 c
      exact h.elim
    · replace h := h.2 c
      exact uT_X6_societyAt_b18 hSt hQ hC hP h
def vT_X6_societyAt (E : eT) (x1 : Int32) (Z : zT) (QX : String → zT → Prop) : Prop :=
  vT_X6_societyAt_b0 E x1 Z QX
set_option maxHeartbeats 1000000 in
theorem uT_X6_societyAt {Q : String → sT → Prop} {Q' : String → zT → Prop} {x1 : Int32} {S : sT} {Z : zT} (hSt : cSt P) (hQ : ∀ x S Z, CC H E S Z → P S → Q' x Z → Q x S)   (hC : CC H E S Z) (hP : P S) (h : vT_X6_societyAt E x1 Z Q') : wT_X6_societyAt (H 0 9 0) x1 S Q := by
  unfold vT_X6_societyAt at h
  unfold wT_X6_societyAt
  exact uT_X6_societyAt_b0 hSt hQ hC hP h
def vT_X6_field_b26 (E : eT) (Z : zT) (QX : String → zT → Prop) : Prop :=
  QX "java/lang/IllegalArgumentException" Z
set_option maxHeartbeats 1000000 in
theorem uT_X6_field_b26 {Q : String → sT → Prop} {Q' : String → zT → Prop}  {S : sT} {Z : zT} (hSt : cSt P) (hQ : ∀ x S Z, CC H E S Z → P S → Q' x Z → Q x S)   (hC : CC H E S Z) (hP : P S) (h : vT_X6_field_b26 E Z Q') : wT_X6_field_b26 S Q := by
  unfold vT_X6_field_b26 at h
  unfold wT_X6_field_b26
  exact hQ _ _ _ hC hP h
def vT_X6_field_b0 (E : eT) (x1 : Int32) (x2 : Int32) (x3 : Int32) (Z : zT) (QX : String → zT → Prop) : Prop :=
  ((v_X6_societyAt E x1 Z (fun a102 Z101 =>
  v_X6_isWithin E x2 (1 : Int32) (9 : Int32) Z101 (fun x104 Z103 =>
  ((x104 = 0 →
  vT_X6_field_b26 E Z103 QX) ∧
  (¬ x104 = 0 →
  v_X6_isWithin E x3 (5 : Int32) (60 : Int32) Z103 (fun x107 Z106 =>
  ((¬ x107 = 0 →
  ∀ x112 : Int32, x112 = nI E.2.1 →
  ((x112 < (12 : Int32) →
  False) ∧
  (¬ x112 < (12 : Int32) →
  QX "java/lang/IllegalStateException" Z106))) ∧
  (x107 = 0 →
  vT_X6_field_b26 E Z106 QX)))))))) ∨ (
  vT_X6_societyAt E x1 Z QX))
set_option maxHeartbeats 1000000 in
theorem uT_X6_field_b0 {Q : String → sT → Prop} {Q' : String → zT → Prop} {x1 : Int32} {x2 : Int32} {x3 : Int32} {S : sT} {Z : zT} (hSt : cSt P) (hQ : ∀ x S Z, CC H E S Z → P S → Q' x Z → Q x S)   (hC : CC H E S Z) (hP : P S) (h : vT_X6_field_b0 E x1 x2 x3 Z Q') : wT_X6_field_b0 (H 0 9 0) x1 x2 x3 S Q := by
  unfold vT_X6_field_b0 at h
  unfold wT_X6_field_b0
  refine ⟨rK_Sub hC, ?_⟩
  refine h.elim (fun h => Or.inl ?_) (fun h => Or.inr ?_)
  · skip
    refine u_X6_societyAt hSt (fun a102 S101 Z101 k_a102 hC hP h => ?_) hC hP h
    refine u_X6_isWithin hSt (fun x104 S103 Z103 hC hP h => ?_) hC hP h
    refine ⟨fun c => ?_, fun c => ?_⟩
    · replace h := h.1 c
      exact uT_X6_field_b26 hSt hQ hC hP h
    · replace h := h.2 c
      refine u_X6_isWithin hSt (fun x107 S106 Z106 hC hP h => ?_) hC hP h
      refine ⟨fun c => ?_, fun c => ?_⟩
      · replace h := h.1 c
        refine ⟨rK_Sub hC, ?_⟩
        refine ⟨_, rF_224 hC, ?_⟩
        refine ⟨rK_Hill hC z02, ?_⟩
        refine ⟨_, rF_97 hC z02, ?_⟩
        refine ⟨rK_LF hC z02, ?_⟩
        refine us_size (rL_LF hC z02) ?_
        replace h := h _ rfl
        refine ⟨fun c => ?_, fun c => ?_⟩
        · replace h := h.1 c
          exact h.elim
        · replace h := h.2 c
          exact hQ _ _ _ hC hP h
      · replace h := h.2 c
        exact uT_X6_field_b26 hSt hQ hC hP h
  · skip
    exact uT_X6_societyAt hSt hQ hC hP h
def vT_X6_field (E : eT) (x1 : Int32) (x2 : Int32) (x3 : Int32) (Z : zT) (QX : String → zT → Prop) : Prop :=
  vT_X6_field_b0 E x1 x2 x3 Z QX
set_option maxHeartbeats 1000000 in
theorem uT_X6_field {Q : String → sT → Prop} {Q' : String → zT → Prop} {x1 : Int32} {x2 : Int32} {x3 : Int32} {S : sT} {Z : zT} (hSt : cSt P) (hQ : ∀ x S Z, CC H E S Z → P S → Q' x Z → Q x S)   (hC : CC H E S Z) (hP : P S) (h : vT_X6_field E x1 x2 x3 Z Q') : wT_X6_field (H 0 9 0) x1 x2 x3 S Q := by
  unfold vT_X6_field at h
  unfold wT_X6_field
  exact uT_X6_field_b0 hSt hQ hC hP h
def vT_X6_fieldAt_b18 (E : eT) (Z : zT) (QX : String → zT → Prop) : Prop :=
  QX "java/lang/IndexOutOfBoundsException" Z
set_option maxHeartbeats 1000000 in
theorem uT_X6_fieldAt_b18 {Q : String → sT → Prop} {Q' : String → zT → Prop}  {S : sT} {Z : zT} (hSt : cSt P) (hQ : ∀ x S Z, CC H E S Z → P S → Q' x Z → Q x S)   (hC : CC H E S Z) (hP : P S) (h : vT_X6_fieldAt_b18 E Z Q') : wT_X6_fieldAt_b18 S Q := by
  unfold vT_X6_fieldAt_b18 at h
  unfold wT_X6_fieldAt_b18
  exact hQ _ _ _ hC hP h
def vT_X6_fieldAt_b0 (E : eT) (x1 : Int32) (Z : zT) (QX : String → zT → Prop) : Prop :=
  ((x1 < 0 →
  vT_X6_fieldAt_b18 E Z QX) ∧
  (¬ x1 < 0 →
  ∀ x105 : Int32, x105 = nI E.2.1 →
  ((x1 < x105 →
  False) ∧
  (¬ x1 < x105 →
  vT_X6_fieldAt_b18 E Z QX))))
set_option maxHeartbeats 1000000 in
theorem uT_X6_fieldAt_b0 {Q : String → sT → Prop} {Q' : String → zT → Prop} {x1 : Int32} {S : sT} {Z : zT} (hSt : cSt P) (hQ : ∀ x S Z, CC H E S Z → P S → Q' x Z → Q x S)   (hC : CC H E S Z) (hP : P S) (h : vT_X6_fieldAt_b0 E x1 Z Q') : wT_X6_fieldAt_b0 (H 0 9 0) x1 S Q := by
  unfold vT_X6_fieldAt_b0 at h
  unfold wT_X6_fieldAt_b0
  refine ⟨fun c => ?_, fun c => ?_⟩
  · replace h := h.1 c
    exact uT_X6_fieldAt_b18 hSt hQ hC hP h
  · replace h := h.2 c
    refine ⟨rK_Sub hC, ?_⟩
    refine ⟨_, rF_224 hC, ?_⟩
    refine ⟨rK_Hill hC z02, ?_⟩
    refine ⟨_, rF_97 hC z02, ?_⟩
    refine ⟨rK_LF hC z02, ?_⟩
    refine us_size (rL_LF hC z02) ?_
    replace h := h _ rfl
    refine ⟨fun c => ?_, fun c => ?_⟩
    · replace h := h.1 c
      exact h.elim
    · replace h := h.2 c
      exact uT_X6_fieldAt_b18 hSt hQ hC hP h
def vT_X6_fieldAt (E : eT) (x1 : Int32) (Z : zT) (QX : String → zT → Prop) : Prop :=
  vT_X6_fieldAt_b0 E x1 Z QX
set_option maxHeartbeats 1000000 in
theorem uT_X6_fieldAt {Q : String → sT → Prop} {Q' : String → zT → Prop} {x1 : Int32} {S : sT} {Z : zT} (hSt : cSt P) (hQ : ∀ x S Z, CC H E S Z → P S → Q' x Z → Q x S)   (hC : CC H E S Z) (hP : P S) (h : vT_X6_fieldAt E x1 Z Q') : wT_X6_fieldAt (H 0 9 0) x1 S Q := by
  unfold vT_X6_fieldAt at h
  unfold wT_X6_fieldAt
  exact uT_X6_fieldAt_b0 hSt hQ hC hP h
def vT_X6_gate_b0 (E : eT) (x1 : Int32) (x2 : Int32) (Z : zT) (QX : String → zT → Prop) : Prop :=
  ((v_X6_fieldAt E x1 Z (fun a102 Z101 =>
  False)) ∨ (
  vT_X6_fieldAt E x1 Z QX))
set_option maxHeartbeats 1000000 in
theorem uT_X6_gate_b0 {Q : String → sT → Prop} {Q' : String → zT → Prop} {x1 : Int32} {x2 : Int32} {S : sT} {Z : zT} (hSt : cSt P) (hQ : ∀ x S Z, CC H E S Z → P S → Q' x Z → Q x S)   (hC : CC H E S Z) (hP : P S) (h : vT_X6_gate_b0 E x1 x2 Z Q') : wT_X6_gate_b0 (H 0 9 0) x1 x2 S Q := by
  unfold vT_X6_gate_b0 at h
  unfold wT_X6_gate_b0
  refine ⟨rK_Sub hC, ?_⟩
  refine h.elim (fun h => Or.inl ?_) (fun h => Or.inr ?_)
  · skip
    refine u_X6_fieldAt hSt (fun a102 S101 Z101 k_a102 hC hP h => ?_) hC hP h
    exact h.elim
  · skip
    exact uT_X6_fieldAt hSt hQ hC hP h
def vT_X6_gate (E : eT) (x1 : Int32) (x2 : Int32) (Z : zT) (QX : String → zT → Prop) : Prop :=
  vT_X6_gate_b0 E x1 x2 Z QX
set_option maxHeartbeats 1000000 in
theorem uT_X6_gate {Q : String → sT → Prop} {Q' : String → zT → Prop} {x1 : Int32} {x2 : Int32} {S : sT} {Z : zT} (hSt : cSt P) (hQ : ∀ x S Z, CC H E S Z → P S → Q' x Z → Q x S)   (hC : CC H E S Z) (hP : P S) (h : vT_X6_gate E x1 x2 Z Q') : wT_X6_gate (H 0 9 0) x1 x2 S Q := by
  unfold vT_X6_gate at h
  unfold wT_X6_gate
  exact uT_X6_gate_b0 hSt hQ hC hP h
def vT_X6_stones_b0 (E : eT) (x1 : Int32) (x2 : Int32) (Z : zT) (QX : String → zT → Prop) : Prop :=
  ((v_X6_fieldAt E x1 Z (fun a102 Z101 =>
  v_X6_isWithin E x2 (0 : Int32) (5 : Int32) Z101 (fun x104 Z103 =>
  ((¬ x104 = 0 →
  False) ∧
  (x104 = 0 →
  QX "java/lang/IllegalArgumentException" Z103))))) ∨ (
  vT_X6_fieldAt E x1 Z QX))
set_option maxHeartbeats 1000000 in
theorem uT_X6_stones_b0 {Q : String → sT → Prop} {Q' : String → zT → Prop} {x1 : Int32} {x2 : Int32} {S : sT} {Z : zT} (hSt : cSt P) (hQ : ∀ x S Z, CC H E S Z → P S → Q' x Z → Q x S)   (hC : CC H E S Z) (hP : P S) (h : vT_X6_stones_b0 E x1 x2 Z Q') : wT_X6_stones_b0 (H 0 9 0) x1 x2 S Q := by
  unfold vT_X6_stones_b0 at h
  unfold wT_X6_stones_b0
  refine ⟨rK_Sub hC, ?_⟩
  refine h.elim (fun h => Or.inl ?_) (fun h => Or.inr ?_)
  · skip
    refine u_X6_fieldAt hSt (fun a102 S101 Z101 k_a102 hC hP h => ?_) hC hP h
    refine u_X6_isWithin hSt (fun x104 S103 Z103 hC hP h => ?_) hC hP h
    refine ⟨fun c => ?_, fun c => ?_⟩
    · replace h := h.1 c
      exact h.elim
    · replace h := h.2 c
      exact hQ _ _ _ hC hP h
  · skip
    exact uT_X6_fieldAt hSt hQ hC hP h
def vT_X6_stones (E : eT) (x1 : Int32) (x2 : Int32) (Z : zT) (QX : String → zT → Prop) : Prop :=
  vT_X6_stones_b0 E x1 x2 Z QX
set_option maxHeartbeats 1000000 in
theorem uT_X6_stones {Q : String → sT → Prop} {Q' : String → zT → Prop} {x1 : Int32} {x2 : Int32} {S : sT} {Z : zT} (hSt : cSt P) (hQ : ∀ x S Z, CC H E S Z → P S → Q' x Z → Q x S)   (hC : CC H E S Z) (hP : P S) (h : vT_X6_stones E x1 x2 Z Q') : wT_X6_stones (H 0 9 0) x1 x2 S Q := by
  unfold vT_X6_stones at h
  unfold wT_X6_stones
  exact uT_X6_stones_b0 hSt hQ hC hP h
def vT_X6_rotate_b0 (E : eT) (x1 : Int32) (x2 : Int32) (Z : zT) (QX : String → zT → Prop) : Prop :=
  ((v_X6_societyAt E x1 Z (fun a102 Z101 =>
  False)) ∨ (
  vT_X6_societyAt E x1 Z QX))
set_option maxHeartbeats 1000000 in
theorem uT_X6_rotate_b0 {Q : String → sT → Prop} {Q' : String → zT → Prop} {x1 : Int32} {x2 : Int32} {S : sT} {Z : zT} (hSt : cSt P) (hQ : ∀ x S Z, CC H E S Z → P S → Q' x Z → Q x S)   (hC : CC H E S Z) (hP : P S) (h : vT_X6_rotate_b0 E x1 x2 Z Q') : wT_X6_rotate_b0 (H 0 9 0) x1 x2 S Q := by
  unfold vT_X6_rotate_b0 at h
  unfold wT_X6_rotate_b0
  refine ⟨rK_Sub hC, ?_⟩
  refine h.elim (fun h => Or.inl ?_) (fun h => Or.inr ?_)
  · skip
    refine u_X6_societyAt hSt (fun a102 S101 Z101 k_a102 hC hP h => ?_) hC hP h
    exact h.elim
  · skip
    exact uT_X6_societyAt hSt hQ hC hP h
def vT_X6_rotate (E : eT) (x1 : Int32) (x2 : Int32) (Z : zT) (QX : String → zT → Prop) : Prop :=
  vT_X6_rotate_b0 E x1 x2 Z QX
set_option maxHeartbeats 1000000 in
theorem uT_X6_rotate {Q : String → sT → Prop} {Q' : String → zT → Prop} {x1 : Int32} {x2 : Int32} {S : sT} {Z : zT} (hSt : cSt P) (hQ : ∀ x S Z, CC H E S Z → P S → Q' x Z → Q x S)   (hC : CC H E S Z) (hP : P S) (h : vT_X6_rotate E x1 x2 Z Q') : wT_X6_rotate (H 0 9 0) x1 x2 S Q := by
  unfold vT_X6_rotate at h
  unfold wT_X6_rotate
  exact uT_X6_rotate_b0 hSt hQ hC hP h
def vT_X6_puddle_b25 (E : eT) (Z : zT) (QX : String → zT → Prop) : Prop :=
  QX "java/lang/IllegalStateException" Z
set_option maxHeartbeats 1000000 in
theorem uT_X6_puddle_b25 {Q : String → sT → Prop} {Q' : String → zT → Prop}  {S : sT} {Z : zT} (hSt : cSt P) (hQ : ∀ x S Z, CC H E S Z → P S → Q' x Z → Q x S)   (hC : CC H E S Z) (hP : P S) (h : vT_X6_puddle_b25 E Z Q') : wT_X6_puddle_b25 S Q := by
  unfold vT_X6_puddle_b25 at h
  unfold wT_X6_puddle_b25
  exact hQ _ _ _ hC hP h
def vT_X6_puddle_b0 (E : eT) (x1 : Int32) (Z : zT) (QX : String → zT → Prop) : Prop :=
  ((v_X6_fieldAt E x1 Z (fun a102 Z101 =>
  ∀ x104 : Int32, x104 = Z101 0 4 a102 →
  ((¬ x104 = 0 →
  vT_X6_puddle_b25 E Z101 QX) ∧
  (x104 = 0 →
  ∀ x106 : Int32, x106 = Z101 0 1 a102 →
  (((10 : Int32) ≤ x106 →
  False) ∧
  (¬ (10 : Int32) ≤ x106 →
  vT_X6_puddle_b25 E Z101 QX)))))) ∨ (
  vT_X6_fieldAt E x1 Z QX))
set_option maxHeartbeats 1000000 in
theorem uT_X6_puddle_b0 {Q : String → sT → Prop} {Q' : String → zT → Prop} {x1 : Int32} {S : sT} {Z : zT} (hSt : cSt P) (hQ : ∀ x S Z, CC H E S Z → P S → Q' x Z → Q x S)   (hC : CC H E S Z) (hP : P S) (h : vT_X6_puddle_b0 E x1 Z Q') : wT_X6_puddle_b0 (H 0 9 0) x1 S Q := by
  unfold vT_X6_puddle_b0 at h
  unfold wT_X6_puddle_b0
  refine ⟨rK_Sub hC, ?_⟩
  refine h.elim (fun h => Or.inl ?_) (fun h => Or.inr ?_)
  · skip
    refine u_X6_fieldAt hSt (fun a102 S101 Z101 k_a102 hC hP h => ?_) hC hP h
    refine ⟨rK_Fld hC z02 k_a102, ?_⟩
    refine ⟨_, rF_69 hC z02 k_a102, ?_⟩
    refine ⟨rK_Crp hC z02 k_a102, ?_⟩
    intro x104 ex
    replace h := h x104 (ex.trans (rI_4 hC z02 k_a102))
    refine ⟨fun c => ?_, fun c => ?_⟩
    · replace h := h.1 c
      exact uT_X6_puddle_b25 hSt hQ hC hP h
    · replace h := h.2 c
      intro x106 ex
      replace h := h x106 (ex.trans (rI_1 hC z02 k_a102))
      refine ⟨fun c => ?_, fun c => ?_⟩
      · replace h := h.1 c
        exact h.elim
      · replace h := h.2 c
        exact uT_X6_puddle_b25 hSt hQ hC hP h
  · skip
    exact uT_X6_fieldAt hSt hQ hC hP h
def vT_X6_puddle (E : eT) (x1 : Int32) (Z : zT) (QX : String → zT → Prop) : Prop :=
  vT_X6_puddle_b0 E x1 Z QX
set_option maxHeartbeats 1000000 in
theorem uT_X6_puddle {Q : String → sT → Prop} {Q' : String → zT → Prop} {x1 : Int32} {S : sT} {Z : zT} (hSt : cSt P) (hQ : ∀ x S Z, CC H E S Z → P S → Q' x Z → Q x S)   (hC : CC H E S Z) (hP : P S) (h : vT_X6_puddle E x1 Z Q') : wT_X6_puddle (H 0 9 0) x1 S Q := by
  unfold vT_X6_puddle at h
  unfold wT_X6_puddle
  exact uT_X6_puddle_b0 hSt hQ hC hP h
def vT_X6_checkKind_b0 (E : eT) (x0 : Int32) (Z : zT) (QX : String → zT → Prop) : Prop :=
  v_X6_isWithin E x0 (0 : Int32) (2 : Int32) Z (fun x102 Z101 =>
  ((¬ x102 = 0 →
  False) ∧
  (x102 = 0 →
  QX "java/lang/IllegalArgumentException" Z101)))
set_option maxHeartbeats 1000000 in
theorem uT_X6_checkKind_b0 {Q : String → sT → Prop} {Q' : String → zT → Prop} {x0 : Int32} {S : sT} {Z : zT} (hSt : cSt P) (hQ : ∀ x S Z, CC H E S Z → P S → Q' x Z → Q x S)   (hC : CC H E S Z) (hP : P S) (h : vT_X6_checkKind_b0 E x0 Z Q') : wT_X6_checkKind_b0 x0 S Q := by
  unfold vT_X6_checkKind_b0 at h
  unfold wT_X6_checkKind_b0
  refine u_X6_isWithin hSt (fun x102 S101 Z101 hC hP h => ?_) hC hP h
  refine ⟨fun c => ?_, fun c => ?_⟩
  · replace h := h.1 c
    exact h.elim
  · replace h := h.2 c
    exact hQ _ _ _ hC hP h
def vT_X6_checkKind (E : eT) (x0 : Int32) (Z : zT) (QX : String → zT → Prop) : Prop :=
  vT_X6_checkKind_b0 E x0 Z QX
set_option maxHeartbeats 1000000 in
theorem uT_X6_checkKind {Q : String → sT → Prop} {Q' : String → zT → Prop} {x0 : Int32} {S : sT} {Z : zT} (hSt : cSt P) (hQ : ∀ x S Z, CC H E S Z → P S → Q' x Z → Q x S)   (hC : CC H E S Z) (hP : P S) (h : vT_X6_checkKind E x0 Z Q') : wT_X6_checkKind x0 S Q := by
  unfold vT_X6_checkKind at h
  unfold wT_X6_checkKind
  exact uT_X6_checkKind_b0 hSt hQ hC hP h
def vT_X6_plant_b42 (E : eT) (Z : zT) (QX : String → zT → Prop) : Prop :=
  QX "java/lang/IllegalStateException" Z
set_option maxHeartbeats 1000000 in
theorem uT_X6_plant_b42 {Q : String → sT → Prop} {Q' : String → zT → Prop}  {S : sT} {Z : zT} (hSt : cSt P) (hQ : ∀ x S Z, CC H E S Z → P S → Q' x Z → Q x S)   (hC : CC H E S Z) (hP : P S) (h : vT_X6_plant_b42 E Z Q') : wT_X6_plant_b42 S Q := by
  unfold vT_X6_plant_b42 at h
  unfold wT_X6_plant_b42
  exact hQ _ _ _ hC hP h
def vT_X6_plant_b0 (E : eT) (x1 : Int32) (x2 : Int32) (Z : zT) (QX : String → zT → Prop) : Prop :=
  ((v_X6_fieldAt E x1 Z (fun a102 Z101 =>
  ((v_X6_checkKind E x2 Z101 (fun Z103 =>
  ∀ x105 : Int32, x105 = Z103 0 4 a102 →
  ((¬ x105 = (1 : Int32) →
  vT_X6_plant_b42 E Z103 QX) ∧
  (x105 = (1 : Int32) →
  v_X2_isDark E 0 Z103 (fun x109 Z108 =>
  ((¬ x109 = 0 →
  vT_X6_plant_b42 E Z108 QX) ∧
  (x109 = 0 →
  ∀ x112 : Int32, x112 = Z108 0 10 a102 →
  (((3 : Int32) ≤ x112 →
  False) ∧
  (¬ (3 : Int32) ≤ x112 →
  vT_X6_plant_b42 E Z108 QX))))))))) ∨ (
  vT_X6_checkKind E x2 Z101 QX)))) ∨ (
  vT_X6_fieldAt E x1 Z QX))
set_option maxHeartbeats 1000000 in
theorem uT_X6_plant_b0 {Q : String → sT → Prop} {Q' : String → zT → Prop} {x1 : Int32} {x2 : Int32} {S : sT} {Z : zT} (hSt : cSt P) (hQ : ∀ x S Z, CC H E S Z → P S → Q' x Z → Q x S)   (hC : CC H E S Z) (hP : P S) (h : vT_X6_plant_b0 E x1 x2 Z Q') : wT_X6_plant_b0 (H 0 9 0) x1 x2 S Q := by
  unfold vT_X6_plant_b0 at h
  unfold wT_X6_plant_b0
  refine ⟨rK_Sub hC, ?_⟩
  refine h.elim (fun h => Or.inl ?_) (fun h => Or.inr ?_)
  · skip
    refine u_X6_fieldAt hSt (fun a102 S101 Z101 k_a102 hC hP h => ?_) hC hP h
    refine h.elim (fun h => Or.inl ?_) (fun h => Or.inr ?_)
    · skip
      refine u_X6_checkKind hSt (fun S103 Z103 hC hP h => ?_) hC hP h
      refine ⟨rK_Fld hC z02 k_a102, ?_⟩
      refine ⟨_, rF_69 hC z02 k_a102, ?_⟩
      refine ⟨rK_Crp hC z02 k_a102, ?_⟩
      intro x105 ex
      replace h := h x105 (ex.trans (rI_4 hC z02 k_a102))
      refine ⟨fun c => ?_, fun c => ?_⟩
      · replace h := h.1 c
        exact uT_X6_plant_b42 hSt hQ hC hP h
      · replace h := h.2 c
        refine ⟨rK_Sub hC, ?_⟩
        refine ⟨_, rF_224 hC, ?_⟩
        refine ⟨rK_Hill hC z02, ?_⟩
        refine u_X2_isDark hSt (fun x109 S108 Z108 hC hP h => ?_) z02 hC hP h
        refine ⟨fun c => ?_, fun c => ?_⟩
        · replace h := h.1 c
          exact uT_X6_plant_b42 hSt hQ hC hP h
        · replace h := h.2 c
          refine ⟨rK_Fld hC z02 k_a102, ?_⟩
          refine ⟨_, rF_69 hC z02 k_a102, ?_⟩
          refine ⟨rK_Crp hC z02 k_a102, ?_⟩
          intro x112 ex
          replace h := h x112 (ex.trans (rI_10 hC z02 k_a102))
          refine ⟨fun c => ?_, fun c => ?_⟩
          · replace h := h.1 c
            exact h.elim
          · replace h := h.2 c
            exact uT_X6_plant_b42 hSt hQ hC hP h
    · skip
      exact uT_X6_checkKind hSt hQ hC hP h
  · skip
    exact uT_X6_fieldAt hSt hQ hC hP h
def vT_X6_plant (E : eT) (x1 : Int32) (x2 : Int32) (Z : zT) (QX : String → zT → Prop) : Prop :=
  vT_X6_plant_b0 E x1 x2 Z QX
set_option maxHeartbeats 1000000 in
theorem uT_X6_plant {Q : String → sT → Prop} {Q' : String → zT → Prop} {x1 : Int32} {x2 : Int32} {S : sT} {Z : zT} (hSt : cSt P) (hQ : ∀ x S Z, CC H E S Z → P S → Q' x Z → Q x S)   (hC : CC H E S Z) (hP : P S) (h : vT_X6_plant E x1 x2 Z Q') : wT_X6_plant (H 0 9 0) x1 x2 S Q := by
  unfold vT_X6_plant at h
  unfold wT_X6_plant
  exact uT_X6_plant_b0 hSt hQ hC hP h
def vT_X6_help_b0 (E : eT) (x1 : Int32) (x2 : Int32) (Z : zT) (QX : String → zT → Prop) : Prop :=
  ((v_X6_fieldAt E x1 Z (fun a102 Z101 =>
  ((v_X6_fieldAt E x2 Z101 (fun a105 Z104 =>
  False)) ∨ (
  vT_X6_fieldAt E x2 Z101 QX)))) ∨ (
  vT_X6_fieldAt E x1 Z QX))
set_option maxHeartbeats 1000000 in
theorem uT_X6_help_b0 {Q : String → sT → Prop} {Q' : String → zT → Prop} {x1 : Int32} {x2 : Int32} {S : sT} {Z : zT} (hSt : cSt P) (hQ : ∀ x S Z, CC H E S Z → P S → Q' x Z → Q x S)   (hC : CC H E S Z) (hP : P S) (h : vT_X6_help_b0 E x1 x2 Z Q') : wT_X6_help_b0 (H 0 9 0) x1 x2 S Q := by
  unfold vT_X6_help_b0 at h
  unfold wT_X6_help_b0
  refine ⟨rK_Sub hC, ?_⟩
  refine h.elim (fun h => Or.inl ?_) (fun h => Or.inr ?_)
  · skip
    refine u_X6_fieldAt hSt (fun a102 S101 Z101 k_a102 hC hP h => ?_) hC hP h
    refine ⟨rK_Fld hC z02 k_a102, ?_⟩
    refine ⟨_, rF_68 hC z02 k_a102, ?_⟩
    refine ⟨rK_Sub hC, ?_⟩
    refine h.elim (fun h => Or.inl ?_) (fun h => Or.inr ?_)
    · skip
      refine u_X6_fieldAt hSt (fun a105 S104 Z104 k_a105 hC hP h => ?_) hC hP h
      exact h.elim
    · skip
      exact uT_X6_fieldAt hSt hQ hC hP h
  · skip
    exact uT_X6_fieldAt hSt hQ hC hP h
def vT_X6_help (E : eT) (x1 : Int32) (x2 : Int32) (Z : zT) (QX : String → zT → Prop) : Prop :=
  vT_X6_help_b0 E x1 x2 Z QX
set_option maxHeartbeats 1000000 in
theorem uT_X6_help {Q : String → sT → Prop} {Q' : String → zT → Prop} {x1 : Int32} {x2 : Int32} {S : sT} {Z : zT} (hSt : cSt P) (hQ : ∀ x S Z, CC H E S Z → P S → Q' x Z → Q x S)   (hC : CC H E S Z) (hP : P S) (h : vT_X6_help E x1 x2 Z Q') : wT_X6_help (H 0 9 0) x1 x2 S Q := by
  unfold vT_X6_help at h
  unfold wT_X6_help
  exact uT_X6_help_b0 hSt hQ hC hP h
def vT_X6_ducks_b0 (E : eT) (x1 : Int32) (x2 : Int32) (Z : zT) (QX : String → zT → Prop) : Prop :=
  ((v_X6_fieldAt E x1 Z (fun a102 Z101 =>
  False)) ∨ (
  vT_X6_fieldAt E x1 Z QX))
set_option maxHeartbeats 1000000 in
theorem uT_X6_ducks_b0 {Q : String → sT → Prop} {Q' : String → zT → Prop} {x1 : Int32} {x2 : Int32} {S : sT} {Z : zT} (hSt : cSt P) (hQ : ∀ x S Z, CC H E S Z → P S → Q' x Z → Q x S)   (hC : CC H E S Z) (hP : P S) (h : vT_X6_ducks_b0 E x1 x2 Z Q') : wT_X6_ducks_b0 (H 0 9 0) x1 x2 S Q := by
  unfold vT_X6_ducks_b0 at h
  unfold wT_X6_ducks_b0
  refine ⟨rK_Sub hC, ?_⟩
  refine h.elim (fun h => Or.inl ?_) (fun h => Or.inr ?_)
  · skip
    refine u_X6_fieldAt hSt (fun a102 S101 Z101 k_a102 hC hP h => ?_) hC hP h
    exact h.elim
  · skip
    exact uT_X6_fieldAt hSt hQ hC hP h
def vT_X6_ducks (E : eT) (x1 : Int32) (x2 : Int32) (Z : zT) (QX : String → zT → Prop) : Prop :=
  vT_X6_ducks_b0 E x1 x2 Z QX
set_option maxHeartbeats 1000000 in
theorem uT_X6_ducks {Q : String → sT → Prop} {Q' : String → zT → Prop} {x1 : Int32} {x2 : Int32} {S : sT} {Z : zT} (hSt : cSt P) (hQ : ∀ x S Z, CC H E S Z → P S → Q' x Z → Q x S)   (hC : CC H E S Z) (hP : P S) (h : vT_X6_ducks E x1 x2 Z Q') : wT_X6_ducks (H 0 9 0) x1 x2 S Q := by
  unfold vT_X6_ducks at h
  unfold wT_X6_ducks
  exact uT_X6_ducks_b0 hSt hQ hC hP h
def vT_X6_ripeFieldAt_b0 (E : eT) (x1 : Int32) (Z : zT) (QX : String → zT → Prop) : Prop :=
  ((v_X6_fieldAt E x1 Z (fun a102 Z101 =>
  ∀ x104 : Int32, x104 = Z101 0 4 a102 →
  ((x104 = (5 : Int32) →
  False) ∧
  (¬ x104 = (5 : Int32) →
  QX "java/lang/IllegalStateException" Z101)))) ∨ (
  vT_X6_fieldAt E x1 Z QX))
set_option maxHeartbeats 1000000 in
theorem uT_X6_ripeFieldAt_b0 {Q : String → sT → Prop} {Q' : String → zT → Prop} {x1 : Int32} {S : sT} {Z : zT} (hSt : cSt P) (hQ : ∀ x S Z, CC H E S Z → P S → Q' x Z → Q x S)   (hC : CC H E S Z) (hP : P S) (h : vT_X6_ripeFieldAt_b0 E x1 Z Q') : wT_X6_ripeFieldAt_b0 (H 0 9 0) x1 S Q := by
  unfold vT_X6_ripeFieldAt_b0 at h
  unfold wT_X6_ripeFieldAt_b0
  refine ⟨rK_Sub hC, ?_⟩
  refine h.elim (fun h => Or.inl ?_) (fun h => Or.inr ?_)
  · skip
    refine u_X6_fieldAt hSt (fun a102 S101 Z101 k_a102 hC hP h => ?_) hC hP h
    refine ⟨rK_Fld hC z02 k_a102, ?_⟩
    refine ⟨_, rF_69 hC z02 k_a102, ?_⟩
    refine ⟨rK_Crp hC z02 k_a102, ?_⟩
    intro x104 ex
    replace h := h x104 (ex.trans (rI_4 hC z02 k_a102))
    refine ⟨fun c => ?_, fun c => ?_⟩
    · replace h := h.1 c
      exact h.elim
    · replace h := h.2 c
      exact hQ _ _ _ hC hP h
  · skip
    exact uT_X6_fieldAt hSt hQ hC hP h
def vT_X6_ripeFieldAt (E : eT) (x1 : Int32) (Z : zT) (QX : String → zT → Prop) : Prop :=
  vT_X6_ripeFieldAt_b0 E x1 Z QX
set_option maxHeartbeats 1000000 in
theorem uT_X6_ripeFieldAt {Q : String → sT → Prop} {Q' : String → zT → Prop} {x1 : Int32} {S : sT} {Z : zT} (hSt : cSt P) (hQ : ∀ x S Z, CC H E S Z → P S → Q' x Z → Q x S)   (hC : CC H E S Z) (hP : P S) (h : vT_X6_ripeFieldAt E x1 Z Q') : wT_X6_ripeFieldAt (H 0 9 0) x1 S Q := by
  unfold vT_X6_ripeFieldAt at h
  unfold wT_X6_ripeFieldAt
  exact uT_X6_ripeFieldAt_b0 hSt hQ hC hP h
def vT_X6_harvest_b0 (E : eT) (x1 : Int32) (x2 : Int32) (Z : zT) (QX : String → zT → Prop) : Prop :=
  ((v_X6_ripeFieldAt E x1 Z (fun a102 Z101 =>
  False)) ∨ (
  vT_X6_ripeFieldAt E x1 Z QX))
set_option maxHeartbeats 1000000 in
theorem uT_X6_harvest_b0 {Q : String → sT → Prop} {Q' : String → zT → Prop} {x1 : Int32} {x2 : Int32} {S : sT} {Z : zT} (hSt : cSt P) (hQ : ∀ x S Z, CC H E S Z → P S → Q' x Z → Q x S)   (hC : CC H E S Z) (hP : P S) (h : vT_X6_harvest_b0 E x1 x2 Z Q') : wT_X6_harvest_b0 (H 0 9 0) x1 x2 S Q := by
  unfold vT_X6_harvest_b0 at h
  unfold wT_X6_harvest_b0
  refine ⟨rK_Sub hC, ?_⟩
  refine h.elim (fun h => Or.inl ?_) (fun h => Or.inr ?_)
  · skip
    refine u_X6_ripeFieldAt hSt (fun a102 S101 Z101 k_a102 hC hP h => ?_) hC hP h
    exact h.elim
  · skip
    exact uT_X6_ripeFieldAt hSt hQ hC hP h
def vT_X6_harvest (E : eT) (x1 : Int32) (x2 : Int32) (Z : zT) (QX : String → zT → Prop) : Prop :=
  vT_X6_harvest_b0 E x1 x2 Z QX
set_option maxHeartbeats 1000000 in
theorem uT_X6_harvest {Q : String → sT → Prop} {Q' : String → zT → Prop} {x1 : Int32} {x2 : Int32} {S : sT} {Z : zT} (hSt : cSt P) (hQ : ∀ x S Z, CC H E S Z → P S → Q' x Z → Q x S)   (hC : CC H E S Z) (hP : P S) (h : vT_X6_harvest E x1 x2 Z Q') : wT_X6_harvest (H 0 9 0) x1 x2 S Q := by
  unfold vT_X6_harvest at h
  unfold wT_X6_harvest
  exact uT_X6_harvest_b0 hSt hQ hC hP h
def vT_X6_cut_b0 (E : eT) (x1 : Int32) (Z : zT) (QX : String → zT → Prop) : Prop :=
  ((v_X6_ripeFieldAt E x1 Z (fun a102 Z101 =>
  False)) ∨ (
  vT_X6_ripeFieldAt E x1 Z QX))
set_option maxHeartbeats 1000000 in
theorem uT_X6_cut_b0 {Q : String → sT → Prop} {Q' : String → zT → Prop} {x1 : Int32} {S : sT} {Z : zT} (hSt : cSt P) (hQ : ∀ x S Z, CC H E S Z → P S → Q' x Z → Q x S)   (hC : CC H E S Z) (hP : P S) (h : vT_X6_cut_b0 E x1 Z Q') : wT_X6_cut_b0 (H 0 9 0) x1 S Q := by
  unfold vT_X6_cut_b0 at h
  unfold wT_X6_cut_b0
  refine ⟨rK_Sub hC, ?_⟩
  refine h.elim (fun h => Or.inl ?_) (fun h => Or.inr ?_)
  · skip
    refine u_X6_ripeFieldAt hSt (fun a102 S101 Z101 k_a102 hC hP h => ?_) hC hP h
    exact h.elim
  · skip
    exact uT_X6_ripeFieldAt hSt hQ hC hP h
def vT_X6_cut (E : eT) (x1 : Int32) (Z : zT) (QX : String → zT → Prop) : Prop :=
  vT_X6_cut_b0 E x1 Z QX
set_option maxHeartbeats 1000000 in
theorem uT_X6_cut {Q : String → sT → Prop} {Q' : String → zT → Prop} {x1 : Int32} {S : sT} {Z : zT} (hSt : cSt P) (hQ : ∀ x S Z, CC H E S Z → P S → Q' x Z → Q x S)   (hC : CC H E S Z) (hP : P S) (h : vT_X6_cut E x1 Z Q') : wT_X6_cut (H 0 9 0) x1 S Q := by
  unfold vT_X6_cut at h
  unfold wT_X6_cut
  exact uT_X6_cut_b0 hSt hQ hC hP h
def vT_X6_day_b31 (E : eT) (Z : zT) (QX : String → zT → Prop) : Prop :=
  QX "java/lang/IllegalArgumentException" Z
set_option maxHeartbeats 1000000 in
theorem uT_X6_day_b31 {Q : String → sT → Prop} {Q' : String → zT → Prop}  {S : sT} {Z : zT} (hSt : cSt P) (hQ : ∀ x S Z, CC H E S Z → P S → Q' x Z → Q x S)   (hC : CC H E S Z) (hP : P S) (h : vT_X6_day_b31 E Z Q') : wT_X6_day_b31 S Q := by
  unfold vT_X6_day_b31 at h
  unfold wT_X6_day_b31
  exact hQ _ _ _ hC hP h
def vT_X6_day_b0 (E : eT) (x1 : Int32) (x2 : Int32) (x3 : Int32) (Z : zT) (QX : String → zT → Prop) : Prop :=
  v_X6_isWithin E x1 (0 : Int32) (200 : Int32) Z (fun x102 Z101 =>
  ((x102 = 0 →
  vT_X6_day_b31 E Z101 QX) ∧
  (¬ x102 = 0 →
  v_X6_isWithin E x2 (0 : Int32) (40 : Int32) Z101 (fun x105 Z104 =>
  ((x105 = 0 →
  vT_X6_day_b31 E Z104 QX) ∧
  (¬ x105 = 0 →
  v_X6_isWithin E x3 (0 : Int32) (30 : Int32) Z104 (fun x108 Z107 =>
  ((¬ x108 = 0 →
  False) ∧
  (x108 = 0 →
  vT_X6_day_b31 E Z107 QX)))))))))
set_option maxHeartbeats 1000000 in
theorem uT_X6_day_b0 {Q : String → sT → Prop} {Q' : String → zT → Prop} {x1 : Int32} {x2 : Int32} {x3 : Int32} {S : sT} {Z : zT} (hSt : cSt P) (hQ : ∀ x S Z, CC H E S Z → P S → Q' x Z → Q x S)   (hC : CC H E S Z) (hP : P S) (h : vT_X6_day_b0 E x1 x2 x3 Z Q') : wT_X6_day_b0 (H 0 9 0) x1 x2 x3 S Q := by
  unfold vT_X6_day_b0 at h
  unfold wT_X6_day_b0
  refine u_X6_isWithin hSt (fun x102 S101 Z101 hC hP h => ?_) hC hP h
  refine ⟨fun c => ?_, fun c => ?_⟩
  · replace h := h.1 c
    exact uT_X6_day_b31 hSt hQ hC hP h
  · replace h := h.2 c
    refine u_X6_isWithin hSt (fun x105 S104 Z104 hC hP h => ?_) hC hP h
    refine ⟨fun c => ?_, fun c => ?_⟩
    · replace h := h.1 c
      exact uT_X6_day_b31 hSt hQ hC hP h
    · replace h := h.2 c
      refine u_X6_isWithin hSt (fun x108 S107 Z107 hC hP h => ?_) hC hP h
      refine ⟨fun c => ?_, fun c => ?_⟩
      · replace h := h.1 c
        exact h.elim
      · replace h := h.2 c
        exact uT_X6_day_b31 hSt hQ hC hP h
def vT_X6_day (E : eT) (x1 : Int32) (x2 : Int32) (x3 : Int32) (Z : zT) (QX : String → zT → Prop) : Prop :=
  vT_X6_day_b0 E x1 x2 x3 Z QX
set_option maxHeartbeats 1000000 in
theorem uT_X6_day {Q : String → sT → Prop} {Q' : String → zT → Prop} {x1 : Int32} {x2 : Int32} {x3 : Int32} {S : sT} {Z : zT} (hSt : cSt P) (hQ : ∀ x S Z, CC H E S Z → P S → Q' x Z → Q x S)   (hC : CC H E S Z) (hP : P S) (h : vT_X6_day E x1 x2 x3 Z Q') : wT_X6_day (H 0 9 0) x1 x2 x3 S Q := by
  unfold vT_X6_day at h
  unfold wT_X6_day
  exact uT_X6_day_b0 hSt hQ hC hP h
def vT_X6_inspect_b0 (E : eT) (x1 : Int32) (Z : zT) (QX : String → zT → Prop) : Prop :=
  ((v_X6_societyAt E x1 Z (fun a102 Z101 =>
  False)) ∨ (
  vT_X6_societyAt E x1 Z QX))
set_option maxHeartbeats 1000000 in
theorem uT_X6_inspect_b0 {Q : String → sT → Prop} {Q' : String → zT → Prop} {x1 : Int32} {S : sT} {Z : zT} (hSt : cSt P) (hQ : ∀ x S Z, CC H E S Z → P S → Q' x Z → Q x S)   (hC : CC H E S Z) (hP : P S) (h : vT_X6_inspect_b0 E x1 Z Q') : wT_X6_inspect_b0 (H 0 9 0) x1 S Q := by
  unfold vT_X6_inspect_b0 at h
  unfold wT_X6_inspect_b0
  refine ⟨rK_Sub hC, ?_⟩
  refine h.elim (fun h => Or.inl ?_) (fun h => Or.inr ?_)
  · skip
    refine u_X6_societyAt hSt (fun a102 S101 Z101 k_a102 hC hP h => ?_) hC hP h
    exact h.elim
  · skip
    exact uT_X6_societyAt hSt hQ hC hP h
def vT_X6_inspect (E : eT) (x1 : Int32) (Z : zT) (QX : String → zT → Prop) : Prop :=
  vT_X6_inspect_b0 E x1 Z QX
set_option maxHeartbeats 1000000 in
theorem uT_X6_inspect {Q : String → sT → Prop} {Q' : String → zT → Prop} {x1 : Int32} {S : sT} {Z : zT} (hSt : cSt P) (hQ : ∀ x S Z, CC H E S Z → P S → Q' x Z → Q x S)   (hC : CC H E S Z) (hP : P S) (h : vT_X6_inspect E x1 Z Q') : wT_X6_inspect (H 0 9 0) x1 S Q := by
  unfold vT_X6_inspect at h
  unfold wT_X6_inspect
  exact uT_X6_inspect_b0 hSt hQ hC hP h
def vT_X6_sell_b0 (E : eT) (x1 : Int32) (x2 : Int32) (Z : zT) (QX : String → zT → Prop) : Prop :=
  ((v_X6_fieldAt E x1 Z (fun a102 Z101 =>
  (((1 : Int32) ≤ x2 →
  ∀ x105 : Int32, x105 = Z101 0 19 a102 →
  ((x2 ≤ x105 →
  False) ∧
  (¬ x2 ≤ x105 →
  QX "java/lang/IllegalStateException" Z101))) ∧
  (¬ (1 : Int32) ≤ x2 →
  QX "java/lang/IllegalArgumentException" Z101)))) ∨ (
  vT_X6_fieldAt E x1 Z QX))
set_option maxHeartbeats 1000000 in
theorem uT_X6_sell_b0 {Q : String → sT → Prop} {Q' : String → zT → Prop} {x1 : Int32} {x2 : Int32} {S : sT} {Z : zT} (hSt : cSt P) (hQ : ∀ x S Z, CC H E S Z → P S → Q' x Z → Q x S)   (hC : CC H E S Z) (hP : P S) (h : vT_X6_sell_b0 E x1 x2 Z Q') : wT_X6_sell_b0 (H 0 9 0) x1 x2 S Q := by
  unfold vT_X6_sell_b0 at h
  unfold wT_X6_sell_b0
  refine ⟨rK_Sub hC, ?_⟩
  refine h.elim (fun h => Or.inl ?_) (fun h => Or.inr ?_)
  · skip
    refine u_X6_fieldAt hSt (fun a102 S101 Z101 k_a102 hC hP h => ?_) hC hP h
    refine ⟨rK_Fld hC z02 k_a102, ?_⟩
    refine ⟨_, rF_68 hC z02 k_a102, ?_⟩
    refine ⟨fun c => ?_, fun c => ?_⟩
    · replace h := h.1 c
      refine ⟨rK_Own hC z02 k_a102, ?_⟩
      intro x105 ex
      replace h := h x105 (ex.trans (rI_19 hC z02 k_a102))
      refine ⟨fun c => ?_, fun c => ?_⟩
      · replace h := h.1 c
        exact h.elim
      · replace h := h.2 c
        exact hQ _ _ _ hC hP h
    · replace h := h.2 c
      exact hQ _ _ _ hC hP h
  · skip
    exact uT_X6_fieldAt hSt hQ hC hP h
def vT_X6_sell (E : eT) (x1 : Int32) (x2 : Int32) (Z : zT) (QX : String → zT → Prop) : Prop :=
  vT_X6_sell_b0 E x1 x2 Z QX
set_option maxHeartbeats 1000000 in
theorem uT_X6_sell {Q : String → sT → Prop} {Q' : String → zT → Prop} {x1 : Int32} {x2 : Int32} {S : sT} {Z : zT} (hSt : cSt P) (hQ : ∀ x S Z, CC H E S Z → P S → Q' x Z → Q x S)   (hC : CC H E S Z) (hP : P S) (h : vT_X6_sell E x1 x2 Z Q') : wT_X6_sell (H 0 9 0) x1 x2 S Q := by
  unfold vT_X6_sell at h
  unfold wT_X6_sell
  exact uT_X6_sell_b0 hSt hQ hC hP h
def vT_X6_vote_b0 (E : eT) (x1 : Int32) (Z : zT) (QX : String → zT → Prop) : Prop :=
  ((v_X6_societyAt E x1 Z (fun a102 Z101 =>
  False)) ∨ (
  vT_X6_societyAt E x1 Z QX))
set_option maxHeartbeats 1000000 in
theorem uT_X6_vote_b0 {Q : String → sT → Prop} {Q' : String → zT → Prop} {x1 : Int32} {S : sT} {Z : zT} (hSt : cSt P) (hQ : ∀ x S Z, CC H E S Z → P S → Q' x Z → Q x S)   (hC : CC H E S Z) (hP : P S) (h : vT_X6_vote_b0 E x1 Z Q') : wT_X6_vote_b0 (H 0 9 0) x1 S Q := by
  unfold vT_X6_vote_b0 at h
  unfold wT_X6_vote_b0
  refine ⟨rK_Sub hC, ?_⟩
  refine h.elim (fun h => Or.inl ?_) (fun h => Or.inr ?_)
  · skip
    refine u_X6_societyAt hSt (fun a102 S101 Z101 k_a102 hC hP h => ?_) hC hP h
    exact h.elim
  · skip
    exact uT_X6_societyAt hSt hQ hC hP h
def vT_X6_vote (E : eT) (x1 : Int32) (Z : zT) (QX : String → zT → Prop) : Prop :=
  vT_X6_vote_b0 E x1 Z QX
set_option maxHeartbeats 1000000 in
theorem uT_X6_vote {Q : String → sT → Prop} {Q' : String → zT → Prop} {x1 : Int32} {S : sT} {Z : zT} (hSt : cSt P) (hQ : ∀ x S Z, CC H E S Z → P S → Q' x Z → Q x S)   (hC : CC H E S Z) (hP : P S) (h : vT_X6_vote E x1 Z Q') : wT_X6_vote (H 0 9 0) x1 S Q := by
  unfold vT_X6_vote at h
  unfold wT_X6_vote
  exact uT_X6_vote_b0 hSt hQ hC hP h
def vT_X6_ofField_b0 (E : eT) (x1 : Int32) (x2 : Int32) (Z : zT) (QX : String → zT → Prop) : Prop :=
  ((v_X6_fieldAt E x1 Z (fun a102 Z101 =>
  ((x2 = 0 →
  False) ∧
  (x2 = 1 →
  False) ∧
  (x2 = 2 →
  False) ∧
  (x2 = 3 →
  False) ∧
  (x2 = 4 →
  False) ∧
  (x2 = 5 →
  False) ∧
  (x2 = 6 →
  False) ∧
  (x2 = 7 →
  False) ∧
  (x2 = 8 →
  False) ∧
  (x2 = 9 →
  False) ∧
  (x2 = 10 →
  False) ∧
  (x2 = 11 →
  False) ∧
  (x2 = 12 →
  False) ∧
  (x2 = 13 →
  False) ∧
  ((¬ x2 = 0 ∧ ¬ x2 = 1 ∧ ¬ x2 = 2 ∧ ¬ x2 = 3 ∧ ¬ x2 = 4 ∧ ¬ x2 = 5 ∧ ¬ x2 = 6 ∧ ¬ x2 = 7 ∧ ¬ x2 = 8 ∧ ¬ x2 = 9 ∧ ¬ x2 = 10 ∧ ¬ x2 = 11 ∧ ¬ x2 = 12 ∧ ¬ x2 = 13) →
  QX "java/lang/IllegalArgumentException" Z101)))) ∨ (
  vT_X6_fieldAt E x1 Z QX))
set_option maxHeartbeats 1000000 in
theorem uT_X6_ofField_b0 {Q : String → sT → Prop} {Q' : String → zT → Prop} {x1 : Int32} {x2 : Int32} {S : sT} {Z : zT} (hSt : cSt P) (hQ : ∀ x S Z, CC H E S Z → P S → Q' x Z → Q x S)   (hC : CC H E S Z) (hP : P S) (h : vT_X6_ofField_b0 E x1 x2 Z Q') : wT_X6_ofField_b0 (H 0 9 0) x1 x2 S Q := by
  unfold vT_X6_ofField_b0 at h
  unfold wT_X6_ofField_b0
  refine ⟨rK_Sub hC, ?_⟩
  refine h.elim (fun h => Or.inl ?_) (fun h => Or.inr ?_)
  · skip
    refine u_X6_fieldAt hSt (fun a102 S101 Z101 k_a102 hC hP h => ?_) hC hP h
    refine ⟨fun c => ?_, fun c => ?_, fun c => ?_, fun c => ?_, fun c => ?_, fun c => ?_, fun c => ?_, fun c => ?_, fun c => ?_, fun c => ?_, fun c => ?_, fun c => ?_, fun c => ?_, fun c => ?_, fun c => ?_⟩
    · replace h := h.1 c
      exact h.elim
    · replace h := h.2.1 c
      exact h.elim
    · replace h := h.2.2.1 c
      exact h.elim
    · replace h := h.2.2.2.1 c
      exact h.elim
    · replace h := h.2.2.2.2.1 c
      exact h.elim
    · replace h := h.2.2.2.2.2.1 c
      exact h.elim
    · replace h := h.2.2.2.2.2.2.1 c
      exact h.elim
    · replace h := h.2.2.2.2.2.2.2.1 c
      exact h.elim
    · replace h := h.2.2.2.2.2.2.2.2.1 c
      exact h.elim
    · replace h := h.2.2.2.2.2.2.2.2.2.1 c
      exact h.elim
    · replace h := h.2.2.2.2.2.2.2.2.2.2.1 c
      exact h.elim
    · replace h := h.2.2.2.2.2.2.2.2.2.2.2.1 c
      exact h.elim
    · replace h := h.2.2.2.2.2.2.2.2.2.2.2.2.1 c
      exact h.elim
    · replace h := h.2.2.2.2.2.2.2.2.2.2.2.2.2.1 c
      exact h.elim
    · replace h := h.2.2.2.2.2.2.2.2.2.2.2.2.2.2 c
      exact hQ _ _ _ hC hP h
  · skip
    exact uT_X6_fieldAt hSt hQ hC hP h
def vT_X6_ofField (E : eT) (x1 : Int32) (x2 : Int32) (Z : zT) (QX : String → zT → Prop) : Prop :=
  vT_X6_ofField_b0 E x1 x2 Z QX
set_option maxHeartbeats 1000000 in
theorem uT_X6_ofField {Q : String → sT → Prop} {Q' : String → zT → Prop} {x1 : Int32} {x2 : Int32} {S : sT} {Z : zT} (hSt : cSt P) (hQ : ∀ x S Z, CC H E S Z → P S → Q' x Z → Q x S)   (hC : CC H E S Z) (hP : P S) (h : vT_X6_ofField E x1 x2 Z Q') : wT_X6_ofField (H 0 9 0) x1 x2 S Q := by
  unfold vT_X6_ofField at h
  unfold wT_X6_ofField
  exact uT_X6_ofField_b0 hSt hQ hC hP h
def vT_X6_ofOwner_b0 (E : eT) (x1 : Int32) (x2 : Int32) (Z : zT) (QX : String → zT → Prop) : Prop :=
  ((v_X6_fieldAt E x1 Z (fun a102 Z101 =>
  ((x2 = 0 →
  False) ∧
  (x2 = 1 →
  False) ∧
  (x2 = 2 →
  False) ∧
  (x2 = 3 →
  False) ∧
  ((¬ x2 = 0 ∧ ¬ x2 = 1 ∧ ¬ x2 = 2 ∧ ¬ x2 = 3) →
  QX "java/lang/IllegalArgumentException" Z101)))) ∨ (
  vT_X6_fieldAt E x1 Z QX))
set_option maxHeartbeats 1000000 in
theorem uT_X6_ofOwner_b0 {Q : String → sT → Prop} {Q' : String → zT → Prop} {x1 : Int32} {x2 : Int32} {S : sT} {Z : zT} (hSt : cSt P) (hQ : ∀ x S Z, CC H E S Z → P S → Q' x Z → Q x S)   (hC : CC H E S Z) (hP : P S) (h : vT_X6_ofOwner_b0 E x1 x2 Z Q') : wT_X6_ofOwner_b0 (H 0 9 0) x1 x2 S Q := by
  unfold vT_X6_ofOwner_b0 at h
  unfold wT_X6_ofOwner_b0
  refine ⟨rK_Sub hC, ?_⟩
  refine h.elim (fun h => Or.inl ?_) (fun h => Or.inr ?_)
  · skip
    refine u_X6_fieldAt hSt (fun a102 S101 Z101 k_a102 hC hP h => ?_) hC hP h
    refine ⟨rK_Fld hC z02 k_a102, ?_⟩
    refine ⟨_, rF_68 hC z02 k_a102, ?_⟩
    refine ⟨fun c => ?_, fun c => ?_, fun c => ?_, fun c => ?_, fun c => ?_⟩
    · replace h := h.1 c
      exact h.elim
    · replace h := h.2.1 c
      exact h.elim
    · replace h := h.2.2.1 c
      exact h.elim
    · replace h := h.2.2.2.1 c
      exact h.elim
    · replace h := h.2.2.2.2 c
      exact hQ _ _ _ hC hP h
  · skip
    exact uT_X6_fieldAt hSt hQ hC hP h
def vT_X6_ofOwner (E : eT) (x1 : Int32) (x2 : Int32) (Z : zT) (QX : String → zT → Prop) : Prop :=
  vT_X6_ofOwner_b0 E x1 x2 Z QX
set_option maxHeartbeats 1000000 in
theorem uT_X6_ofOwner {Q : String → sT → Prop} {Q' : String → zT → Prop} {x1 : Int32} {x2 : Int32} {S : sT} {Z : zT} (hSt : cSt P) (hQ : ∀ x S Z, CC H E S Z → P S → Q' x Z → Q x S)   (hC : CC H E S Z) (hP : P S) (h : vT_X6_ofOwner E x1 x2 Z Q') : wT_X6_ofOwner (H 0 9 0) x1 x2 S Q := by
  unfold vT_X6_ofOwner at h
  unfold wT_X6_ofOwner
  exact uT_X6_ofOwner_b0 hSt hQ hC hP h
def vT_X6_ofSociety_b0 (E : eT) (x1 : Int32) (x2 : Int32) (Z : zT) (QX : String → zT → Prop) : Prop :=
  ((v_X6_societyAt E x1 Z (fun a102 Z101 =>
  ((x2 = 0 →
  False) ∧
  (x2 = 1 →
  False) ∧
  (x2 = 2 →
  False) ∧
  (x2 = 3 →
  False) ∧
  (x2 = 4 →
  False) ∧
  (x2 = 5 →
  False) ∧
  (x2 = 6 →
  False) ∧
  (x2 = 7 →
  False) ∧
  (x2 = 8 →
  False) ∧
  ((¬ x2 = 0 ∧ ¬ x2 = 1 ∧ ¬ x2 = 2 ∧ ¬ x2 = 3 ∧ ¬ x2 = 4 ∧ ¬ x2 = 5 ∧ ¬ x2 = 6 ∧ ¬ x2 = 7 ∧ ¬ x2 = 8) →
  QX "java/lang/IllegalArgumentException" Z101)))) ∨ (
  vT_X6_societyAt E x1 Z QX))
set_option maxHeartbeats 1000000 in
theorem uT_X6_ofSociety_b0 {Q : String → sT → Prop} {Q' : String → zT → Prop} {x1 : Int32} {x2 : Int32} {S : sT} {Z : zT} (hSt : cSt P) (hQ : ∀ x S Z, CC H E S Z → P S → Q' x Z → Q x S)   (hC : CC H E S Z) (hP : P S) (h : vT_X6_ofSociety_b0 E x1 x2 Z Q') : wT_X6_ofSociety_b0 (H 0 9 0) x1 x2 S Q := by
  unfold vT_X6_ofSociety_b0 at h
  unfold wT_X6_ofSociety_b0
  refine ⟨rK_Sub hC, ?_⟩
  refine h.elim (fun h => Or.inl ?_) (fun h => Or.inr ?_)
  · skip
    refine u_X6_societyAt hSt (fun a102 S101 Z101 k_a102 hC hP h => ?_) hC hP h
    refine ⟨fun c => ?_, fun c => ?_, fun c => ?_, fun c => ?_, fun c => ?_, fun c => ?_, fun c => ?_, fun c => ?_, fun c => ?_, fun c => ?_⟩
    · replace h := h.1 c
      exact h.elim
    · replace h := h.2.1 c
      exact h.elim
    · replace h := h.2.2.1 c
      exact h.elim
    · replace h := h.2.2.2.1 c
      exact h.elim
    · replace h := h.2.2.2.2.1 c
      exact h.elim
    · replace h := h.2.2.2.2.2.1 c
      exact h.elim
    · replace h := h.2.2.2.2.2.2.1 c
      exact h.elim
    · replace h := h.2.2.2.2.2.2.2.1 c
      exact h.elim
    · replace h := h.2.2.2.2.2.2.2.2.1 c
      exact h.elim
    · replace h := h.2.2.2.2.2.2.2.2.2 c
      exact hQ _ _ _ hC hP h
  · skip
    exact uT_X6_societyAt hSt hQ hC hP h
def vT_X6_ofSociety (E : eT) (x1 : Int32) (x2 : Int32) (Z : zT) (QX : String → zT → Prop) : Prop :=
  vT_X6_ofSociety_b0 E x1 x2 Z QX
set_option maxHeartbeats 1000000 in
theorem uT_X6_ofSociety {Q : String → sT → Prop} {Q' : String → zT → Prop} {x1 : Int32} {x2 : Int32} {S : sT} {Z : zT} (hSt : cSt P) (hQ : ∀ x S Z, CC H E S Z → P S → Q' x Z → Q x S)   (hC : CC H E S Z) (hP : P S) (h : vT_X6_ofSociety E x1 x2 Z Q') : wT_X6_ofSociety (H 0 9 0) x1 x2 S Q := by
  unfold vT_X6_ofSociety at h
  unfold wT_X6_ofSociety
  exact uT_X6_ofSociety_b0 hSt hQ hC hP h
def vT_X6_sumOfFields_b0 (E : eT) (x1 : Int32) (Z : zT) (QX : String → zT → Prop) : Prop :=
  False
set_option maxHeartbeats 1000000 in
theorem uT_X6_sumOfFields_b0 {Q : String → sT → Prop} {Q' : String → zT → Prop} {x1 : Int32} {S : sT} {Z : zT} (hSt : cSt P) (hQ : ∀ x S Z, CC H E S Z → P S → Q' x Z → Q x S)   (hC : CC H E S Z) (hP : P S) (h : vT_X6_sumOfFields_b0 E x1 Z Q') : wT_X6_sumOfFields_b0 (H 0 9 0) x1 S Q := by
  unfold vT_X6_sumOfFields_b0 at h
  unfold wT_X6_sumOfFields_b0
  exact h.elim
def vT_X6_sumOfFields (E : eT) (x1 : Int32) (Z : zT) (QX : String → zT → Prop) : Prop :=
  vT_X6_sumOfFields_b0 E x1 Z QX
set_option maxHeartbeats 1000000 in
theorem uT_X6_sumOfFields {Q : String → sT → Prop} {Q' : String → zT → Prop} {x1 : Int32} {S : sT} {Z : zT} (hSt : cSt P) (hQ : ∀ x S Z, CC H E S Z → P S → Q' x Z → Q x S)   (hC : CC H E S Z) (hP : P S) (h : vT_X6_sumOfFields E x1 Z Q') : wT_X6_sumOfFields (H 0 9 0) x1 S Q := by
  unfold vT_X6_sumOfFields at h
  unfold wT_X6_sumOfFields
  exact uT_X6_sumOfFields_b0 hSt hQ hC hP h
def vT_X6_sumOfSocieties_b0 (E : eT) (x1 : Int32) (Z : zT) (QX : String → zT → Prop) : Prop :=
  False
set_option maxHeartbeats 1000000 in
theorem uT_X6_sumOfSocieties_b0 {Q : String → sT → Prop} {Q' : String → zT → Prop} {x1 : Int32} {S : sT} {Z : zT} (hSt : cSt P) (hQ : ∀ x S Z, CC H E S Z → P S → Q' x Z → Q x S)   (hC : CC H E S Z) (hP : P S) (h : vT_X6_sumOfSocieties_b0 E x1 Z Q') : wT_X6_sumOfSocieties_b0 (H 0 9 0) x1 S Q := by
  unfold vT_X6_sumOfSocieties_b0 at h
  unfold wT_X6_sumOfSocieties_b0
  exact h.elim
def vT_X6_sumOfSocieties (E : eT) (x1 : Int32) (Z : zT) (QX : String → zT → Prop) : Prop :=
  vT_X6_sumOfSocieties_b0 E x1 Z QX
set_option maxHeartbeats 1000000 in
theorem uT_X6_sumOfSocieties {Q : String → sT → Prop} {Q' : String → zT → Prop} {x1 : Int32} {S : sT} {Z : zT} (hSt : cSt P) (hQ : ∀ x S Z, CC H E S Z → P S → Q' x Z → Q x S)   (hC : CC H E S Z) (hP : P S) (h : vT_X6_sumOfSocieties E x1 Z Q') : wT_X6_sumOfSocieties (H 0 9 0) x1 S Q := by
  unfold vT_X6_sumOfSocieties at h
  unfold wT_X6_sumOfSocieties
  exact uT_X6_sumOfSocieties_b0 hSt hQ hC hP h
def vT_X6_water_b0 (E : eT) (x1 : Int32) (Z : zT) (QX : String → zT → Prop) : Prop :=
  ((x1 = 0 →
  False) ∧
  (x1 = 1 →
  ((v_X6_sumOfFields E (1 : Int32) Z (fun x104 Z103 =>
  False)) ∨ (
  vT_X6_sumOfFields E (1 : Int32) Z QX))) ∧
  (x1 = 2 →
  False) ∧
  (x1 = 3 →
  ((v_X6_sumOfSocieties E (3 : Int32) Z (fun x108 Z107 =>
  False)) ∨ (
  vT_X6_sumOfSocieties E (3 : Int32) Z QX))) ∧
  (x1 = 4 →
  False) ∧
  (x1 = 5 →
  False) ∧
  (x1 = 6 →
  False) ∧
  ((¬ x1 = 0 ∧ ¬ x1 = 1 ∧ ¬ x1 = 2 ∧ ¬ x1 = 3 ∧ ¬ x1 = 4 ∧ ¬ x1 = 5 ∧ ¬ x1 = 6) →
  QX "java/lang/IllegalArgumentException" Z))
set_option maxHeartbeats 1000000 in
theorem uT_X6_water_b0 {Q : String → sT → Prop} {Q' : String → zT → Prop} {x1 : Int32} {S : sT} {Z : zT} (hSt : cSt P) (hQ : ∀ x S Z, CC H E S Z → P S → Q' x Z → Q x S)   (hC : CC H E S Z) (hP : P S) (h : vT_X6_water_b0 E x1 Z Q') : wT_X6_water_b0 (H 0 9 0) x1 S Q := by
  unfold vT_X6_water_b0 at h
  unfold wT_X6_water_b0
  refine ⟨fun c => ?_, fun c => ?_, fun c => ?_, fun c => ?_, fun c => ?_, fun c => ?_, fun c => ?_, fun c => ?_⟩
  · replace h := h.1 c
    exact h.elim
  · replace h := h.2.1 c
    refine ⟨rK_Sub hC, ?_⟩
    refine h.elim (fun h => Or.inl ?_) (fun h => Or.inr ?_)
    · skip
      refine u_X6_sumOfFields hSt (fun x104 S103 Z103 hC hP h => ?_) hC hP h
      exact h.elim
    · skip
      exact uT_X6_sumOfFields hSt hQ hC hP h
  · replace h := h.2.2.1 c
    exact h.elim
  · replace h := h.2.2.2.1 c
    refine ⟨rK_Sub hC, ?_⟩
    refine h.elim (fun h => Or.inl ?_) (fun h => Or.inr ?_)
    · skip
      refine u_X6_sumOfSocieties hSt (fun x108 S107 Z107 hC hP h => ?_) hC hP h
      exact h.elim
    · skip
      exact uT_X6_sumOfSocieties hSt hQ hC hP h
  · replace h := h.2.2.2.2.1 c
    exact h.elim
  · replace h := h.2.2.2.2.2.1 c
    exact h.elim
  · replace h := h.2.2.2.2.2.2.1 c
    exact h.elim
  · replace h := h.2.2.2.2.2.2.2 c
    exact hQ _ _ _ hC hP h
def vT_X6_water (E : eT) (x1 : Int32) (Z : zT) (QX : String → zT → Prop) : Prop :=
  vT_X6_water_b0 E x1 Z QX
set_option maxHeartbeats 1000000 in
theorem uT_X6_water {Q : String → sT → Prop} {Q' : String → zT → Prop} {x1 : Int32} {S : sT} {Z : zT} (hSt : cSt P) (hQ : ∀ x S Z, CC H E S Z → P S → Q' x Z → Q x S)   (hC : CC H E S Z) (hP : P S) (h : vT_X6_water E x1 Z Q') : wT_X6_water (H 0 9 0) x1 S Q := by
  unfold vT_X6_water at h
  unfold wT_X6_water
  exact uT_X6_water_b0 hSt hQ hC hP h
def vT_X6_thought_b0 (E : eT) (x1 : Int32) (x2 : Int32) (Z : zT) (QX : String → zT → Prop) : Prop :=
  ((v_X6_fieldAt E x1 Z (fun a102 Z101 =>
  False)) ∨ (
  vT_X6_fieldAt E x1 Z QX))
set_option maxHeartbeats 1000000 in
theorem uT_X6_thought_b0 {Q : String → sT → Prop} {Q' : String → zT → Prop} {x1 : Int32} {x2 : Int32} {S : sT} {Z : zT} (hSt : cSt P) (hQ : ∀ x S Z, CC H E S Z → P S → Q' x Z → Q x S)   (hC : CC H E S Z) (hP : P S) (h : vT_X6_thought_b0 E x1 x2 Z Q') : wT_X6_thought_b0 (H 0 9 0) x1 x2 S Q := by
  unfold vT_X6_thought_b0 at h
  unfold wT_X6_thought_b0
  refine ⟨rK_Sub hC, ?_⟩
  refine h.elim (fun h => Or.inl ?_) (fun h => Or.inr ?_)
  · skip
    refine u_X6_fieldAt hSt (fun a102 S101 Z101 k_a102 hC hP h => ?_) hC hP h
    exact h.elim
  · skip
    exact uT_X6_fieldAt hSt hQ hC hP h
def vT_X6_thought (E : eT) (x1 : Int32) (x2 : Int32) (Z : zT) (QX : String → zT → Prop) : Prop :=
  vT_X6_thought_b0 E x1 x2 Z QX
set_option maxHeartbeats 1000000 in
theorem uT_X6_thought {Q : String → sT → Prop} {Q' : String → zT → Prop} {x1 : Int32} {x2 : Int32} {S : sT} {Z : zT} (hSt : cSt P) (hQ : ∀ x S Z, CC H E S Z → P S → Q' x Z → Q x S)   (hC : CC H E S Z) (hP : P S) (h : vT_X6_thought E x1 x2 Z Q') : wT_X6_thought (H 0 9 0) x1 x2 S Q := by
  unfold vT_X6_thought at h
  unfold wT_X6_thought
  exact uT_X6_thought_b0 hSt hQ hC hP h
def vT_X6_sumOfOwners_b0 (E : eT) (x1 : Int32) (Z : zT) (QX : String → zT → Prop) : Prop :=
  False
set_option maxHeartbeats 1000000 in
theorem uT_X6_sumOfOwners_b0 {Q : String → sT → Prop} {Q' : String → zT → Prop} {x1 : Int32} {S : sT} {Z : zT} (hSt : cSt P) (hQ : ∀ x S Z, CC H E S Z → P S → Q' x Z → Q x S)   (hC : CC H E S Z) (hP : P S) (h : vT_X6_sumOfOwners_b0 E x1 Z Q') : wT_X6_sumOfOwners_b0 (H 0 9 0) x1 S Q := by
  unfold vT_X6_sumOfOwners_b0 at h
  unfold wT_X6_sumOfOwners_b0
  exact h.elim
def vT_X6_sumOfOwners (E : eT) (x1 : Int32) (Z : zT) (QX : String → zT → Prop) : Prop :=
  vT_X6_sumOfOwners_b0 E x1 Z QX
set_option maxHeartbeats 1000000 in
theorem uT_X6_sumOfOwners {Q : String → sT → Prop} {Q' : String → zT → Prop} {x1 : Int32} {S : sT} {Z : zT} (hSt : cSt P) (hQ : ∀ x S Z, CC H E S Z → P S → Q' x Z → Q x S)   (hC : CC H E S Z) (hP : P S) (h : vT_X6_sumOfOwners E x1 Z Q') : wT_X6_sumOfOwners (H 0 9 0) x1 S Q := by
  unfold vT_X6_sumOfOwners at h
  unfold wT_X6_sumOfOwners
  exact uT_X6_sumOfOwners_b0 hSt hQ hC hP h
def vT_X6_many_b0 (E : eT) (x1 : Int32) (Z : zT) (QX : String → zT → Prop) : Prop :=
  ((x1 = 0 →
  False) ∧
  (x1 = 1 →
  False) ∧
  (x1 = 2 →
  False) ∧
  (x1 = 3 →
  False) ∧
  (x1 = 4 →
  False) ∧
  (x1 = 5 →
  ((v_X6_sumOfFields E (8 : Int32) Z (fun x108 Z107 =>
  False)) ∨ (
  vT_X6_sumOfFields E (8 : Int32) Z QX))) ∧
  (x1 = 6 →
  ((v_X6_sumOfOwners E (0 : Int32) Z (fun x111 Z110 =>
  False)) ∨ (
  vT_X6_sumOfOwners E (0 : Int32) Z QX))) ∧
  (x1 = 7 →
  ((v_X6_sumOfSocieties E (2 : Int32) Z (fun x114 Z113 =>
  False)) ∨ (
  vT_X6_sumOfSocieties E (2 : Int32) Z QX))) ∧
  (x1 = 8 →
  ((v_X6_sumOfOwners E (3 : Int32) Z (fun x117 Z116 =>
  False)) ∨ (
  vT_X6_sumOfOwners E (3 : Int32) Z QX))) ∧
  (x1 = 9 →
  False) ∧
  (x1 = 10 →
  False) ∧
  (x1 = 11 →
  False) ∧
  ((¬ x1 = 0 ∧ ¬ x1 = 1 ∧ ¬ x1 = 2 ∧ ¬ x1 = 3 ∧ ¬ x1 = 4 ∧ ¬ x1 = 5 ∧ ¬ x1 = 6 ∧ ¬ x1 = 7 ∧ ¬ x1 = 8 ∧ ¬ x1 = 9 ∧ ¬ x1 = 10 ∧ ¬ x1 = 11) →
  QX "java/lang/IllegalArgumentException" Z))
set_option maxHeartbeats 1000000 in
theorem uT_X6_many_b0 {Q : String → sT → Prop} {Q' : String → zT → Prop} {x1 : Int32} {S : sT} {Z : zT} (hSt : cSt P) (hQ : ∀ x S Z, CC H E S Z → P S → Q' x Z → Q x S)   (hC : CC H E S Z) (hP : P S) (h : vT_X6_many_b0 E x1 Z Q') : wT_X6_many_b0 (H 0 9 0) x1 S Q := by
  unfold vT_X6_many_b0 at h
  unfold wT_X6_many_b0
  refine ⟨fun c => ?_, fun c => ?_, fun c => ?_, fun c => ?_, fun c => ?_, fun c => ?_, fun c => ?_, fun c => ?_, fun c => ?_, fun c => ?_, fun c => ?_, fun c => ?_, fun c => ?_⟩
  · replace h := h.1 c
    exact h.elim
  · replace h := h.2.1 c
    exact h.elim
  · replace h := h.2.2.1 c
    exact h.elim
  · replace h := h.2.2.2.1 c
    exact h.elim
  · replace h := h.2.2.2.2.1 c
    exact h.elim
  · replace h := h.2.2.2.2.2.1 c
    refine ⟨rK_Sub hC, ?_⟩
    refine h.elim (fun h => Or.inl ?_) (fun h => Or.inr ?_)
    · skip
      refine u_X6_sumOfFields hSt (fun x108 S107 Z107 hC hP h => ?_) hC hP h
      exact h.elim
    · skip
      exact uT_X6_sumOfFields hSt hQ hC hP h
  · replace h := h.2.2.2.2.2.2.1 c
    refine ⟨rK_Sub hC, ?_⟩
    refine h.elim (fun h => Or.inl ?_) (fun h => Or.inr ?_)
    · skip
      refine u_X6_sumOfOwners hSt (fun x111 S110 Z110 hC hP h => ?_) hC hP h
      exact h.elim
    · skip
      exact uT_X6_sumOfOwners hSt hQ hC hP h
  · replace h := h.2.2.2.2.2.2.2.1 c
    refine ⟨rK_Sub hC, ?_⟩
    refine h.elim (fun h => Or.inl ?_) (fun h => Or.inr ?_)
    · skip
      refine u_X6_sumOfSocieties hSt (fun x114 S113 Z113 hC hP h => ?_) hC hP h
      exact h.elim
    · skip
      exact uT_X6_sumOfSocieties hSt hQ hC hP h
  · replace h := h.2.2.2.2.2.2.2.2.1 c
    refine ⟨rK_Sub hC, ?_⟩
    refine h.elim (fun h => Or.inl ?_) (fun h => Or.inr ?_)
    · skip
      refine u_X6_sumOfOwners hSt (fun x117 S116 Z116 hC hP h => ?_) hC hP h
      exact h.elim
    · skip
      exact uT_X6_sumOfOwners hSt hQ hC hP h
  · replace h := h.2.2.2.2.2.2.2.2.2.1 c
    exact h.elim
  · replace h := h.2.2.2.2.2.2.2.2.2.2.1 c
    exact h.elim
  · replace h := h.2.2.2.2.2.2.2.2.2.2.2.1 c
    exact h.elim
  · replace h := h.2.2.2.2.2.2.2.2.2.2.2.2 c
    exact hQ _ _ _ hC hP h
def vT_X6_many (E : eT) (x1 : Int32) (Z : zT) (QX : String → zT → Prop) : Prop :=
  vT_X6_many_b0 E x1 Z QX
set_option maxHeartbeats 1000000 in
theorem uT_X6_many {Q : String → sT → Prop} {Q' : String → zT → Prop} {x1 : Int32} {S : sT} {Z : zT} (hSt : cSt P) (hQ : ∀ x S Z, CC H E S Z → P S → Q' x Z → Q x S)   (hC : CC H E S Z) (hP : P S) (h : vT_X6_many E x1 Z Q') : wT_X6_many (H 0 9 0) x1 S Q := by
  unfold vT_X6_many at h
  unfold wT_X6_many
  exact uT_X6_many_b0 hSt hQ hC hP h
def vT_X6_meanDepth_b0 (E : eT) (x1 : Int32) (Z : zT) (QX : String → zT → Prop) : Prop :=
  ((v_X6_societyAt E x1 Z (fun a102 Z101 =>
  False)) ∨ (
  vT_X6_societyAt E x1 Z QX))
set_option maxHeartbeats 1000000 in
theorem uT_X6_meanDepth_b0 {Q : String → sT → Prop} {Q' : String → zT → Prop} {x1 : Int32} {S : sT} {Z : zT} (hSt : cSt P) (hQ : ∀ x S Z, CC H E S Z → P S → Q' x Z → Q x S)   (hC : CC H E S Z) (hP : P S) (h : vT_X6_meanDepth_b0 E x1 Z Q') : wT_X6_meanDepth_b0 (H 0 9 0) x1 S Q := by
  unfold vT_X6_meanDepth_b0 at h
  unfold wT_X6_meanDepth_b0
  refine ⟨rK_Sub hC, ?_⟩
  refine h.elim (fun h => Or.inl ?_) (fun h => Or.inr ?_)
  · skip
    refine u_X6_societyAt hSt (fun a102 S101 Z101 k_a102 hC hP h => ?_) hC hP h
    exact h.elim
  · skip
    exact uT_X6_societyAt hSt hQ hC hP h
def vT_X6_meanDepth (E : eT) (x1 : Int32) (Z : zT) (QX : String → zT → Prop) : Prop :=
  vT_X6_meanDepth_b0 E x1 Z QX
set_option maxHeartbeats 1000000 in
theorem uT_X6_meanDepth {Q : String → sT → Prop} {Q' : String → zT → Prop} {x1 : Int32} {S : sT} {Z : zT} (hSt : cSt P) (hQ : ∀ x S Z, CC H E S Z → P S → Q' x Z → Q x S)   (hC : CC H E S Z) (hP : P S) (h : vT_X6_meanDepth E x1 Z Q') : wT_X6_meanDepth (H 0 9 0) x1 S Q := by
  unfold vT_X6_meanDepth at h
  unfold wT_X6_meanDepth
  exact uT_X6_meanDepth_b0 hSt hQ hC hP h
def vT_X6_suspect_b0 (E : eT) (x1 : Int32) (Z : zT) (QX : String → zT → Prop) : Prop :=
  ((v_X6_societyAt E x1 Z (fun a102 Z101 =>
  False)) ∨ (
  vT_X6_societyAt E x1 Z QX))
set_option maxHeartbeats 1000000 in
theorem uT_X6_suspect_b0 {Q : String → sT → Prop} {Q' : String → zT → Prop} {x1 : Int32} {S : sT} {Z : zT} (hSt : cSt P) (hQ : ∀ x S Z, CC H E S Z → P S → Q' x Z → Q x S)   (hC : CC H E S Z) (hP : P S) (h : vT_X6_suspect_b0 E x1 Z Q') : wT_X6_suspect_b0 (H 0 9 0) x1 S Q := by
  unfold vT_X6_suspect_b0 at h
  unfold wT_X6_suspect_b0
  refine ⟨rK_Sub hC, ?_⟩
  refine h.elim (fun h => Or.inl ?_) (fun h => Or.inr ?_)
  · skip
    refine u_X6_societyAt hSt (fun a102 S101 Z101 k_a102 hC hP h => ?_) hC hP h
    exact h.elim
  · skip
    exact uT_X6_societyAt hSt hQ hC hP h
def vT_X6_suspect (E : eT) (x1 : Int32) (Z : zT) (QX : String → zT → Prop) : Prop :=
  vT_X6_suspect_b0 E x1 Z QX
set_option maxHeartbeats 1000000 in
theorem uT_X6_suspect {Q : String → sT → Prop} {Q' : String → zT → Prop} {x1 : Int32} {S : sT} {Z : zT} (hSt : cSt P) (hQ : ∀ x S Z, CC H E S Z → P S → Q' x Z → Q x S)   (hC : CC H E S Z) (hP : P S) (h : vT_X6_suspect E x1 Z Q') : wT_X6_suspect (H 0 9 0) x1 S Q := by
  unfold vT_X6_suspect at h
  unfold wT_X6_suspect
  exact uT_X6_suspect_b0 hSt hQ hC hP h
def vT_X6_checkDays_b0 (E : eT) (x0 : Int32) (x1 : Int32) (Z : zT) (QX : String → zT → Prop) : Prop :=
  v_X6_isWithin E x0 (1 : Int32) x1 Z (fun x102 Z101 =>
  ((¬ x102 = 0 →
  False) ∧
  (x102 = 0 →
  QX "java/lang/IllegalArgumentException" Z101)))
set_option maxHeartbeats 1000000 in
theorem uT_X6_checkDays_b0 {Q : String → sT → Prop} {Q' : String → zT → Prop} {x0 : Int32} {x1 : Int32} {S : sT} {Z : zT} (hSt : cSt P) (hQ : ∀ x S Z, CC H E S Z → P S → Q' x Z → Q x S)   (hC : CC H E S Z) (hP : P S) (h : vT_X6_checkDays_b0 E x0 x1 Z Q') : wT_X6_checkDays_b0 x0 x1 S Q := by
  unfold vT_X6_checkDays_b0 at h
  unfold wT_X6_checkDays_b0
  refine u_X6_isWithin hSt (fun x102 S101 Z101 hC hP h => ?_) hC hP h
  refine ⟨fun c => ?_, fun c => ?_⟩
  · replace h := h.1 c
    exact h.elim
  · replace h := h.2 c
    exact hQ _ _ _ hC hP h
def vT_X6_checkDays (E : eT) (x0 : Int32) (x1 : Int32) (Z : zT) (QX : String → zT → Prop) : Prop :=
  vT_X6_checkDays_b0 E x0 x1 Z QX
set_option maxHeartbeats 1000000 in
theorem uT_X6_checkDays {Q : String → sT → Prop} {Q' : String → zT → Prop} {x0 : Int32} {x1 : Int32} {S : sT} {Z : zT} (hSt : cSt P) (hQ : ∀ x S Z, CC H E S Z → P S → Q' x Z → Q x S)   (hC : CC H E S Z) (hP : P S) (h : vT_X6_checkDays E x0 x1 Z Q') : wT_X6_checkDays x0 x1 S Q := by
  unfold vT_X6_checkDays at h
  unfold wT_X6_checkDays
  exact uT_X6_checkDays_b0 hSt hQ hC hP h
def vT_X6_wouldYield_b0 (E : eT) (x1 : Int32) (x2 : Int32) (Z : zT) (QX : String → zT → Prop) : Prop :=
  ((v_X6_fieldAt E x1 Z (fun a102 Z101 =>
  ((v_X6_checkDays E x2 (40 : Int32) Z101 (fun Z103 =>
  False)) ∨ (
  vT_X6_checkDays E x2 (40 : Int32) Z101 QX)))) ∨ (
  vT_X6_fieldAt E x1 Z QX))
set_option maxHeartbeats 1000000 in
theorem uT_X6_wouldYield_b0 {Q : String → sT → Prop} {Q' : String → zT → Prop} {x1 : Int32} {x2 : Int32} {S : sT} {Z : zT} (hSt : cSt P) (hQ : ∀ x S Z, CC H E S Z → P S → Q' x Z → Q x S)   (hC : CC H E S Z) (hP : P S) (h : vT_X6_wouldYield_b0 E x1 x2 Z Q') : wT_X6_wouldYield_b0 (H 0 9 0) x1 x2 S Q := by
  unfold vT_X6_wouldYield_b0 at h
  unfold wT_X6_wouldYield_b0
  refine ⟨rK_Sub hC, ?_⟩
  refine h.elim (fun h => Or.inl ?_) (fun h => Or.inr ?_)
  · skip
    refine u_X6_fieldAt hSt (fun a102 S101 Z101 k_a102 hC hP h => ?_) hC hP h
    refine h.elim (fun h => Or.inl ?_) (fun h => Or.inr ?_)
    · skip
      refine u_X6_checkDays hSt (fun S103 Z103 hC hP h => ?_) hC hP h
      exact h.elim
    · skip
      exact uT_X6_checkDays hSt hQ hC hP h
  · skip
    exact uT_X6_fieldAt hSt hQ hC hP h
def vT_X6_wouldYield (E : eT) (x1 : Int32) (x2 : Int32) (Z : zT) (QX : String → zT → Prop) : Prop :=
  vT_X6_wouldYield_b0 E x1 x2 Z QX
set_option maxHeartbeats 1000000 in
theorem uT_X6_wouldYield {Q : String → sT → Prop} {Q' : String → zT → Prop} {x1 : Int32} {x2 : Int32} {S : sT} {Z : zT} (hSt : cSt P) (hQ : ∀ x S Z, CC H E S Z → P S → Q' x Z → Q x S)   (hC : CC H E S Z) (hP : P S) (h : vT_X6_wouldYield E x1 x2 Z Q') : wT_X6_wouldYield (H 0 9 0) x1 x2 S Q := by
  unfold vT_X6_wouldYield at h
  unfold wT_X6_wouldYield
  exact uT_X6_wouldYield_b0 hSt hQ hC hP h
def vT_X6_ripeIn_b0 (E : eT) (x1 : Int32) (Z : zT) (QX : String → zT → Prop) : Prop :=
  ((v_X6_checkDays E x1 (40 : Int32) Z (fun Z101 =>
  False)) ∨ (
  vT_X6_checkDays E x1 (40 : Int32) Z QX))
set_option maxHeartbeats 1000000 in
theorem uT_X6_ripeIn_b0 {Q : String → sT → Prop} {Q' : String → zT → Prop} {x1 : Int32} {S : sT} {Z : zT} (hSt : cSt P) (hQ : ∀ x S Z, CC H E S Z → P S → Q' x Z → Q x S)   (hC : CC H E S Z) (hP : P S) (h : vT_X6_ripeIn_b0 E x1 Z Q') : wT_X6_ripeIn_b0 (H 0 9 0) x1 S Q := by
  unfold vT_X6_ripeIn_b0 at h
  unfold wT_X6_ripeIn_b0
  refine h.elim (fun h => Or.inl ?_) (fun h => Or.inr ?_)
  · skip
    refine u_X6_checkDays hSt (fun S101 Z101 hC hP h => ?_) hC hP h
    exact h.elim
  · skip
    exact uT_X6_checkDays hSt hQ hC hP h
def vT_X6_ripeIn (E : eT) (x1 : Int32) (Z : zT) (QX : String → zT → Prop) : Prop :=
  vT_X6_ripeIn_b0 E x1 Z QX
set_option maxHeartbeats 1000000 in
theorem uT_X6_ripeIn {Q : String → sT → Prop} {Q' : String → zT → Prop} {x1 : Int32} {S : sT} {Z : zT} (hSt : cSt P) (hQ : ∀ x S Z, CC H E S Z → P S → Q' x Z → Q x S)   (hC : CC H E S Z) (hP : P S) (h : vT_X6_ripeIn E x1 Z Q') : wT_X6_ripeIn (H 0 9 0) x1 S Q := by
  unfold vT_X6_ripeIn at h
  unfold wT_X6_ripeIn
  exact uT_X6_ripeIn_b0 hSt hQ hC hP h
def vT_X6_plan_b0 (E : eT) (x1 : Int32) (x2 : Int32) (Z : zT) (QX : String → zT → Prop) : Prop :=
  ((v_X6_checkKind E x1 Z (fun Z101 =>
  ((v_X6_checkDays E x2 (30 : Int32) Z101 (fun Z102 =>
  False)) ∨ (
  vT_X6_checkDays E x2 (30 : Int32) Z101 QX)))) ∨ (
  vT_X6_checkKind E x1 Z QX))
set_option maxHeartbeats 1000000 in
theorem uT_X6_plan_b0 {Q : String → sT → Prop} {Q' : String → zT → Prop} {x1 : Int32} {x2 : Int32} {S : sT} {Z : zT} (hSt : cSt P) (hQ : ∀ x S Z, CC H E S Z → P S → Q' x Z → Q x S)   (hC : CC H E S Z) (hP : P S) (h : vT_X6_plan_b0 E x1 x2 Z Q') : wT_X6_plan_b0 (H 0 9 0) x1 x2 S Q := by
  unfold vT_X6_plan_b0 at h
  unfold wT_X6_plan_b0
  refine h.elim (fun h => Or.inl ?_) (fun h => Or.inr ?_)
  · skip
    refine u_X6_checkKind hSt (fun S101 Z101 hC hP h => ?_) hC hP h
    refine h.elim (fun h => Or.inl ?_) (fun h => Or.inr ?_)
    · skip
      refine u_X6_checkDays hSt (fun S102 Z102 hC hP h => ?_) hC hP h
      exact h.elim
    · skip
      exact uT_X6_checkDays hSt hQ hC hP h
  · skip
    exact uT_X6_checkKind hSt hQ hC hP h
def vT_X6_plan (E : eT) (x1 : Int32) (x2 : Int32) (Z : zT) (QX : String → zT → Prop) : Prop :=
  vT_X6_plan_b0 E x1 x2 Z QX
set_option maxHeartbeats 1000000 in
theorem uT_X6_plan {Q : String → sT → Prop} {Q' : String → zT → Prop} {x1 : Int32} {x2 : Int32} {S : sT} {Z : zT} (hSt : cSt P) (hQ : ∀ x S Z, CC H E S Z → P S → Q' x Z → Q x S)   (hC : CC H E S Z) (hP : P S) (h : vT_X6_plan E x1 x2 Z Q') : wT_X6_plan (H 0 9 0) x1 x2 S Q := by
  unfold vT_X6_plan at h
  unfold wT_X6_plan
  exact uT_X6_plan_b0 hSt hQ hC hP h
end
