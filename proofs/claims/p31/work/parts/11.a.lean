section
variable {H : Nat → Nat → Nat → Nat} {E : eT} {P : sT → Prop} {w : Nat}
def v_X4_isExcluded_b12 (E : eT) (w : Nat) (y0 : Int32) (Z : zT) (Q : Int32 → zT → Prop) : Prop :=
  (y0 = 0 ∨ y0 = 1) ∧
  Q y0 Z
set_option maxHeartbeats 1000000 in
theorem u_X4_isExcluded_b12 {Q : Int32 → sT → Prop} {Q' : Int32 → zT → Prop} {y0 : Int32} {S : sT} {Z : zT} (hSt : cSt P) (hQ : ∀ x S Z, CC H E S Z → P S → Q' x Z → Q x S)  (hw : w < 2)  (hC : CC H E S Z) (hP : P S) (h : v_X4_isExcluded_b12 E w y0 Z Q') : w_X4_isExcluded_b12 y0 S Q := by
  unfold v_X4_isExcluded_b12 at h
  unfold w_X4_isExcluded_b12
  obtain ⟨hn, h⟩ := h
  refine ⟨hn, ?_⟩
  exact hQ _ _ _ hC hP h
def v_X4_isExcluded_b0 (E : eT) (w : Nat) (x0 : Nat) (Z : zT) (Q : Int32 → zT → Prop) : Prop :=
  ∀ x101 : Int32, x101 = Z w 17 x0 →
  ((0 ≤ x101 →
  v_X4_isExcluded_b12 E w (0 : Int32) Z Q) ∧
  (¬ 0 ≤ x101 →
  v_X4_isExcluded_b12 E w (1 : Int32) Z Q))
set_option maxHeartbeats 1000000 in
theorem u_X4_isExcluded_b0 {Q : Int32 → sT → Prop} {Q' : Int32 → zT → Prop} {x0 : Nat} {S : sT} {Z : zT} (hSt : cSt P) (hQ : ∀ x S Z, CC H E S Z → P S → Q' x Z → Q x S)  (hw : w < 2) (k_x0 : x0 < E.2.1) (hC : CC H E S Z) (hP : P S) (h : v_X4_isExcluded_b0 E w x0 Z Q') : w_X4_isExcluded_b0 (H w 6 x0) S Q := by
  unfold v_X4_isExcluded_b0 at h
  unfold w_X4_isExcluded_b0
  refine ⟨rK_Own hC hw k_x0, ?_⟩
  intro x101 ex
  replace h := h x101 (ex.trans (rI_17 hC hw k_x0))
  refine ⟨fun c => ?_, fun c => ?_⟩
  · replace h := h.1 c
    exact u_X4_isExcluded_b12 hSt hQ hw hC hP h
  · replace h := h.2 c
    exact u_X4_isExcluded_b12 hSt hQ hw hC hP h
def v_X4_isExcluded (E : eT) (w : Nat) (x0 : Nat) (Z : zT) (Q : Int32 → zT → Prop) : Prop :=
  v_X4_isExcluded_b0 E w x0 Z Q
set_option maxHeartbeats 1000000 in
theorem u_X4_isExcluded {Q : Int32 → sT → Prop} {Q' : Int32 → zT → Prop} {x0 : Nat} {S : sT} {Z : zT} (hSt : cSt P) (hQ : ∀ x S Z, CC H E S Z → P S → Q' x Z → Q x S)  (hw : w < 2) (k_x0 : x0 < E.2.1) (hC : CC H E S Z) (hP : P S) (h : v_X4_isExcluded E w x0 Z Q') : w_X4_isExcluded (H w 6 x0) S Q := by
  unfold v_X4_isExcluded at h
  unfold w_X4_isExcluded
  exact u_X4_isExcluded_b0 (x0 := x0) hSt hQ hw k_x0 hC hP h
def v_X3_sumOfGone_b0 (E : eT) (w : Nat) (Z : zT) (Q : Int32 → zT → Prop) : Prop :=
  ∀ x101 : Int32, x101 = Z w 70 0 →
  ∀ x102 : Int32, x102 = Z w 71 0 →
  ∀ x103 : Int32, x103 = x101 + x102 →
  ∀ x104 : Int32, x104 = Z w 72 0 →
  ∀ x105 : Int32, x105 = x103 + x104 →
  Q x105 Z
set_option maxHeartbeats 1000000 in
theorem u_X3_sumOfGone_b0 {Q : Int32 → sT → Prop} {Q' : Int32 → zT → Prop}  {S : sT} {Z : zT} (hSt : cSt P) (hQ : ∀ x S Z, CC H E S Z → P S → Q' x Z → Q x S)  (hw : w < 2)  (hC : CC H E S Z) (hP : P S) (h : v_X3_sumOfGone_b0 E w Z Q') : w_X3_sumOfGone_b0 (H w 3 0) S Q := by
  unfold v_X3_sumOfGone_b0 at h
  unfold w_X3_sumOfGone_b0
  refine ⟨rK_Led hC hw, ?_⟩
  intro x101 ex
  replace h := h x101 (ex.trans (rI_70 hC hw z01))
  intro x102 ex
  replace h := h x102 (ex.trans (rI_71 hC hw z01))
  intro x103 ex
  replace h := h x103 ex
  intro x104 ex
  replace h := h x104 (ex.trans (rI_72 hC hw z01))
  intro x105 ex
  replace h := h x105 ex
  exact hQ _ _ _ hC hP h
def v_X3_sumOfGone (E : eT) (w : Nat) (Z : zT) (Q : Int32 → zT → Prop) : Prop :=
  v_X3_sumOfGone_b0 E w Z Q
set_option maxHeartbeats 1000000 in
theorem u_X3_sumOfGone {Q : Int32 → sT → Prop} {Q' : Int32 → zT → Prop}  {S : sT} {Z : zT} (hSt : cSt P) (hQ : ∀ x S Z, CC H E S Z → P S → Q' x Z → Q x S)  (hw : w < 2)  (hC : CC H E S Z) (hP : P S) (h : v_X3_sumOfGone E w Z Q') : w_X3_sumOfGone (H w 3 0) S Q := by
  unfold v_X3_sumOfGone at h
  unfold w_X3_sumOfGone
  exact u_X3_sumOfGone_b0 hSt hQ hw hC hP h
def v_X6_isOnTheStalk_b15 (E : eT) (y0 : Int32) (Z : zT) (Q : Int32 → zT → Prop) : Prop :=
  (y0 = 0 ∨ y0 = 1) ∧
  Q y0 Z
set_option maxHeartbeats 1000000 in
theorem u_X6_isOnTheStalk_b15 {Q : Int32 → sT → Prop} {Q' : Int32 → zT → Prop} {y0 : Int32} {S : sT} {Z : zT} (hSt : cSt P) (hQ : ∀ x S Z, CC H E S Z → P S → Q' x Z → Q x S)   (hC : CC H E S Z) (hP : P S) (h : v_X6_isOnTheStalk_b15 E y0 Z Q') : w_X6_isOnTheStalk_b15 y0 S Q := by
  unfold v_X6_isOnTheStalk_b15 at h
  unfold w_X6_isOnTheStalk_b15
  obtain ⟨hn, h⟩ := h
  refine ⟨hn, ?_⟩
  exact hQ _ _ _ hC hP h
def v_X6_isOnTheStalk_b14 (E : eT) (Z : zT) (Q : Int32 → zT → Prop) : Prop :=
  v_X6_isOnTheStalk_b15 E (0 : Int32) Z Q
set_option maxHeartbeats 1000000 in
theorem u_X6_isOnTheStalk_b14 {Q : Int32 → sT → Prop} {Q' : Int32 → zT → Prop}  {S : sT} {Z : zT} (hSt : cSt P) (hQ : ∀ x S Z, CC H E S Z → P S → Q' x Z → Q x S)   (hC : CC H E S Z) (hP : P S) (h : v_X6_isOnTheStalk_b14 E Z Q') : w_X6_isOnTheStalk_b14 S Q := by
  unfold v_X6_isOnTheStalk_b14 at h
  unfold w_X6_isOnTheStalk_b14
  exact u_X6_isOnTheStalk_b15 hSt hQ hC hP h
def v_X6_isOnTheStalk_b0 (E : eT) (x0 : Int32) (Z : zT) (Q : Int32 → zT → Prop) : Prop :=
  ((x0 < (2 : Int32) →
  v_X6_isOnTheStalk_b14 E Z Q) ∧
  (¬ x0 < (2 : Int32) →
  (((4 : Int32) < x0 →
  v_X6_isOnTheStalk_b14 E Z Q) ∧
  (¬ (4 : Int32) < x0 →
  v_X6_isOnTheStalk_b15 E (1 : Int32) Z Q))))
set_option maxHeartbeats 1000000 in
theorem u_X6_isOnTheStalk_b0 {Q : Int32 → sT → Prop} {Q' : Int32 → zT → Prop} {x0 : Int32} {S : sT} {Z : zT} (hSt : cSt P) (hQ : ∀ x S Z, CC H E S Z → P S → Q' x Z → Q x S)   (hC : CC H E S Z) (hP : P S) (h : v_X6_isOnTheStalk_b0 E x0 Z Q') : w_X6_isOnTheStalk_b0 x0 S Q := by
  unfold v_X6_isOnTheStalk_b0 at h
  unfold w_X6_isOnTheStalk_b0
  refine ⟨fun c => ?_, fun c => ?_⟩
  · replace h := h.1 c
    exact u_X6_isOnTheStalk_b14 hSt hQ hC hP h
  · replace h := h.2 c
    refine ⟨fun c => ?_, fun c => ?_⟩
    · replace h := h.1 c
      exact u_X6_isOnTheStalk_b14 hSt hQ hC hP h
    · replace h := h.2 c
      exact u_X6_isOnTheStalk_b15 hSt hQ hC hP h
def v_X6_isOnTheStalk (E : eT) (x0 : Int32) (Z : zT) (Q : Int32 → zT → Prop) : Prop :=
  v_X6_isOnTheStalk_b0 E x0 Z Q
set_option maxHeartbeats 1000000 in
theorem u_X6_isOnTheStalk {Q : Int32 → sT → Prop} {Q' : Int32 → zT → Prop} {x0 : Int32} {S : sT} {Z : zT} (hSt : cSt P) (hQ : ∀ x S Z, CC H E S Z → P S → Q' x Z → Q x S)   (hC : CC H E S Z) (hP : P S) (h : v_X6_isOnTheStalk E x0 Z Q') : w_X6_isOnTheStalk x0 S Q := by
  unfold v_X6_isOnTheStalk at h
  unfold w_X6_isOnTheStalk
  exact u_X6_isOnTheStalk_b0 hSt hQ hC hP h
def v_X6_isWithin_b15 (E : eT) (y0 : Int32) (Z : zT) (Q : Int32 → zT → Prop) : Prop :=
  (y0 = 0 ∨ y0 = 1) ∧
  Q y0 Z
set_option maxHeartbeats 1000000 in
theorem u_X6_isWithin_b15 {Q : Int32 → sT → Prop} {Q' : Int32 → zT → Prop} {y0 : Int32} {S : sT} {Z : zT} (hSt : cSt P) (hQ : ∀ x S Z, CC H E S Z → P S → Q' x Z → Q x S)   (hC : CC H E S Z) (hP : P S) (h : v_X6_isWithin_b15 E y0 Z Q') : w_X6_isWithin_b15 y0 S Q := by
  unfold v_X6_isWithin_b15 at h
  unfold w_X6_isWithin_b15
  obtain ⟨hn, h⟩ := h
  refine ⟨hn, ?_⟩
  exact hQ _ _ _ hC hP h
def v_X6_isWithin_b14 (E : eT) (Z : zT) (Q : Int32 → zT → Prop) : Prop :=
  v_X6_isWithin_b15 E (0 : Int32) Z Q
set_option maxHeartbeats 1000000 in
theorem u_X6_isWithin_b14 {Q : Int32 → sT → Prop} {Q' : Int32 → zT → Prop}  {S : sT} {Z : zT} (hSt : cSt P) (hQ : ∀ x S Z, CC H E S Z → P S → Q' x Z → Q x S)   (hC : CC H E S Z) (hP : P S) (h : v_X6_isWithin_b14 E Z Q') : w_X6_isWithin_b14 S Q := by
  unfold v_X6_isWithin_b14 at h
  unfold w_X6_isWithin_b14
  exact u_X6_isWithin_b15 hSt hQ hC hP h
def v_X6_isWithin_b0 (E : eT) (x0 : Int32) (x1 : Int32) (x2 : Int32) (Z : zT) (Q : Int32 → zT → Prop) : Prop :=
  ((x0 < x1 →
  v_X6_isWithin_b14 E Z Q) ∧
  (¬ x0 < x1 →
  ((x2 < x0 →
  v_X6_isWithin_b14 E Z Q) ∧
  (¬ x2 < x0 →
  v_X6_isWithin_b15 E (1 : Int32) Z Q))))
set_option maxHeartbeats 1000000 in
theorem u_X6_isWithin_b0 {Q : Int32 → sT → Prop} {Q' : Int32 → zT → Prop} {x0 : Int32} {x1 : Int32} {x2 : Int32} {S : sT} {Z : zT} (hSt : cSt P) (hQ : ∀ x S Z, CC H E S Z → P S → Q' x Z → Q x S)   (hC : CC H E S Z) (hP : P S) (h : v_X6_isWithin_b0 E x0 x1 x2 Z Q') : w_X6_isWithin_b0 x0 x1 x2 S Q := by
  unfold v_X6_isWithin_b0 at h
  unfold w_X6_isWithin_b0
  refine ⟨fun c => ?_, fun c => ?_⟩
  · replace h := h.1 c
    exact u_X6_isWithin_b14 hSt hQ hC hP h
  · replace h := h.2 c
    refine ⟨fun c => ?_, fun c => ?_⟩
    · replace h := h.1 c
      exact u_X6_isWithin_b14 hSt hQ hC hP h
    · replace h := h.2 c
      exact u_X6_isWithin_b15 hSt hQ hC hP h
def v_X6_isWithin (E : eT) (x0 : Int32) (x1 : Int32) (x2 : Int32) (Z : zT) (Q : Int32 → zT → Prop) : Prop :=
  v_X6_isWithin_b0 E x0 x1 x2 Z Q
set_option maxHeartbeats 1000000 in
theorem u_X6_isWithin {Q : Int32 → sT → Prop} {Q' : Int32 → zT → Prop} {x0 : Int32} {x1 : Int32} {x2 : Int32} {S : sT} {Z : zT} (hSt : cSt P) (hQ : ∀ x S Z, CC H E S Z → P S → Q' x Z → Q x S)   (hC : CC H E S Z) (hP : P S) (h : v_X6_isWithin E x0 x1 x2 Z Q') : w_X6_isWithin x0 x1 x2 S Q := by
  unfold v_X6_isWithin at h
  unfold w_X6_isWithin
  exact u_X6_isWithin_b0 hSt hQ hC hP h
def v_X6_oneIf_b9 (E : eT) (y0 : Int32) (Z : zT) (Q : Int32 → zT → Prop) : Prop :=
  Q y0 Z
set_option maxHeartbeats 1000000 in
theorem u_X6_oneIf_b9 {Q : Int32 → sT → Prop} {Q' : Int32 → zT → Prop} {y0 : Int32} {S : sT} {Z : zT} (hSt : cSt P) (hQ : ∀ x S Z, CC H E S Z → P S → Q' x Z → Q x S)   (hC : CC H E S Z) (hP : P S) (h : v_X6_oneIf_b9 E y0 Z Q') : w_X6_oneIf_b9 y0 S Q := by
  unfold v_X6_oneIf_b9 at h
  unfold w_X6_oneIf_b9
  exact hQ _ _ _ hC hP h
def v_X6_oneIf_b0 (E : eT) (x0 : Int32) (Z : zT) (Q : Int32 → zT → Prop) : Prop :=
  ((x0 = 0 →
  v_X6_oneIf_b9 E (0 : Int32) Z Q) ∧
  (¬ x0 = 0 →
  v_X6_oneIf_b9 E (1 : Int32) Z Q))
set_option maxHeartbeats 1000000 in
theorem u_X6_oneIf_b0 {Q : Int32 → sT → Prop} {Q' : Int32 → zT → Prop} {x0 : Int32} {S : sT} {Z : zT} (hSt : cSt P) (hQ : ∀ x S Z, CC H E S Z → P S → Q' x Z → Q x S)   (hC : CC H E S Z) (hP : P S) (h : v_X6_oneIf_b0 E x0 Z Q') : w_X6_oneIf_b0 x0 S Q := by
  unfold v_X6_oneIf_b0 at h
  unfold w_X6_oneIf_b0
  refine ⟨fun c => ?_, fun c => ?_⟩
  · replace h := h.1 c
    exact u_X6_oneIf_b9 hSt hQ hC hP h
  · replace h := h.2 c
    exact u_X6_oneIf_b9 hSt hQ hC hP h
def v_X6_oneIf (E : eT) (x0 : Int32) (Z : zT) (Q : Int32 → zT → Prop) : Prop :=
  v_X6_oneIf_b0 E x0 Z Q
set_option maxHeartbeats 1000000 in
theorem u_X6_oneIf {Q : Int32 → sT → Prop} {Q' : Int32 → zT → Prop} {x0 : Int32} {S : sT} {Z : zT} (hSt : cSt P) (hQ : ∀ x S Z, CC H E S Z → P S → Q' x Z → Q x S)   (hC : CC H E S Z) (hP : P S) (h : v_X6_oneIf E x0 Z Q') : w_X6_oneIf x0 S Q := by
  unfold v_X6_oneIf at h
  unfold w_X6_oneIf
  exact u_X6_oneIf_b0 hSt hQ hC hP h
def v_X6_numberOf_b12 (E : eT) (y0 : Int32) (Z : zT) (Q : Int32 → zT → Prop) : Prop :=
  Q y0 Z
set_option maxHeartbeats 1000000 in
theorem u_X6_numberOf_b12 {Q : Int32 → sT → Prop} {Q' : Int32 → zT → Prop} {y0 : Int32} {S : sT} {Z : zT} (hSt : cSt P) (hQ : ∀ x S Z, CC H E S Z → P S → Q' x Z → Q x S)   (hC : CC H E S Z) (hP : P S) (h : v_X6_numberOf_b12 E y0 Z Q') : w_X6_numberOf_b12 y0 S Q := by
  unfold v_X6_numberOf_b12 at h
  unfold w_X6_numberOf_b12
  exact hQ _ _ _ hC hP h
def v_X6_numberOf_b0 (E : eT) (x0 : Option Nat) (Z : zT) (Q : Int32 → zT → Prop) : Prop :=
  ((x0 = none →
  v_X6_numberOf_b12 E (-1 : Int32) Z Q) ∧
  (∀ a101 : Nat, x0 = some a101 →
  ∀ x103 : Int32, x103 = nI a101 →
  v_X6_numberOf_b12 E x103 Z Q))
set_option maxHeartbeats 1000000 in
theorem u_X6_numberOf_b0 {Q : Int32 → sT → Prop} {Q' : Int32 → zT → Prop} {x0 : Option Nat} {S : sT} {Z : zT} (hSt : cSt P) (hQ : ∀ x S Z, CC H E S Z → P S → Q' x Z → Q x S)  (k_x0 : ∀ k, x0 = some k → k < E.2.1) (hC : CC H E S Z) (hP : P S) (h : v_X6_numberOf_b0 E x0 Z Q') : w_X6_numberOf_b0 (Option.map (H 0 5) x0) S Q := by
  unfold v_X6_numberOf_b0 at h
  unfold w_X6_numberOf_b0
  refine ⟨fun c => ?_, fun a c => ?_⟩
  · replace h := h.1 (optN c)
    exact u_X6_numberOf_b12 hSt hQ hC hP h
  · obtain ⟨a101, cz, ea⟩ := optS c
    clear c
    subst ea
    replace h := h.2 a101 cz
    have k_a101 := k_x0 _ cz
    refine ⟨rK_Fld hC z02 k_a101, ?_⟩
    intro x103 ex
    replace h := h x103 (ex.trans (rG_64 hC z02 k_a101))
    exact u_X6_numberOf_b12 hSt hQ hC hP h
def v_X6_numberOf (E : eT) (x0 : Option Nat) (Z : zT) (Q : Int32 → zT → Prop) : Prop :=
  v_X6_numberOf_b0 E x0 Z Q
set_option maxHeartbeats 1000000 in
theorem u_X6_numberOf {Q : Int32 → sT → Prop} {Q' : Int32 → zT → Prop} {x0 : Option Nat} {S : sT} {Z : zT} (hSt : cSt P) (hQ : ∀ x S Z, CC H E S Z → P S → Q' x Z → Q x S)  (k_x0 : ∀ k, x0 = some k → k < E.2.1) (hC : CC H E S Z) (hP : P S) (h : v_X6_numberOf E x0 Z Q') : w_X6_numberOf (Option.map (H 0 5) x0) S Q := by
  unfold v_X6_numberOf at h
  unfold w_X6_numberOf
  exact u_X6_numberOf_b0 (x0 := x0) hSt hQ k_x0 hC hP h
def v_X6_mix_b0 (E : eT) (x0 : Int64) (x2 : Int32) (Z : zT) (Q : Int64 → zT → Prop) : Prop :=
  ∀ j101 : Int64, j101 = x0 * (31 : Int64) →
  ∀ j102 : Int64, j102 = Int32.toInt64 x2 →
  ∀ j103 : Int64, j103 = j101 + j102 →
  Q j103 Z
set_option maxHeartbeats 1000000 in
theorem u_X6_mix_b0 {Q : Int64 → sT → Prop} {Q' : Int64 → zT → Prop} {x0 : Int64} {x2 : Int32} {S : sT} {Z : zT} (hSt : cSt P) (hQ : ∀ x S Z, CC H E S Z → P S → Q' x Z → Q x S)   (hC : CC H E S Z) (hP : P S) (h : v_X6_mix_b0 E x0 x2 Z Q') : w_X6_mix_b0 x0 x2 S Q := by
  unfold v_X6_mix_b0 at h
  unfold w_X6_mix_b0
  intro j101 ex
  replace h := h j101 ex
  intro j102 ex
  replace h := h j102 ex
  intro j103 ex
  replace h := h j103 ex
  exact hQ _ _ _ hC hP h
def v_X6_mix (E : eT) (x0 : Int64) (x2 : Int32) (Z : zT) (Q : Int64 → zT → Prop) : Prop :=
  v_X6_mix_b0 E x0 x2 Z Q
set_option maxHeartbeats 1000000 in
theorem u_X6_mix {Q : Int64 → sT → Prop} {Q' : Int64 → zT → Prop} {x0 : Int64} {x2 : Int32} {S : sT} {Z : zT} (hSt : cSt P) (hQ : ∀ x S Z, CC H E S Z → P S → Q' x Z → Q x S)   (hC : CC H E S Z) (hP : P S) (h : v_X6_mix E x0 x2 Z Q') : w_X6_mix x0 x2 S Q := by
  unfold v_X6_mix at h
  unfold w_X6_mix
  exact u_X6_mix_b0 hSt hQ hC hP h
def v_X6_inRow_b17 (E : eT) (y0 : Int32) (Z : zT) (Q : Int32 → zT → Prop) : Prop :=
  Q y0 Z
set_option maxHeartbeats 1000000 in
theorem u_X6_inRow_b17 {Q : Int32 → sT → Prop} {Q' : Int32 → zT → Prop} {y0 : Int32} {S : sT} {Z : zT} (hSt : cSt P) (hQ : ∀ x S Z, CC H E S Z → P S → Q' x Z → Q x S)   (hC : CC H E S Z) (hP : P S) (h : v_X6_inRow_b17 E y0 Z Q') : w_X6_inRow_b17 y0 S Q := by
  unfold v_X6_inRow_b17 at h
  unfold w_X6_inRow_b17
  exact hQ _ _ _ hC hP h
def v_X6_inRow_b16 (E : eT) (Z : zT) (Q : Int32 → zT → Prop) : Prop :=
  v_X6_inRow_b17 E (0 : Int32) Z Q
set_option maxHeartbeats 1000000 in
theorem u_X6_inRow_b16 {Q : Int32 → sT → Prop} {Q' : Int32 → zT → Prop}  {S : sT} {Z : zT} (hSt : cSt P) (hQ : ∀ x S Z, CC H E S Z → P S → Q' x Z → Q x S)   (hC : CC H E S Z) (hP : P S) (h : v_X6_inRow_b16 E Z Q') : w_X6_inRow_b16 S Q := by
  unfold v_X6_inRow_b16 at h
  unfold w_X6_inRow_b16
  exact u_X6_inRow_b17 hSt hQ hC hP h
def v_X6_inRow_b0 (E : eT) (x0 : Nat) (x1 : Int32) (Z : zT) (Q : Int32 → zT → Prop) : Prop :=
  ((x1 < 0 →
  v_X6_inRow_b16 E Z Q) ∧
  (¬ x1 < 0 →
  x0 < 6 ∧
  ∀ x103 : Int32, x103 = nI (s_tN x0) →
  ((x103 ≤ x1 →
  v_X6_inRow_b16 E Z Q) ∧
  (¬ x103 ≤ x1 →
  (x0 < 6 ∧ vp_in x1 (s_tN x0)) ∧
  ∀ x106 : Int32, x106 = s_tV x0 (Int32.toNatClampNeg x1) →
  v_X6_inRow_b17 E x106 Z Q))))
set_option maxHeartbeats 1000000 in
theorem u_X6_inRow_b0 {Q : Int32 → sT → Prop} {Q' : Int32 → zT → Prop} {x0 : Nat} {x1 : Int32} {S : sT} {Z : zT} (hSt : cSt P) (hQ : ∀ x S Z, CC H E S Z → P S → Q' x Z → Q x S)   (hC : CC H E S Z) (hP : P S) (h : v_X6_inRow_b0 E x0 x1 Z Q') : w_X6_inRow_b0 x0 x1 S Q := by
  unfold v_X6_inRow_b0 at h
  unfold w_X6_inRow_b0
  refine ⟨fun c => ?_, fun c => ?_⟩
  · replace h := h.1 c
    exact u_X6_inRow_b16 hSt hQ hC hP h
  · replace h := h.2 c
    obtain ⟨hn, h⟩ := h
    refine ⟨hn, ?_⟩
    intro x103 ex
    replace h := h x103 ex
    refine ⟨fun c => ?_, fun c => ?_⟩
    · replace h := h.1 c
      exact u_X6_inRow_b16 hSt hQ hC hP h
    · replace h := h.2 c
      obtain ⟨hn, h⟩ := h
      refine ⟨hn, ?_⟩
      intro x106 ex
      replace h := h x106 ex
      exact u_X6_inRow_b17 hSt hQ hC hP h
def v_X6_inRow (E : eT) (x0 : Nat) (x1 : Int32) (Z : zT) (Q : Int32 → zT → Prop) : Prop :=
  v_X6_inRow_b0 E x0 x1 Z Q
set_option maxHeartbeats 1000000 in
theorem u_X6_inRow {Q : Int32 → sT → Prop} {Q' : Int32 → zT → Prop} {x0 : Nat} {x1 : Int32} {S : sT} {Z : zT} (hSt : cSt P) (hQ : ∀ x S Z, CC H E S Z → P S → Q' x Z → Q x S)   (hC : CC H E S Z) (hP : P S) (h : v_X6_inRow E x0 x1 Z Q') : w_X6_inRow x0 x1 S Q := by
  unfold v_X6_inRow at h
  unfold w_X6_inRow
  exact u_X6_inRow_b0 hSt hQ hC hP h
def v_X0_begin_b0 (E : eT) (w : Nat) (x0 : Nat) (x1 : Int32) (Z : zT) (Q : zT → Prop) : Prop :=
  ∀ Z101 : zT, Z101 = u3 Z w 4 x0 (2 : Int32) →
  ∀ Z102 : zT, Z102 = u3 Z101 w 5 x0 x1 →
  ∀ Z103 : zT, Z103 = u3 Z102 w 6 x0 (0 : Int32) →
  ∀ Z104 : zT, Z104 = u3 Z103 w 7 x0 (100 : Int32) →
  ∀ Z105 : zT, Z105 = u3 Z104 w 10 x0 (0 : Int32) →
  ∀ Z106 : zT, Z106 = u3 Z105 w 20 x0 (0 : Int32) →
  ∀ Z107 : zT, Z107 = u3 Z106 w 21 x0 (120 : Int32) →
  Q Z107
set_option maxHeartbeats 1000000 in
theorem u_X0_begin_b0 {Q : sT → Prop} {Q' : zT → Prop} {x0 : Nat} {x1 : Int32} {S : sT} {Z : zT} (hSt : cSt P) (hQ : ∀ S Z, CC H E S Z → P S → Q' Z → Q S)  (hw : w < 2) (k_x0 : x0 < E.2.1) (hC : CC H E S Z) (hP : P S) (h : v_X0_begin_b0 E w x0 x1 Z Q') : w_X0_begin_b0 (H w 7 x0) x1 S Q := by
  unfold v_X0_begin_b0 at h
  unfold w_X0_begin_b0
  refine ⟨rK_Crp hC hw k_x0, ?_⟩
  intro S101 eS
  obtain ⟨Z101, eZ, h⟩ := vEx h
  replace hC := wI_4 hC hw k_x0 eS eZ
  replace hP := eS ▸ hSt _ 32 _ _ (by decide) hP
  clear eS eZ
  intro S102 eS
  obtain ⟨Z102, eZ, h⟩ := vEx h
  replace hC := wI_5 hC hw k_x0 eS eZ
  replace hP := eS ▸ hSt _ 33 _ _ (by decide) hP
  clear eS eZ
  intro S103 eS
  obtain ⟨Z103, eZ, h⟩ := vEx h
  replace hC := wI_6 hC hw k_x0 eS eZ
  replace hP := eS ▸ hSt _ 34 _ _ (by decide) hP
  clear eS eZ
  intro S104 eS
  obtain ⟨Z104, eZ, h⟩ := vEx h
  replace hC := wI_7 hC hw k_x0 eS eZ
  replace hP := eS ▸ hSt _ 35 _ _ (by decide) hP
  clear eS eZ
  intro S105 eS
  obtain ⟨Z105, eZ, h⟩ := vEx h
  replace hC := wI_10 hC hw k_x0 eS eZ
  replace hP := eS ▸ hSt _ 37 _ _ (by decide) hP
  clear eS eZ
  intro S106 eS
  obtain ⟨Z106, eZ, h⟩ := vEx h
  replace hC := wI_20 hC hw k_x0 eS eZ
  replace hP := eS ▸ hSt _ 38 _ _ (by decide) hP
  clear eS eZ
  intro S107 eS
  obtain ⟨Z107, eZ, h⟩ := vEx h
  replace hC := wI_21 hC hw k_x0 eS eZ
  replace hP := eS ▸ hSt _ 39 _ _ (by decide) hP
  clear eS eZ
  exact hQ _ _ hC hP h
def v_X0_begin (E : eT) (w : Nat) (x0 : Nat) (x1 : Int32) (Z : zT) (Q : zT → Prop) : Prop :=
  v_X0_begin_b0 E w x0 x1 Z Q
set_option maxHeartbeats 1000000 in
theorem u_X0_begin {Q : sT → Prop} {Q' : zT → Prop} {x0 : Nat} {x1 : Int32} {S : sT} {Z : zT} (hSt : cSt P) (hQ : ∀ S Z, CC H E S Z → P S → Q' Z → Q S)  (hw : w < 2) (k_x0 : x0 < E.2.1) (hC : CC H E S Z) (hP : P S) (h : v_X0_begin E w x0 x1 Z Q') : w_X0_begin (H w 7 x0) x1 S Q := by
  unfold v_X0_begin at h
  unfold w_X0_begin
  exact u_X0_begin_b0 (x0 := x0) hSt hQ hw k_x0 hC hP h
def v_X0_end_b0 (E : eT) (w : Nat) (x0 : Nat) (Z : zT) (Q : zT → Prop) : Prop :=
  ∀ Z101 : zT, Z101 = u3 Z w 4 x0 (0 : Int32) →
  ∀ Z102 : zT, Z102 = u3 Z101 w 5 x0 (-1 : Int32) →
  ∀ Z103 : zT, Z103 = u3 Z102 w 6 x0 (0 : Int32) →
  ∀ Z104 : zT, Z104 = u3 Z103 w 7 x0 (0 : Int32) →
  Q Z104
set_option maxHeartbeats 1000000 in
theorem u_X0_end_b0 {Q : sT → Prop} {Q' : zT → Prop} {x0 : Nat} {S : sT} {Z : zT} (hSt : cSt P) (hQ : ∀ S Z, CC H E S Z → P S → Q' Z → Q S)  (hw : w < 2) (k_x0 : x0 < E.2.1) (hC : CC H E S Z) (hP : P S) (h : v_X0_end_b0 E w x0 Z Q') : w_X0_end_b0 (H w 7 x0) S Q := by
  unfold v_X0_end_b0 at h
  unfold w_X0_end_b0
  refine ⟨rK_Crp hC hw k_x0, ?_⟩
  intro S101 eS
  obtain ⟨Z101, eZ, h⟩ := vEx h
  replace hC := wI_4 hC hw k_x0 eS eZ
  replace hP := eS ▸ hSt _ 32 _ _ (by decide) hP
  clear eS eZ
  intro S102 eS
  obtain ⟨Z102, eZ, h⟩ := vEx h
  replace hC := wI_5 hC hw k_x0 eS eZ
  replace hP := eS ▸ hSt _ 33 _ _ (by decide) hP
  clear eS eZ
  intro S103 eS
  obtain ⟨Z103, eZ, h⟩ := vEx h
  replace hC := wI_6 hC hw k_x0 eS eZ
  replace hP := eS ▸ hSt _ 34 _ _ (by decide) hP
  clear eS eZ
  intro S104 eS
  obtain ⟨Z104, eZ, h⟩ := vEx h
  replace hC := wI_7 hC hw k_x0 eS eZ
  replace hP := eS ▸ hSt _ 35 _ _ (by decide) hP
  clear eS eZ
  exact hQ _ _ hC hP h
def v_X0_end (E : eT) (w : Nat) (x0 : Nat) (Z : zT) (Q : zT → Prop) : Prop :=
  v_X0_end_b0 E w x0 Z Q
set_option maxHeartbeats 1000000 in
theorem u_X0_end {Q : sT → Prop} {Q' : zT → Prop} {x0 : Nat} {S : sT} {Z : zT} (hSt : cSt P) (hQ : ∀ S Z, CC H E S Z → P S → Q' Z → Q S)  (hw : w < 2) (k_x0 : x0 < E.2.1) (hC : CC H E S Z) (hP : P S) (h : v_X0_end E w x0 Z Q') : w_X0_end (H w 7 x0) S Q := by
  unfold v_X0_end at h
  unfold w_X0_end
  exact u_X0_end_b0 (x0 := x0) hSt hQ hw k_x0 hC hP h
def v_X0_thirst_b15 (E : eT) (w : Nat) (y0 : Int32) (Z : zT) (Q : Int32 → zT → Prop) : Prop :=
  Q y0 Z
set_option maxHeartbeats 1000000 in
theorem u_X0_thirst_b15 {Q : Int32 → sT → Prop} {Q' : Int32 → zT → Prop} {y0 : Int32} {S : sT} {Z : zT} (hSt : cSt P) (hQ : ∀ x S Z, CC H E S Z → P S → Q' x Z → Q x S)  (hw : w < 2)  (hC : CC H E S Z) (hP : P S) (h : v_X0_thirst_b15 E w y0 Z Q') : w_X0_thirst_b15 y0 S Q := by
  unfold v_X0_thirst_b15 at h
  unfold w_X0_thirst_b15
  exact hQ _ _ _ hC hP h
def v_X0_thirst_b0 (E : eT) (w : Nat) (x0 : Nat) (Z : zT) (Q : Int32 → zT → Prop) : Prop :=
  ∀ x101 : Int32, x101 = Z w 4 x0 →
  v_X6_isOnTheStalk E x101 Z (fun x103 Z102 =>
  ((x103 = 0 →
  v_X0_thirst_b15 E w (1 : Int32) Z102 Q) ∧
  (¬ x103 = 0 →
  v_X0_thirst_b15 E w (2 : Int32) Z102 Q)))
set_option maxHeartbeats 1000000 in
theorem u_X0_thirst_b0 {Q : Int32 → sT → Prop} {Q' : Int32 → zT → Prop} {x0 : Nat} {S : sT} {Z : zT} (hSt : cSt P) (hQ : ∀ x S Z, CC H E S Z → P S → Q' x Z → Q x S)  (hw : w < 2) (k_x0 : x0 < E.2.1) (hC : CC H E S Z) (hP : P S) (h : v_X0_thirst_b0 E w x0 Z Q') : w_X0_thirst_b0 (H w 7 x0) S Q := by
  unfold v_X0_thirst_b0 at h
  unfold w_X0_thirst_b0
  refine ⟨rK_Crp hC hw k_x0, ?_⟩
  intro x101 ex
  replace h := h x101 (ex.trans (rI_4 hC hw k_x0))
  refine u_X6_isOnTheStalk hSt (fun x103 S102 Z102 hC hP h => ?_) hC hP h
  refine ⟨fun c => ?_, fun c => ?_⟩
  · replace h := h.1 c
    exact u_X0_thirst_b15 hSt hQ hw hC hP h
  · replace h := h.2 c
    exact u_X0_thirst_b15 hSt hQ hw hC hP h
def v_X0_thirst (E : eT) (w : Nat) (x0 : Nat) (Z : zT) (Q : Int32 → zT → Prop) : Prop :=
  v_X0_thirst_b0 E w x0 Z Q
set_option maxHeartbeats 1000000 in
theorem u_X0_thirst {Q : Int32 → sT → Prop} {Q' : Int32 → zT → Prop} {x0 : Nat} {S : sT} {Z : zT} (hSt : cSt P) (hQ : ∀ x S Z, CC H E S Z → P S → Q' x Z → Q x S)  (hw : w < 2) (k_x0 : x0 < E.2.1) (hC : CC H E S Z) (hP : P S) (h : v_X0_thirst E w x0 Z Q') : w_X0_thirst (H w 7 x0) S Q := by
  unfold v_X0_thirst at h
  unfold w_X0_thirst
  exact u_X0_thirst_b0 (x0 := x0) hSt hQ hw k_x0 hC hP h
def v_X0_suffer_b45 (E : eT) (w : Nat) (x0 : Nat) (x3 : Int32) (Z : zT) (Q : zT → Prop) : Prop :=
  ∀ x101 : Int32, x101 = Z w 7 x0 →
  ∀ x102 : Int32, x102 = x101 - x3 →
  ∀ x103 : Int32, x103 = s_max (0 : Int32) x102 →
  ∀ Z104 : zT, Z104 = u3 Z w 7 x0 x103 →
  Q Z104
set_option maxHeartbeats 1000000 in
theorem u_X0_suffer_b45 {Q : sT → Prop} {Q' : zT → Prop} {x0 : Nat} {x3 : Int32} {S : sT} {Z : zT} (hSt : cSt P) (hQ : ∀ S Z, CC H E S Z → P S → Q' Z → Q S)  (hw : w < 2) (k_x0 : x0 < E.2.1) (hC : CC H E S Z) (hP : P S) (h : v_X0_suffer_b45 E w x0 x3 Z Q') : w_X0_suffer_b45 (H w 7 x0) x3 S Q := by
  unfold v_X0_suffer_b45 at h
  unfold w_X0_suffer_b45
  refine ⟨rK_Crp hC hw k_x0, ?_⟩
  intro x101 ex
  replace h := h x101 (ex.trans (rI_7 hC hw k_x0))
  intro x102 ex
  replace h := h x102 ex
  intro x103 ex
  replace h := h x103 ex
  intro S104 eS
  obtain ⟨Z104, eZ, h⟩ := vEx h
  replace hC := wI_7 hC hw k_x0 eS eZ
  replace hP := eS ▸ hSt _ 35 _ _ (by decide) hP
  clear eS eZ
  exact hQ _ _ hC hP h
def v_X0_suffer_b0 (E : eT) (w : Nat) (x0 : Nat) (x1 : Int32) (x2 : Int32) (Z : zT) (Q : zT → Prop) : Prop :=
  ∀ x101 : Int32, x101 = x2 / (20 : Int32) →
  (((2 : Int32) ≤ x1 →
  ((x1 ≤ (20 : Int32) →
  v_X0_suffer_b45 E w x0 x101 Z Q) ∧
  (¬ x1 ≤ (20 : Int32) →
  ∀ x104 : Int32, x104 = Z w 4 x0 →
  v_X6_inRow E 5 x104 Z (fun x106 Z105 =>
  ∀ x107 : Int32, x107 = x101 + x106 →
  v_X0_suffer_b45 E w x0 x107 Z105 Q)))) ∧
  (¬ (2 : Int32) ≤ x1 →
  ∀ x108 : Int32, x108 = Z w 4 x0 →
  v_X6_inRow E 4 x108 Z (fun x110 Z109 =>
  ∀ x111 : Int32, x111 = x101 + x110 →
  v_X0_suffer_b45 E w x0 x111 Z109 Q)))
set_option maxHeartbeats 1000000 in
theorem u_X0_suffer_b0 {Q : sT → Prop} {Q' : zT → Prop} {x0 : Nat} {x1 : Int32} {x2 : Int32} {S : sT} {Z : zT} (hSt : cSt P) (hQ : ∀ S Z, CC H E S Z → P S → Q' Z → Q S)  (hw : w < 2) (k_x0 : x0 < E.2.1) (hC : CC H E S Z) (hP : P S) (h : v_X0_suffer_b0 E w x0 x1 x2 Z Q') : w_X0_suffer_b0 (H w 7 x0) x1 x2 S Q := by
  unfold v_X0_suffer_b0 at h
  unfold w_X0_suffer_b0
  intro x101 ex
  replace h := h x101 ex
  refine ⟨fun c => ?_, fun c => ?_⟩
  · replace h := h.1 c
    refine ⟨fun c => ?_, fun c => ?_⟩
    · replace h := h.1 c
      exact u_X0_suffer_b45 (x0 := x0) hSt hQ hw k_x0 hC hP h
    · replace h := h.2 c
      refine ⟨rK_Crp hC hw k_x0, ?_⟩
      intro x104 ex
      replace h := h x104 (ex.trans (rI_4 hC hw k_x0))
      refine u_X6_inRow hSt (fun x106 S105 Z105 hC hP h => ?_) hC hP h
      intro x107 ex
      replace h := h x107 ex
      exact u_X0_suffer_b45 (x0 := x0) hSt hQ hw k_x0 hC hP h
  · replace h := h.2 c
    refine ⟨rK_Crp hC hw k_x0, ?_⟩
    intro x108 ex
    replace h := h x108 (ex.trans (rI_4 hC hw k_x0))
    refine u_X6_inRow hSt (fun x110 S109 Z109 hC hP h => ?_) hC hP h
    intro x111 ex
    replace h := h x111 ex
    exact u_X0_suffer_b45 (x0 := x0) hSt hQ hw k_x0 hC hP h
def v_X0_suffer (E : eT) (w : Nat) (x0 : Nat) (x1 : Int32) (x2 : Int32) (Z : zT) (Q : zT → Prop) : Prop :=
  v_X0_suffer_b0 E w x0 x1 x2 Z Q
set_option maxHeartbeats 1000000 in
theorem u_X0_suffer {Q : sT → Prop} {Q' : zT → Prop} {x0 : Nat} {x1 : Int32} {x2 : Int32} {S : sT} {Z : zT} (hSt : cSt P) (hQ : ∀ S Z, CC H E S Z → P S → Q' Z → Q S)  (hw : w < 2) (k_x0 : x0 < E.2.1) (hC : CC H E S Z) (hP : P S) (h : v_X0_suffer E w x0 x1 x2 Z Q') : w_X0_suffer (H w 7 x0) x1 x2 S Q := by
  unfold v_X0_suffer at h
  unfold w_X0_suffer
  exact u_X0_suffer_b0 (x0 := x0) hSt hQ hw k_x0 hC hP h
def v_X0_ripen_b72 (E : eT) (w : Nat) (Z : zT) (Q : zT → Prop) : Prop :=
  Q Z
set_option maxHeartbeats 1000000 in
theorem u_X0_ripen_b72 {Q : sT → Prop} {Q' : zT → Prop}  {S : sT} {Z : zT} (hSt : cSt P) (hQ : ∀ S Z, CC H E S Z → P S → Q' Z → Q S)  (hw : w < 2)  (hC : CC H E S Z) (hP : P S) (h : v_X0_ripen_b72 E w Z Q') : w_X0_ripen_b72 S Q := by
  unfold v_X0_ripen_b72 at h
  unfold w_X0_ripen_b72
  exact hQ _ _ hC hP h
def v_X0_ripen_b0 (E : eT) (w : Nat) (x0 : Nat) (Z : zT) (Q : zT → Prop) : Prop :=
  ∀ x101 : Int32, x101 = Z w 6 x0 →
  ∀ x102 : Int32, x102 = Z w 5 x0 →
  v_X6_inRow E 2 x102 Z (fun x104 Z103 =>
  ((x101 < x104 →
  ∀ x106 : Int32, x106 = Z103 w 6 x0 →
  ∀ x107 : Int32, x107 = Z103 w 5 x0 →
  v_X6_inRow E 1 x107 Z103 (fun x109 Z108 =>
  ((x106 < x109 →
  ∀ x111 : Int32, x111 = Z108 w 6 x0 →
  ∀ x112 : Int32, x112 = Z108 w 5 x0 →
  v_X6_inRow E 0 x112 Z108 (fun x114 Z113 =>
  ((x111 < x114 →
  v_X0_ripen_b72 E w Z113 Q) ∧
  (¬ x111 < x114 →
  ∀ Z116 : zT, Z116 = u3 Z113 w 4 x0 (3 : Int32) →
  v_X0_ripen_b72 E w Z116 Q)))) ∧
  (¬ x106 < x109 →
  ∀ Z117 : zT, Z117 = u3 Z108 w 4 x0 (4 : Int32) →
  v_X0_ripen_b72 E w Z117 Q)))) ∧
  (¬ x101 < x104 →
  ∀ Z118 : zT, Z118 = u3 Z103 w 4 x0 (5 : Int32) →
  v_X0_ripen_b72 E w Z118 Q)))
set_option maxHeartbeats 1000000 in
theorem u_X0_ripen_b0 {Q : sT → Prop} {Q' : zT → Prop} {x0 : Nat} {S : sT} {Z : zT} (hSt : cSt P) (hQ : ∀ S Z, CC H E S Z → P S → Q' Z → Q S)  (hw : w < 2) (k_x0 : x0 < E.2.1) (hC : CC H E S Z) (hP : P S) (h : v_X0_ripen_b0 E w x0 Z Q') : w_X0_ripen_b0 (H w 7 x0) S Q := by
  unfold v_X0_ripen_b0 at h
  unfold w_X0_ripen_b0
  refine ⟨rK_Crp hC hw k_x0, ?_⟩
  intro x101 ex
  replace h := h x101 (ex.trans (rI_6 hC hw k_x0))
  intro x102 ex
  replace h := h x102 (ex.trans (rI_5 hC hw k_x0))
  refine u_X6_inRow hSt (fun x104 S103 Z103 hC hP h => ?_) hC hP h
  refine ⟨fun c => ?_, fun c => ?_⟩
  · replace h := h.1 c
    refine ⟨rK_Crp hC hw k_x0, ?_⟩
    intro x106 ex
    replace h := h x106 (ex.trans (rI_6 hC hw k_x0))
    intro x107 ex
    replace h := h x107 (ex.trans (rI_5 hC hw k_x0))
    refine u_X6_inRow hSt (fun x109 S108 Z108 hC hP h => ?_) hC hP h
    refine ⟨fun c => ?_, fun c => ?_⟩
    · replace h := h.1 c
      refine ⟨rK_Crp hC hw k_x0, ?_⟩
      intro x111 ex
      replace h := h x111 (ex.trans (rI_6 hC hw k_x0))
      intro x112 ex
      replace h := h x112 (ex.trans (rI_5 hC hw k_x0))
      refine u_X6_inRow hSt (fun x114 S113 Z113 hC hP h => ?_) hC hP h
      refine ⟨fun c => ?_, fun c => ?_⟩
      · replace h := h.1 c
        exact u_X0_ripen_b72 hSt hQ hw hC hP h
      · replace h := h.2 c
        refine ⟨rK_Crp hC hw k_x0, ?_⟩
        intro S116 eS
        obtain ⟨Z116, eZ, h⟩ := vEx h
        replace hC := wI_4 hC hw k_x0 eS eZ
        replace hP := eS ▸ hSt _ 32 _ _ (by decide) hP
        clear eS eZ
        exact u_X0_ripen_b72 hSt hQ hw hC hP h
    · replace h := h.2 c
      refine ⟨rK_Crp hC hw k_x0, ?_⟩
      intro S117 eS
      obtain ⟨Z117, eZ, h⟩ := vEx h
      replace hC := wI_4 hC hw k_x0 eS eZ
      replace hP := eS ▸ hSt _ 32 _ _ (by decide) hP
      clear eS eZ
      exact u_X0_ripen_b72 hSt hQ hw hC hP h
  · replace h := h.2 c
    refine ⟨rK_Crp hC hw k_x0, ?_⟩
    intro S118 eS
    obtain ⟨Z118, eZ, h⟩ := vEx h
    replace hC := wI_4 hC hw k_x0 eS eZ
    replace hP := eS ▸ hSt _ 32 _ _ (by decide) hP
    clear eS eZ
    exact u_X0_ripen_b72 hSt hQ hw hC hP h
def v_X0_ripen (E : eT) (w : Nat) (x0 : Nat) (Z : zT) (Q : zT → Prop) : Prop :=
  v_X0_ripen_b0 E w x0 Z Q
set_option maxHeartbeats 1000000 in
theorem u_X0_ripen {Q : sT → Prop} {Q' : zT → Prop} {x0 : Nat} {S : sT} {Z : zT} (hSt : cSt P) (hQ : ∀ S Z, CC H E S Z → P S → Q' Z → Q S)  (hw : w < 2) (k_x0 : x0 < E.2.1) (hC : CC H E S Z) (hP : P S) (h : v_X0_ripen E w x0 Z Q') : w_X0_ripen (H w 7 x0) S Q := by
  unfold v_X0_ripen at h
  unfold w_X0_ripen
  exact u_X0_ripen_b0 (x0 := x0) hSt hQ hw k_x0 hC hP h
def v_X0_grow_b58 (E : eT) (w : Nat) (Z : zT) (Q : zT → Prop) : Prop :=
  Q Z
set_option maxHeartbeats 1000000 in
theorem u_X0_grow_b58 {Q : sT → Prop} {Q' : zT → Prop}  {S : sT} {Z : zT} (hSt : cSt P) (hQ : ∀ S Z, CC H E S Z → P S → Q' Z → Q S)  (hw : w < 2)  (hC : CC H E S Z) (hP : P S) (h : v_X0_grow_b58 E w Z Q') : w_X0_grow_b58 S Q := by
  unfold v_X0_grow_b58 at h
  unfold w_X0_grow_b58
  exact hQ _ _ hC hP h
def v_X0_grow_b0 (E : eT) (w : Nat) (x0 : Nat) (x1 : Int32) (x2 : Int32) (x3 : Int32) (Z : zT) (Q : zT → Prop) : Prop :=
  ∀ x101 : Int32, x101 = Z w 4 x0 →
  v_X6_isOnTheStalk E x101 Z (fun x103 Z102 =>
  ((¬ x103 = 0 →
  v_X0_suffer E w x0 x1 x2 Z102 (fun Z105 =>
  ∀ x106 : Int32, x106 = Z105 w 6 x0 →
  ∀ x107 : Int32, x107 = x106 + x3 →
  ∀ Z108 : zT, Z108 = u3 Z105 w 6 x0 x107 →
  v_X0_ripen E w x0 Z108 (fun Z109 =>
  ∀ x110 : Int32, x110 = Z109 w 4 x0 →
  v_X6_isOnTheStalk E x110 Z109 (fun x112 Z111 =>
  ((x112 = 0 →
  v_X0_grow_b58 E w Z111 Q) ∧
  (¬ x112 = 0 →
  ∀ x114 : Int32, x114 = Z111 w 9 x0 →
  ((x114 ≤ 0 →
  v_X0_grow_b58 E w Z111 Q) ∧
  (¬ x114 ≤ 0 →
  ∀ x116 : Int32, x116 = Z111 w 9 x0 →
  ∀ x117 : Int32, x117 = x116 - (1 : Int32) →
  ∀ Z118 : zT, Z118 = u3 Z111 w 9 x0 x117 →
  v_X0_grow_b58 E w Z118 Q)))))))) ∧
  (x103 = 0 →
  Q Z102)))
set_option maxHeartbeats 1000000 in
theorem u_X0_grow_b0 {Q : sT → Prop} {Q' : zT → Prop} {x0 : Nat} {x1 : Int32} {x2 : Int32} {x3 : Int32} {S : sT} {Z : zT} (hSt : cSt P) (hQ : ∀ S Z, CC H E S Z → P S → Q' Z → Q S)  (hw : w < 2) (k_x0 : x0 < E.2.1) (hC : CC H E S Z) (hP : P S) (h : v_X0_grow_b0 E w x0 x1 x2 x3 Z Q') : w_X0_grow_b0 (H w 7 x0) x1 x2 x3 S Q := by
  unfold v_X0_grow_b0 at h
  unfold w_X0_grow_b0
  refine ⟨rK_Crp hC hw k_x0, ?_⟩
  intro x101 ex
  replace h := h x101 (ex.trans (rI_4 hC hw k_x0))
  refine u_X6_isOnTheStalk hSt (fun x103 S102 Z102 hC hP h => ?_) hC hP h
  refine ⟨fun c => ?_, fun c => ?_⟩
  · replace h := h.1 c
    refine ⟨rK_Crp hC hw k_x0, ?_⟩
    refine u_X0_suffer (x0 := x0) hSt (fun S105 Z105 hC hP h => ?_) hw k_x0 hC hP h
    refine ⟨rK_Crp hC hw k_x0, ?_⟩
    intro x106 ex
    replace h := h x106 (ex.trans (rI_6 hC hw k_x0))
    intro x107 ex
    replace h := h x107 ex
    intro S108 eS
    obtain ⟨Z108, eZ, h⟩ := vEx h
    replace hC := wI_6 hC hw k_x0 eS eZ
    replace hP := eS ▸ hSt _ 34 _ _ (by decide) hP
    clear eS eZ
    refine u_X0_ripen (x0 := x0) hSt (fun S109 Z109 hC hP h => ?_) hw k_x0 hC hP h
    refine ⟨rK_Crp hC hw k_x0, ?_⟩
    intro x110 ex
    replace h := h x110 (ex.trans (rI_4 hC hw k_x0))
    refine u_X6_isOnTheStalk hSt (fun x112 S111 Z111 hC hP h => ?_) hC hP h
    refine ⟨fun c => ?_, fun c => ?_⟩
    · replace h := h.1 c
      exact u_X0_grow_b58 hSt hQ hw hC hP h
    · replace h := h.2 c
      refine ⟨rK_Crp hC hw k_x0, ?_⟩
      intro x114 ex
      replace h := h x114 (ex.trans (rI_9 hC hw k_x0))
      refine ⟨fun c => ?_, fun c => ?_⟩
      · replace h := h.1 c
        exact u_X0_grow_b58 hSt hQ hw hC hP h
      · replace h := h.2 c
        intro x116 ex
        replace h := h x116 (ex.trans (rI_9 hC hw k_x0))
        intro x117 ex
        replace h := h x117 ex
        intro S118 eS
        obtain ⟨Z118, eZ, h⟩ := vEx h
        replace hC := wI_9 hC hw k_x0 eS eZ
        replace hP := eS ▸ hSt _ 36 _ _ (by decide) hP
        clear eS eZ
        exact u_X0_grow_b58 hSt hQ hw hC hP h
  · replace h := h.2 c
    exact hQ _ _ hC hP h
def v_X0_grow (E : eT) (w : Nat) (x0 : Nat) (x1 : Int32) (x2 : Int32) (x3 : Int32) (Z : zT) (Q : zT → Prop) : Prop :=
  v_X0_grow_b0 E w x0 x1 x2 x3 Z Q
set_option maxHeartbeats 1000000 in
theorem u_X0_grow {Q : sT → Prop} {Q' : zT → Prop} {x0 : Nat} {x1 : Int32} {x2 : Int32} {x3 : Int32} {S : sT} {Z : zT} (hSt : cSt P) (hQ : ∀ S Z, CC H E S Z → P S → Q' Z → Q S)  (hw : w < 2) (k_x0 : x0 < E.2.1) (hC : CC H E S Z) (hP : P S) (h : v_X0_grow E w x0 x1 x2 x3 Z Q') : w_X0_grow (H w 7 x0) x1 x2 x3 S Q := by
  unfold v_X0_grow at h
  unfold w_X0_grow
  exact u_X0_grow_b0 (x0 := x0) hSt hQ hw k_x0 hC hP h
def v_X0_ripeYield_b0 (E : eT) (w : Nat) (x0 : Nat) (Z : zT) (Q : Int32 → zT → Prop) : Prop :=
  ∀ x101 : Int32, x101 = Z w 4 x0 →
  ((x101 = (5 : Int32) →
  ∀ x103 : Int32, x103 = Z w 5 x0 →
  v_X6_inRow E 3 x103 Z (fun x105 Z104 =>
  ∀ x106 : Int32, x106 = Z104 w 7 x0 →
  ∀ x107 : Int32, x107 = x105 * x106 →
  ∀ x108 : Int32, x108 = x107 / (100 : Int32) →
  ∀ x109 : Int32, x109 = Z104 w 9 x0 →
  ∀ x110 : Int32, x110 = (50 : Int32) + x109 →
  ∀ x111 : Int32, x111 = x108 * x110 →
  ∀ x112 : Int32, x112 = x111 / (100 : Int32) →
  Q x112 Z104)) ∧
  (¬ x101 = (5 : Int32) →
  Q (0 : Int32) Z))
set_option maxHeartbeats 1000000 in
theorem u_X0_ripeYield_b0 {Q : Int32 → sT → Prop} {Q' : Int32 → zT → Prop} {x0 : Nat} {S : sT} {Z : zT} (hSt : cSt P) (hQ : ∀ x S Z, CC H E S Z → P S → Q' x Z → Q x S)  (hw : w < 2) (k_x0 : x0 < E.2.1) (hC : CC H E S Z) (hP : P S) (h : v_X0_ripeYield_b0 E w x0 Z Q') : w_X0_ripeYield_b0 (H w 7 x0) S Q := by
  unfold v_X0_ripeYield_b0 at h
  unfold w_X0_ripeYield_b0
  refine ⟨rK_Crp hC hw k_x0, ?_⟩
  intro x101 ex
  replace h := h x101 (ex.trans (rI_4 hC hw k_x0))
  refine ⟨fun c => ?_, fun c => ?_⟩
  · replace h := h.1 c
    intro x103 ex
    replace h := h x103 (ex.trans (rI_5 hC hw k_x0))
    refine u_X6_inRow hSt (fun x105 S104 Z104 hC hP h => ?_) hC hP h
    refine ⟨rK_Crp hC hw k_x0, ?_⟩
    intro x106 ex
    replace h := h x106 (ex.trans (rI_7 hC hw k_x0))
    intro x107 ex
    replace h := h x107 ex
    intro x108 ex
    replace h := h x108 ex
    intro x109 ex
    replace h := h x109 (ex.trans (rI_9 hC hw k_x0))
    intro x110 ex
    replace h := h x110 ex
    intro x111 ex
    replace h := h x111 ex
    intro x112 ex
    replace h := h x112 ex
    exact hQ _ _ _ hC hP h
  · replace h := h.2 c
    exact hQ _ _ _ hC hP h
def v_X0_ripeYield (E : eT) (w : Nat) (x0 : Nat) (Z : zT) (Q : Int32 → zT → Prop) : Prop :=
  v_X0_ripeYield_b0 E w x0 Z Q
set_option maxHeartbeats 1000000 in
theorem u_X0_ripeYield {Q : Int32 → sT → Prop} {Q' : Int32 → zT → Prop} {x0 : Nat} {S : sT} {Z : zT} (hSt : cSt P) (hQ : ∀ x S Z, CC H E S Z → P S → Q' x Z → Q x S)  (hw : w < 2) (k_x0 : x0 < E.2.1) (hC : CC H E S Z) (hP : P S) (h : v_X0_ripeYield E w x0 Z Q') : w_X0_ripeYield (H w 7 x0) S Q := by
  unfold v_X0_ripeYield at h
  unfold w_X0_ripeYield
  exact u_X0_ripeYield_b0 (x0 := x0) hSt hQ hw k_x0 hC hP h
def v_X0_learn_b0 (E : eT) (w : Nat) (x0 : Nat) (x1 : Int32) (Z : zT) (Q : zT → Prop) : Prop :=
  ∀ x101 : Int32, x101 = (100 : Int32) * x1 →
  ∀ x102 : Int32, x102 = x101 + (109 : Int32) →
  ∀ x103 : Int32, x103 = x102 / (110 : Int32) →
  ∀ x104 : Int32, x104 = x1 + (1 : Int32) →
  ∀ x105 : Int32, x105 = (100 : Int32) * x104 →
  ∀ x106 : Int32, x106 = x105 - (1 : Int32) →
  ∀ x107 : Int32, x107 = x106 / (90 : Int32) →
  ∀ x108 : Int32, x108 = Z w 20 x0 →
  ∀ x109 : Int32, x109 = s_max x108 x103 →
  ∀ Z110 : zT, Z110 = u3 Z w 20 x0 x109 →
  ∀ x111 : Int32, x111 = Z110 w 21 x0 →
  ∀ x112 : Int32, x112 = s_min x111 x107 →
  ∀ Z113 : zT, Z113 = u3 Z110 w 21 x0 x112 →
  Q Z113
set_option maxHeartbeats 1000000 in
theorem u_X0_learn_b0 {Q : sT → Prop} {Q' : zT → Prop} {x0 : Nat} {x1 : Int32} {S : sT} {Z : zT} (hSt : cSt P) (hQ : ∀ S Z, CC H E S Z → P S → Q' Z → Q S)  (hw : w < 2) (k_x0 : x0 < E.2.1) (hC : CC H E S Z) (hP : P S) (h : v_X0_learn_b0 E w x0 x1 Z Q') : w_X0_learn_b0 (H w 7 x0) x1 S Q := by
  unfold v_X0_learn_b0 at h
  unfold w_X0_learn_b0
  intro x101 ex
  replace h := h x101 ex
  intro x102 ex
  replace h := h x102 ex
  intro x103 ex
  replace h := h x103 ex
  intro x104 ex
  replace h := h x104 ex
  intro x105 ex
  replace h := h x105 ex
  intro x106 ex
  replace h := h x106 ex
  intro x107 ex
  replace h := h x107 ex
  refine ⟨rK_Crp hC hw k_x0, ?_⟩
  intro x108 ex
  replace h := h x108 (ex.trans (rI_20 hC hw k_x0))
  intro x109 ex
  replace h := h x109 ex
  intro S110 eS
  obtain ⟨Z110, eZ, h⟩ := vEx h
  replace hC := wI_20 hC hw k_x0 eS eZ
  replace hP := eS ▸ hSt _ 38 _ _ (by decide) hP
  clear eS eZ
  intro x111 ex
  replace h := h x111 (ex.trans (rI_21 hC hw k_x0))
  intro x112 ex
  replace h := h x112 ex
  intro S113 eS
  obtain ⟨Z113, eZ, h⟩ := vEx h
  replace hC := wI_21 hC hw k_x0 eS eZ
  replace hP := eS ▸ hSt _ 39 _ _ (by decide) hP
  clear eS eZ
  exact hQ _ _ hC hP h
def v_X0_learn (E : eT) (w : Nat) (x0 : Nat) (x1 : Int32) (Z : zT) (Q : zT → Prop) : Prop :=
  v_X0_learn_b0 E w x0 x1 Z Q
set_option maxHeartbeats 1000000 in
theorem u_X0_learn {Q : sT → Prop} {Q' : zT → Prop} {x0 : Nat} {x1 : Int32} {S : sT} {Z : zT} (hSt : cSt P) (hQ : ∀ S Z, CC H E S Z → P S → Q' Z → Q S)  (hw : w < 2) (k_x0 : x0 < E.2.1) (hC : CC H E S Z) (hP : P S) (h : v_X0_learn E w x0 x1 Z Q') : w_X0_learn (H w 7 x0) x1 S Q := by
  unfold v_X0_learn at h
  unfold w_X0_learn
  exact u_X0_learn_b0 (x0 := x0) hSt hQ hw k_x0 hC hP h
def v_X0_copyFrom_b0 (E : eT) (x0 : Nat) (x1 : Nat) (Z : zT) (Q : zT → Prop) : Prop :=
  ∀ x101 : Int32, x101 = Z 0 4 x1 →
  ∀ Z102 : zT, Z102 = u3 Z 1 4 x0 x101 →
  ∀ x103 : Int32, x103 = Z102 0 5 x1 →
  ∀ Z104 : zT, Z104 = u3 Z102 1 5 x0 x103 →
  ∀ x105 : Int32, x105 = Z104 0 6 x1 →
  ∀ Z106 : zT, Z106 = u3 Z104 1 6 x0 x105 →
  ∀ x107 : Int32, x107 = Z106 0 7 x1 →
  ∀ Z108 : zT, Z108 = u3 Z106 1 7 x0 x107 →
  ∀ x109 : Int32, x109 = Z108 0 9 x1 →
  ∀ Z110 : zT, Z110 = u3 Z108 1 9 x0 x109 →
  Q Z110
set_option maxHeartbeats 1000000 in
theorem u_X0_copyFrom_b0 {Q : sT → Prop} {Q' : zT → Prop} {x0 : Nat} {x1 : Nat} {S : sT} {Z : zT} (hSt : cSt P) (hQ : ∀ S Z, CC H E S Z → P S → Q' Z → Q S)  (k_x0 : x0 < E.2.1) (k_x1 : x1 < E.2.1) (hC : CC H E S Z) (hP : P S) (h : v_X0_copyFrom_b0 E x0 x1 Z Q') : w_X0_copyFrom_b0 (H 1 7 x0) (H 0 7 x1) S Q := by
  unfold v_X0_copyFrom_b0 at h
  unfold w_X0_copyFrom_b0
  refine ⟨rK_Crp hC z02 k_x1, ?_⟩
  intro x101 ex
  replace h := h x101 (ex.trans (rI_4 hC z02 k_x1))
  refine ⟨rK_Crp hC z12 k_x0, ?_⟩
  intro S102 eS
  obtain ⟨Z102, eZ, h⟩ := vEx h
  replace hC := wI_4 hC z12 k_x0 eS eZ
  replace hP := eS ▸ hSt _ 32 _ _ (by decide) hP
  clear eS eZ
  intro x103 ex
  replace h := h x103 (ex.trans (rI_5 hC z02 k_x1))
  intro S104 eS
  obtain ⟨Z104, eZ, h⟩ := vEx h
  replace hC := wI_5 hC z12 k_x0 eS eZ
  replace hP := eS ▸ hSt _ 33 _ _ (by decide) hP
  clear eS eZ
  intro x105 ex
  replace h := h x105 (ex.trans (rI_6 hC z02 k_x1))
  intro S106 eS
  obtain ⟨Z106, eZ, h⟩ := vEx h
  replace hC := wI_6 hC z12 k_x0 eS eZ
  replace hP := eS ▸ hSt _ 34 _ _ (by decide) hP
  clear eS eZ
  intro x107 ex
  replace h := h x107 (ex.trans (rI_7 hC z02 k_x1))
  intro S108 eS
  obtain ⟨Z108, eZ, h⟩ := vEx h
  replace hC := wI_7 hC z12 k_x0 eS eZ
  replace hP := eS ▸ hSt _ 35 _ _ (by decide) hP
  clear eS eZ
  intro x109 ex
  replace h := h x109 (ex.trans (rI_9 hC z02 k_x1))
  intro S110 eS
  obtain ⟨Z110, eZ, h⟩ := vEx h
  replace hC := wI_9 hC z12 k_x0 eS eZ
  replace hP := eS ▸ hSt _ 36 _ _ (by decide) hP
  clear eS eZ
  exact hQ _ _ hC hP h
def v_X0_copyFrom (E : eT) (x0 : Nat) (x1 : Nat) (Z : zT) (Q : zT → Prop) : Prop :=
  v_X0_copyFrom_b0 E x0 x1 Z Q
set_option maxHeartbeats 1000000 in
theorem u_X0_copyFrom {Q : sT → Prop} {Q' : zT → Prop} {x0 : Nat} {x1 : Nat} {S : sT} {Z : zT} (hSt : cSt P) (hQ : ∀ S Z, CC H E S Z → P S → Q' Z → Q S)  (k_x0 : x0 < E.2.1) (k_x1 : x1 < E.2.1) (hC : CC H E S Z) (hP : P S) (h : v_X0_copyFrom E x0 x1 Z Q') : w_X0_copyFrom (H 1 7 x0) (H 0 7 x1) S Q := by
  unfold v_X0_copyFrom at h
  unfold w_X0_copyFrom
  exact u_X0_copyFrom_b0 (x0 := x0) (x1 := x1) hSt hQ k_x0 k_x1 hC hP h
def v_X1_takesWater_b22 (E : eT) (w : Nat) (y0 : Int32) (Z : zT) (Q : Int32 → zT → Prop) : Prop :=
  (y0 = 0 ∨ y0 = 1) ∧
  Q y0 Z
set_option maxHeartbeats 1000000 in
theorem u_X1_takesWater_b22 {Q : Int32 → sT → Prop} {Q' : Int32 → zT → Prop} {y0 : Int32} {S : sT} {Z : zT} (hSt : cSt P) (hQ : ∀ x S Z, CC H E S Z → P S → Q' x Z → Q x S)  (hw : w < 2)  (hC : CC H E S Z) (hP : P S) (h : v_X1_takesWater_b22 E w y0 Z Q') : w_X1_takesWater_b22 y0 S Q := by
  unfold v_X1_takesWater_b22 at h
  unfold w_X1_takesWater_b22
  obtain ⟨hn, h⟩ := h
  refine ⟨hn, ?_⟩
  exact hQ _ _ _ hC hP h
def v_X1_takesWater_b21 (E : eT) (w : Nat) (Z : zT) (Q : Int32 → zT → Prop) : Prop :=
  v_X1_takesWater_b22 E w (0 : Int32) Z Q
set_option maxHeartbeats 1000000 in
theorem u_X1_takesWater_b21 {Q : Int32 → sT → Prop} {Q' : Int32 → zT → Prop}  {S : sT} {Z : zT} (hSt : cSt P) (hQ : ∀ x S Z, CC H E S Z → P S → Q' x Z → Q x S)  (hw : w < 2)  (hC : CC H E S Z) (hP : P S) (h : v_X1_takesWater_b21 E w Z Q') : w_X1_takesWater_b21 S Q := by
  unfold v_X1_takesWater_b21 at h
  unfold w_X1_takesWater_b21
  exact u_X1_takesWater_b22 hSt hQ hw hC hP h
def v_X1_takesWater_b0 (E : eT) (w : Nat) (x0 : Nat) (Z : zT) (Q : Int32 → zT → Prop) : Prop :=
  ∀ x101 : Int32, x101 = Z w 12 x0 →
  ((x101 = 0 →
  v_X1_takesWater_b21 E w Z Q) ∧
  (¬ x101 = 0 →
  ∀ x104 : Int32, x104 = Z w 17 x0 →
  ((x104 < 0 →
  v_X1_takesWater_b21 E w Z Q) ∧
  (¬ x104 < 0 →
  v_X1_takesWater_b22 E w (1 : Int32) Z Q))))
set_option maxHeartbeats 1000000 in
theorem u_X1_takesWater_b0 {Q : Int32 → sT → Prop} {Q' : Int32 → zT → Prop} {x0 : Nat} {S : sT} {Z : zT} (hSt : cSt P) (hQ : ∀ x S Z, CC H E S Z → P S → Q' x Z → Q x S)  (hw : w < 2) (k_x0 : x0 < E.2.1) (hC : CC H E S Z) (hP : P S) (h : v_X1_takesWater_b0 E w x0 Z Q') : w_X1_takesWater_b0 (H w 5 x0) S Q := by
  unfold v_X1_takesWater_b0 at h
  unfold w_X1_takesWater_b0
  refine ⟨rK_Fld hC hw k_x0, ?_⟩
  intro x101 ex
  replace h := h x101 (ex.trans (rI_12 hC hw k_x0))
  refine ⟨fun c => ?_, fun c => ?_⟩
  · replace h := h.1 c
    exact u_X1_takesWater_b21 hSt hQ hw hC hP h
  · replace h := h.2 c
    refine ⟨_, rF_68 hC hw k_x0, ?_⟩
    refine ⟨rK_Own hC hw k_x0, ?_⟩
    intro x104 ex
    replace h := h x104 (ex.trans (rI_17 hC hw k_x0))
    refine ⟨fun c => ?_, fun c => ?_⟩
    · replace h := h.1 c
      exact u_X1_takesWater_b21 hSt hQ hw hC hP h
    · replace h := h.2 c
      exact u_X1_takesWater_b22 hSt hQ hw hC hP h
def v_X1_takesWater (E : eT) (w : Nat) (x0 : Nat) (Z : zT) (Q : Int32 → zT → Prop) : Prop :=
  v_X1_takesWater_b0 E w x0 Z Q
set_option maxHeartbeats 1000000 in
theorem u_X1_takesWater {Q : Int32 → sT → Prop} {Q' : Int32 → zT → Prop} {x0 : Nat} {S : sT} {Z : zT} (hSt : cSt P) (hQ : ∀ x S Z, CC H E S Z → P S → Q' x Z → Q x S)  (hw : w < 2) (k_x0 : x0 < E.2.1) (hC : CC H E S Z) (hP : P S) (h : v_X1_takesWater E w x0 Z Q') : w_X1_takesWater (H w 5 x0) S Q := by
  unfold v_X1_takesWater at h
  unfold w_X1_takesWater
  exact u_X1_takesWater_b0 (x0 := x0) hSt hQ hw k_x0 hC hP h
def v_X1_part_b0 (E : eT) (w : Nat) (x0 : Nat) (Z : zT) (Q : Int32 → zT → Prop) : Prop :=
  ∀ x101 : Int32, x101 = Z w 13 x0 →
  ∀ x102 : Int32, x102 = Z w 15 x0 →
  ∀ x103 : Int32, x103 = x101 + x102 →
  Q x103 Z
set_option maxHeartbeats 1000000 in
theorem u_X1_part_b0 {Q : Int32 → sT → Prop} {Q' : Int32 → zT → Prop} {x0 : Nat} {S : sT} {Z : zT} (hSt : cSt P) (hQ : ∀ x S Z, CC H E S Z → P S → Q' x Z → Q x S)  (hw : w < 2) (k_x0 : x0 < E.2.1) (hC : CC H E S Z) (hP : P S) (h : v_X1_part_b0 E w x0 Z Q') : w_X1_part_b0 (H w 5 x0) S Q := by
  unfold v_X1_part_b0 at h
  unfold w_X1_part_b0
  refine ⟨rK_Fld hC hw k_x0, ?_⟩
  intro x101 ex
  replace h := h x101 (ex.trans (rI_13 hC hw k_x0))
  intro x102 ex
  replace h := h x102 (ex.trans (rI_15 hC hw k_x0))
  intro x103 ex
  replace h := h x103 ex
  exact hQ _ _ _ hC hP h
def v_X1_part (E : eT) (w : Nat) (x0 : Nat) (Z : zT) (Q : Int32 → zT → Prop) : Prop :=
  v_X1_part_b0 E w x0 Z Q
set_option maxHeartbeats 1000000 in
theorem u_X1_part {Q : Int32 → sT → Prop} {Q' : Int32 → zT → Prop} {x0 : Nat} {S : sT} {Z : zT} (hSt : cSt P) (hQ : ∀ x S Z, CC H E S Z → P S → Q' x Z → Q x S)  (hw : w < 2) (k_x0 : x0 < E.2.1) (hC : CC H E S Z) (hP : P S) (h : v_X1_part E w x0 Z Q') : w_X1_part (H w 5 x0) S Q := by
  unfold v_X1_part at h
  unfold w_X1_part
  exact u_X1_part_b0 (x0 := x0) hSt hQ hw k_x0 hC hP h
def v_X1_clear_b46 (E : eT) (w : Nat) (Z : zT) (Q : zT → Prop) : Prop :=
  Q Z
set_option maxHeartbeats 1000000 in
theorem u_X1_clear_b46 {Q : sT → Prop} {Q' : zT → Prop}  {S : sT} {Z : zT} (hSt : cSt P) (hQ : ∀ S Z, CC H E S Z → P S → Q' Z → Q S)  (hw : w < 2)  (hC : CC H E S Z) (hP : P S) (h : v_X1_clear_b46 E w Z Q') : w_X1_clear_b46 S Q := by
  unfold v_X1_clear_b46 at h
  unfold w_X1_clear_b46
  exact hQ _ _ hC hP h
def v_X1_clear_b0 (E : eT) (w : Nat) (x0 : Nat) (x1 : Int32) (Z : zT) (Q : zT → Prop) : Prop :=
  v_X0_end E w x0 Z (fun Z102 =>
  ((x1 = 0 →
  ∀ x106 : Int32, x106 = Z102 w 9 x0 →
  ∀ x107 : Int32, x107 = x106 + (10 : Int32) →
  ∀ x108 : Int32, x108 = s_min (50 : Int32) x107 →
  ∀ Z109 : zT, Z109 = u3 Z102 w 9 x0 x108 →
  v_X1_clear_b46 E w Z109 Q) ∧
  (¬ x1 = 0 →
  ∀ x110 : Int32, x110 = Z102 w 8 x0 →
  ∀ x111 : Int32, x111 = x110 / (2 : Int32) →
  ∀ Z112 : zT, Z112 = u3 Z102 w 8 x0 x111 →
  v_X1_clear_b46 E w Z112 Q)))
set_option maxHeartbeats 1000000 in
theorem u_X1_clear_b0 {Q : sT → Prop} {Q' : zT → Prop} {x0 : Nat} {x1 : Int32} {S : sT} {Z : zT} (hSt : cSt P) (hQ : ∀ S Z, CC H E S Z → P S → Q' Z → Q S)  (hw : w < 2) (k_x0 : x0 < E.2.1) (hC : CC H E S Z) (hP : P S) (h : v_X1_clear_b0 E w x0 x1 Z Q') : w_X1_clear_b0 (H w 5 x0) x1 S Q := by
  unfold v_X1_clear_b0 at h
  unfold w_X1_clear_b0
  refine ⟨rK_Fld hC hw k_x0, ?_⟩
  refine ⟨_, rF_69 hC hw k_x0, ?_⟩
  refine ⟨rK_Crp hC hw k_x0, ?_⟩
  refine u_X0_end (x0 := x0) hSt (fun S102 Z102 hC hP h => ?_) hw k_x0 hC hP h
  refine ⟨fun c => ?_, fun c => ?_⟩
  · replace h := h.1 c
    refine ⟨rK_Fld hC hw k_x0, ?_⟩
    refine ⟨_, rF_69 hC hw k_x0, ?_⟩
    refine ⟨_, rF_69 hC hw k_x0, ?_⟩
    refine ⟨rK_Crp hC hw k_x0, ?_⟩
    intro x106 ex
    replace h := h x106 (ex.trans (rI_9 hC hw k_x0))
    intro x107 ex
    replace h := h x107 ex
    intro x108 ex
    replace h := h x108 ex
    refine ⟨rK_Crp hC hw k_x0, ?_⟩
    intro S109 eS
    obtain ⟨Z109, eZ, h⟩ := vEx h
    replace hC := wI_9 hC hw k_x0 eS eZ
    replace hP := eS ▸ hSt _ 36 _ _ (by decide) hP
    clear eS eZ
    exact u_X1_clear_b46 hSt hQ hw hC hP h
  · replace h := h.2 c
    refine ⟨rK_Fld hC hw k_x0, ?_⟩
    intro x110 ex
    replace h := h x110 (ex.trans (rI_8 hC hw k_x0))
    intro x111 ex
    replace h := h x111 ex
    intro S112 eS
    obtain ⟨Z112, eZ, h⟩ := vEx h
    replace hC := wI_8 hC hw k_x0 eS eZ
    replace hP := eS ▸ hSt _ 76 _ _ (by decide) hP
    clear eS eZ
    exact u_X1_clear_b46 hSt hQ hw hC hP h
def v_X1_clear (E : eT) (w : Nat) (x0 : Nat) (x1 : Int32) (Z : zT) (Q : zT → Prop) : Prop :=
  v_X1_clear_b0 E w x0 x1 Z Q
set_option maxHeartbeats 1000000 in
theorem u_X1_clear {Q : sT → Prop} {Q' : zT → Prop} {x0 : Nat} {x1 : Int32} {S : sT} {Z : zT} (hSt : cSt P) (hQ : ∀ S Z, CC H E S Z → P S → Q' Z → Q S)  (hw : w < 2) (k_x0 : x0 < E.2.1) (hC : CC H E S Z) (hP : P S) (h : v_X1_clear E w x0 x1 Z Q') : w_X1_clear (H w 5 x0) x1 S Q := by
  unfold v_X1_clear at h
  unfold w_X1_clear
  exact u_X1_clear_b0 (x0 := x0) hSt hQ hw k_x0 hC hP h
def v_X1_sendBelow_b33 (E : eT) (w : Nat) (Z : zT) (Q : zT → Prop) : Prop :=
  Q Z
set_option maxHeartbeats 1000000 in
theorem u_X1_sendBelow_b33 {Q : sT → Prop} {Q' : zT → Prop}  {S : sT} {Z : zT} (hSt : cSt P) (hQ : ∀ S Z, CC H E S Z → P S → Q' Z → Q S)  (hw : w < 2)  (hC : CC H E S Z) (hP : P S) (h : v_X1_sendBelow_b33 E w Z Q') : w_X1_sendBelow_b33 S Q := by
  unfold v_X1_sendBelow_b33 at h
  unfold w_X1_sendBelow_b33
  exact hQ _ _ hC hP h
def v_X1_sendBelow_b0 (E : eT) (w : Nat) (x0 : Nat) (x1 : Int32) (Z : zT) (Q : zT → Prop) : Prop :=
  ∀ r101 : Option Nat, r101 = ce_nxt E x0 →
  ((r101 = none →
  ∀ x104 : Int32, x104 = Z w 72 0 →
  ∀ x105 : Int32, x105 = x104 + x1 →
  ∀ Z106 : zT, Z106 = u3 Z w 72 0 x105 →
  v_X1_sendBelow_b33 E w Z106 Q) ∧
  (∀ a102 : Nat, r101 = some a102 →
  ∀ r107 : Option Nat, r107 = ce_nxt E x0 →
  ∃ a108 : Nat, r107 = some a108 ∧
  ∀ x109 : Int32, x109 = Z w 22 a108 →
  ∀ x110 : Int32, x110 = x109 + x1 →
  ∀ Z111 : zT, Z111 = u3 Z w 22 a108 x110 →
  v_X1_sendBelow_b33 E w Z111 Q))
set_option maxHeartbeats 1000000 in
theorem u_X1_sendBelow_b0 {Q : sT → Prop} {Q' : zT → Prop} {x0 : Nat} {x1 : Int32} {S : sT} {Z : zT} (hSt : cSt P) (hQ : ∀ S Z, CC H E S Z → P S → Q' Z → Q S)  (hw : w < 2) (k_x0 : x0 < E.2.1) (hC : CC H E S Z) (hP : P S) (h : v_X1_sendBelow_b0 E w x0 x1 Z Q') : w_X1_sendBelow_b0 (H w 5 x0) x1 (H w 3 0) S Q := by
  unfold v_X1_sendBelow_b0 at h
  unfold w_X1_sendBelow_b0
  refine ⟨rK_Fld hC hw k_x0, ?_⟩
  intro or101 er101
  obtain ⟨r101, eor101, h⟩ := vEx h
  have k_r101 := nxt_lt eor101
  replace er101 := er101.trans ((rF_70 hC hw k_x0).trans (congrArg _ eor101.symm))
  subst er101
  refine ⟨fun c => ?_, fun a c => ?_⟩
  · replace h := h.1 (optN c)
    refine ⟨rK_Led hC hw, ?_⟩
    intro x104 ex
    replace h := h x104 (ex.trans (rI_72 hC hw z01))
    intro x105 ex
    replace h := h x105 ex
    intro S106 eS
    obtain ⟨Z106, eZ, h⟩ := vEx h
    replace hC := wI_72 hC hw z01 eS eZ
    replace hP := eS ▸ hSt _ 131 _ _ (by decide) hP
    clear eS eZ
    exact u_X1_sendBelow_b33 hSt hQ hw hC hP h
  · obtain ⟨a102, cz, ea⟩ := optS c
    clear c
    subst ea
    replace h := h.2 a102 cz
    have k_a102 := k_r101 _ cz
    intro or107 er107
    obtain ⟨r107, eor107, h⟩ := vEx h
    have k_r107 := nxt_lt eor107
    replace er107 := er107.trans ((rF_70 hC hw k_x0).trans (congrArg _ eor107.symm))
    subst er107
    obtain ⟨a108, ea108, h⟩ := h
    have k_a108 := k_r107 _ ea108
    refine ⟨_, optM ea108, ?_⟩
    refine ⟨rK_Fld hC hw k_a108, ?_⟩
    intro x109 ex
    replace h := h x109 (ex.trans (rI_22 hC hw k_a108))
    intro x110 ex
    replace h := h x110 ex
    intro S111 eS
    obtain ⟨Z111, eZ, h⟩ := vEx h
    replace hC := wI_22 hC hw k_a108 eS eZ
    replace hP := eS ▸ hSt _ 79 _ _ (by decide) hP
    clear eS eZ
    exact u_X1_sendBelow_b33 hSt hQ hw hC hP h
def v_X1_sendBelow (E : eT) (w : Nat) (x0 : Nat) (x1 : Int32) (Z : zT) (Q : zT → Prop) : Prop :=
  v_X1_sendBelow_b0 E w x0 x1 Z Q
set_option maxHeartbeats 1000000 in
theorem u_X1_sendBelow {Q : sT → Prop} {Q' : zT → Prop} {x0 : Nat} {x1 : Int32} {S : sT} {Z : zT} (hSt : cSt P) (hQ : ∀ S Z, CC H E S Z → P S → Q' Z → Q S)  (hw : w < 2) (k_x0 : x0 < E.2.1) (hC : CC H E S Z) (hP : P S) (h : v_X1_sendBelow E w x0 x1 Z Q') : w_X1_sendBelow (H w 5 x0) x1 (H w 3 0) S Q := by
  unfold v_X1_sendBelow at h
  unfold w_X1_sendBelow
  exact u_X1_sendBelow_b0 (x0 := x0) hSt hQ hw k_x0 hC hP h
def v_X1_passWater_b0 (E : eT) (w : Nat) (x0 : Nat) (x1 : Int32) (Z : zT) (Q : zT → Prop) : Prop :=
  ∀ x101 : Int32, x101 = Z w 1 x0 →
  ∀ x102 : Int32, x102 = Z w 11 x0 →
  ∀ x103 : Int32, x103 = x102 + x1 →
  ∀ x104 : Int32, x104 = Z w 22 x0 →
  ∀ x105 : Int32, x105 = x103 + x104 →
  ∀ x106 : Int32, x106 = x101 + x105 →
  ∀ Z107 : zT, Z107 = u3 Z w 1 x0 x106 →
  ∀ Z108 : zT, Z108 = u3 Z107 w 22 x0 (0 : Int32) →
  ∀ x109 : Int32, x109 = Z108 w 1 x0 →
  ∀ x110 : Int32, x110 = Z108 w 14 x0 →
  ∀ x111 : Int32, x111 = x109 - x110 →
  ∀ x112 : Int32, x112 = s_max (0 : Int32) x111 →
  ∀ x113 : Int32, x113 = Z108 w 1 x0 →
  ∀ x114 : Int32, x114 = x113 - x112 →
  ∀ Z115 : zT, Z115 = u3 Z108 w 1 x0 x114 →
  ∀ x116 : Int32, x116 = Z115 w 2 x0 →
  ∀ x117 : Int32, x117 = (1 : Int32) + x116 →
  ∀ x118 : Int32, x118 = Z115 w 1 x0 →
  ∀ x119 : Int32, x119 = s_min x117 x118 →
  ∀ x120 : Int32, x120 = Z115 w 1 x0 →
  ∀ x121 : Int32, x121 = x120 - x119 →
  ∀ Z122 : zT, Z122 = u3 Z115 w 1 x0 x121 →
  ∀ x123 : Int32, x123 = x119 / (2 : Int32) →
  ∀ x124 : Int32, x124 = Z122 w 70 0 →
  ∀ x125 : Int32, x125 = x119 - x123 →
  ∀ x126 : Int32, x126 = x124 + x125 →
  ∀ Z127 : zT, Z127 = u3 Z122 w 70 0 x126 →
  ∀ x128 : Int32, x128 = x112 + x123 →
  v_X1_sendBelow E w x0 x128 Z127 (fun Z129 =>
  v_X0_thirst E w x0 Z129 (fun x132 Z131 =>
  ∀ x133 : Int32, x133 = Z131 w 1 x0 →
  ∀ x134 : Int32, x134 = s_min x132 x133 →
  ∀ x135 : Int32, x135 = Z131 w 1 x0 →
  ∀ x136 : Int32, x136 = x135 - x134 →
  ∀ Z137 : zT, Z137 = u3 Z131 w 1 x0 x136 →
  ∀ x138 : Int32, x138 = Z137 w 71 0 →
  ∀ x139 : Int32, x139 = x138 + x134 →
  ∀ Z140 : zT, Z140 = u3 Z137 w 71 0 x139 →
  Q Z140))
set_option maxHeartbeats 1000000 in
theorem u_X1_passWater_b0 {Q : sT → Prop} {Q' : zT → Prop} {x0 : Nat} {x1 : Int32} {S : sT} {Z : zT} (hSt : cSt P) (hQ : ∀ S Z, CC H E S Z → P S → Q' Z → Q S)  (hw : w < 2) (k_x0 : x0 < E.2.1) (hC : CC H E S Z) (hP : P S) (h : v_X1_passWater_b0 E w x0 x1 Z Q') : w_X1_passWater_b0 (H w 5 x0) x1 (H w 3 0) S Q := by
  unfold v_X1_passWater_b0 at h
  unfold w_X1_passWater_b0
  refine ⟨rK_Fld hC hw k_x0, ?_⟩
  intro x101 ex
  replace h := h x101 (ex.trans (rI_1 hC hw k_x0))
  intro x102 ex
  replace h := h x102 (ex.trans (rI_11 hC hw k_x0))
  intro x103 ex
  replace h := h x103 ex
  intro x104 ex
  replace h := h x104 (ex.trans (rI_22 hC hw k_x0))
  intro x105 ex
  replace h := h x105 ex
  intro x106 ex
  replace h := h x106 ex
  intro S107 eS
  obtain ⟨Z107, eZ, h⟩ := vEx h
  replace hC := wI_1 hC hw k_x0 eS eZ
  replace hP := eS ▸ hSt _ 73 _ _ (by decide) hP
  clear eS eZ
  intro S108 eS
  obtain ⟨Z108, eZ, h⟩ := vEx h
  replace hC := wI_22 hC hw k_x0 eS eZ
  replace hP := eS ▸ hSt _ 79 _ _ (by decide) hP
  clear eS eZ
  intro x109 ex
  replace h := h x109 (ex.trans (rI_1 hC hw k_x0))
  intro x110 ex
  replace h := h x110 (ex.trans (rI_14 hC hw k_x0))
  intro x111 ex
  replace h := h x111 ex
  intro x112 ex
  replace h := h x112 ex
  intro x113 ex
  replace h := h x113 (ex.trans (rI_1 hC hw k_x0))
  intro x114 ex
  replace h := h x114 ex
  intro S115 eS
  obtain ⟨Z115, eZ, h⟩ := vEx h
  replace hC := wI_1 hC hw k_x0 eS eZ
  replace hP := eS ▸ hSt _ 73 _ _ (by decide) hP
  clear eS eZ
  intro x116 ex
  replace h := h x116 (ex.trans (rI_2 hC hw k_x0))
  intro x117 ex
  replace h := h x117 ex
  intro x118 ex
  replace h := h x118 (ex.trans (rI_1 hC hw k_x0))
  intro x119 ex
  replace h := h x119 ex
  intro x120 ex
  replace h := h x120 (ex.trans (rI_1 hC hw k_x0))
  intro x121 ex
  replace h := h x121 ex
  intro S122 eS
  obtain ⟨Z122, eZ, h⟩ := vEx h
  replace hC := wI_1 hC hw k_x0 eS eZ
  replace hP := eS ▸ hSt _ 73 _ _ (by decide) hP
  clear eS eZ
  intro x123 ex
  replace h := h x123 ex
  refine ⟨rK_Led hC hw, ?_⟩
  intro x124 ex
  replace h := h x124 (ex.trans (rI_70 hC hw z01))
  intro x125 ex
  replace h := h x125 ex
  intro x126 ex
  replace h := h x126 ex
  intro S127 eS
  obtain ⟨Z127, eZ, h⟩ := vEx h
  replace hC := wI_70 hC hw z01 eS eZ
  replace hP := eS ▸ hSt _ 129 _ _ (by decide) hP
  clear eS eZ
  intro x128 ex
  replace h := h x128 ex
  refine u_X1_sendBelow (x0 := x0) hSt (fun S129 Z129 hC hP h => ?_) hw k_x0 hC hP h
  refine ⟨rK_Fld hC hw k_x0, ?_⟩
  refine ⟨_, rF_69 hC hw k_x0, ?_⟩
  refine ⟨rK_Crp hC hw k_x0, ?_⟩
  refine u_X0_thirst (x0 := x0) hSt (fun x132 S131 Z131 hC hP h => ?_) hw k_x0 hC hP h
  refine ⟨rK_Fld hC hw k_x0, ?_⟩
  intro x133 ex
  replace h := h x133 (ex.trans (rI_1 hC hw k_x0))
  intro x134 ex
  replace h := h x134 ex
  intro x135 ex
  replace h := h x135 (ex.trans (rI_1 hC hw k_x0))
  intro x136 ex
  replace h := h x136 ex
  intro S137 eS
  obtain ⟨Z137, eZ, h⟩ := vEx h
  replace hC := wI_1 hC hw k_x0 eS eZ
  replace hP := eS ▸ hSt _ 73 _ _ (by decide) hP
  clear eS eZ
  refine ⟨rK_Led hC hw, ?_⟩
  intro x138 ex
  replace h := h x138 (ex.trans (rI_71 hC hw z01))
  intro x139 ex
  replace h := h x139 ex
  intro S140 eS
  obtain ⟨Z140, eZ, h⟩ := vEx h
  replace hC := wI_71 hC hw z01 eS eZ
  replace hP := eS ▸ hSt _ 130 _ _ (by decide) hP
  clear eS eZ
  exact hQ _ _ hC hP h
def v_X1_passWater (E : eT) (w : Nat) (x0 : Nat) (x1 : Int32) (Z : zT) (Q : zT → Prop) : Prop :=
  v_X1_passWater_b0 E w x0 x1 Z Q
set_option maxHeartbeats 1000000 in
theorem u_X1_passWater {Q : sT → Prop} {Q' : zT → Prop} {x0 : Nat} {x1 : Int32} {S : sT} {Z : zT} (hSt : cSt P) (hQ : ∀ S Z, CC H E S Z → P S → Q' Z → Q S)  (hw : w < 2) (k_x0 : x0 < E.2.1) (hC : CC H E S Z) (hP : P S) (h : v_X1_passWater E w x0 x1 Z Q') : w_X1_passWater (H w 5 x0) x1 (H w 3 0) S Q := by
  unfold v_X1_passWater at h
  unfold w_X1_passWater
  exact u_X1_passWater_b0 (x0 := x0) hSt hQ hw k_x0 hC hP h
def v_X1_dryOut_b46 (E : eT) (w : Nat) (Z : zT) (Q : zT → Prop) : Prop :=
  Q Z
set_option maxHeartbeats 1000000 in
theorem u_X1_dryOut_b46 {Q : sT → Prop} {Q' : zT → Prop}  {S : sT} {Z : zT} (hSt : cSt P) (hQ : ∀ S Z, CC H E S Z → P S → Q' Z → Q S)  (hw : w < 2)  (hC : CC H E S Z) (hP : P S) (h : v_X1_dryOut_b46 E w Z Q') : w_X1_dryOut_b46 S Q := by
  unfold v_X1_dryOut_b46 at h
  unfold w_X1_dryOut_b46
  exact hQ _ _ hC hP h
def v_X1_dryOut_b0 (E : eT) (w : Nat) (x0 : Nat) (Z : zT) (Q : zT → Prop) : Prop :=
  ∀ x101 : Int32, x101 = Z w 1 x0 →
  ((x101 ≤ 0 →
  ∀ x103 : Int32, x103 = Z w 3 x0 →
  ∀ x104 : Int32, x104 = x103 + (1 : Int32) →
  ∀ Z105 : zT, Z105 = u3 Z w 3 x0 x104 →
  ∀ x106 : Int32, x106 = Z105 w 3 x0 →
  ∀ x107 : Int32, x107 = x106 - x106 / (3 : Int32) * (3 : Int32) →
  ((¬ x107 = 0 →
  v_X1_dryOut_b46 E w Z105 Q) ∧
  (x107 = 0 →
  ∀ x109 : Int32, x109 = Z105 w 2 x0 →
  ∀ x110 : Int32, x110 = x109 + (1 : Int32) →
  ∀ x111 : Int32, x111 = s_min (3 : Int32) x110 →
  ∀ Z112 : zT, Z112 = u3 Z105 w 2 x0 x111 →
  v_X1_dryOut_b46 E w Z112 Q))) ∧
  (¬ x101 ≤ 0 →
  ∀ Z113 : zT, Z113 = u3 Z w 3 x0 (0 : Int32) →
  Q Z113))
set_option maxHeartbeats 1000000 in
theorem u_X1_dryOut_b0 {Q : sT → Prop} {Q' : zT → Prop} {x0 : Nat} {S : sT} {Z : zT} (hSt : cSt P) (hQ : ∀ S Z, CC H E S Z → P S → Q' Z → Q S)  (hw : w < 2) (k_x0 : x0 < E.2.1) (hC : CC H E S Z) (hP : P S) (h : v_X1_dryOut_b0 E w x0 Z Q') : w_X1_dryOut_b0 (H w 5 x0) S Q := by
  unfold v_X1_dryOut_b0 at h
  unfold w_X1_dryOut_b0
  refine ⟨rK_Fld hC hw k_x0, ?_⟩
  intro x101 ex
  replace h := h x101 (ex.trans (rI_1 hC hw k_x0))
  refine ⟨fun c => ?_, fun c => ?_⟩
  · replace h := h.1 c
    intro x103 ex
    replace h := h x103 (ex.trans (rI_3 hC hw k_x0))
    intro x104 ex
    replace h := h x104 ex
    intro S105 eS
    obtain ⟨Z105, eZ, h⟩ := vEx h
    replace hC := wI_3 hC hw k_x0 eS eZ
    replace hP := eS ▸ hSt _ 75 _ _ (by decide) hP
    clear eS eZ
    intro x106 ex
    replace h := h x106 (ex.trans (rI_3 hC hw k_x0))
    intro x107 ex
    replace h := h x107 ex
    refine ⟨fun c => ?_, fun c => ?_⟩
    · replace h := h.1 c
      exact u_X1_dryOut_b46 hSt hQ hw hC hP h
    · replace h := h.2 c
      intro x109 ex
      replace h := h x109 (ex.trans (rI_2 hC hw k_x0))
      intro x110 ex
      replace h := h x110 ex
      intro x111 ex
      replace h := h x111 ex
      intro S112 eS
      obtain ⟨Z112, eZ, h⟩ := vEx h
      replace hC := wI_2 hC hw k_x0 eS eZ
      replace hP := eS ▸ hSt _ 74 _ _ (by decide) hP
      clear eS eZ
      exact u_X1_dryOut_b46 hSt hQ hw hC hP h
  · replace h := h.2 c
    intro S113 eS
    obtain ⟨Z113, eZ, h⟩ := vEx h
    replace hC := wI_3 hC hw k_x0 eS eZ
    replace hP := eS ▸ hSt _ 75 _ _ (by decide) hP
    clear eS eZ
    exact hQ _ _ hC hP h
def v_X1_dryOut (E : eT) (w : Nat) (x0 : Nat) (Z : zT) (Q : zT → Prop) : Prop :=
  v_X1_dryOut_b0 E w x0 Z Q
set_option maxHeartbeats 1000000 in
theorem u_X1_dryOut {Q : sT → Prop} {Q' : zT → Prop} {x0 : Nat} {S : sT} {Z : zT} (hSt : cSt P) (hQ : ∀ S Z, CC H E S Z → P S → Q' Z → Q S)  (hw : w < 2) (k_x0 : x0 < E.2.1) (hC : CC H E S Z) (hP : P S) (h : v_X1_dryOut E w x0 Z Q') : w_X1_dryOut (H w 5 x0) S Q := by
  unfold v_X1_dryOut at h
  unfold w_X1_dryOut
  exact u_X1_dryOut_b0 (x0 := x0) hSt hQ hw k_x0 hC hP h
def v_X1_breedPests_b71 (E : eT) (w : Nat) (x0 : Nat) (Z : zT) (Q : zT → Prop) : Prop :=
  ∀ x101 : Int32, x101 = Z w 8 x0 →
  ∀ x102 : Int32, x102 = s_min (99 : Int32) x101 →
  ∀ x103 : Int32, x103 = s_max (0 : Int32) x102 →
  ∀ Z104 : zT, Z104 = u3 Z w 8 x0 x103 →
  Q Z104
set_option maxHeartbeats 1000000 in
theorem u_X1_breedPests_b71 {Q : sT → Prop} {Q' : zT → Prop} {x0 : Nat} {S : sT} {Z : zT} (hSt : cSt P) (hQ : ∀ S Z, CC H E S Z → P S → Q' Z → Q S)  (hw : w < 2) (k_x0 : x0 < E.2.1) (hC : CC H E S Z) (hP : P S) (h : v_X1_breedPests_b71 E w x0 Z Q') : w_X1_breedPests_b71 (H w 5 x0) S Q := by
  unfold v_X1_breedPests_b71 at h
  unfold w_X1_breedPests_b71
  refine ⟨rK_Fld hC hw k_x0, ?_⟩
  intro x101 ex
  replace h := h x101 (ex.trans (rI_8 hC hw k_x0))
  intro x102 ex
  replace h := h x102 ex
  intro x103 ex
  replace h := h x103 ex
  intro S104 eS
  obtain ⟨Z104, eZ, h⟩ := vEx h
  replace hC := wI_8 hC hw k_x0 eS eZ
  replace hP := eS ▸ hSt _ 76 _ _ (by decide) hP
  clear eS eZ
  exact hQ _ _ hC hP h
def v_X1_breedPests_b54 (E : eT) (w : Nat) (x0 : Nat) (Z : zT) (Q : zT → Prop) : Prop :=
  ∀ x101 : Int32, x101 = Z w 16 x0 →
  ((x101 = 0 →
  v_X1_breedPests_b71 E w x0 Z Q) ∧
  (¬ x101 = 0 →
  ∀ x103 : Int32, x103 = Z w 8 x0 →
  ∀ x104 : Int32, x104 = x103 - (4 : Int32) →
  ∀ Z105 : zT, Z105 = u3 Z w 8 x0 x104 →
  v_X1_breedPests_b71 E w x0 Z105 Q))
set_option maxHeartbeats 1000000 in
theorem u_X1_breedPests_b54 {Q : sT → Prop} {Q' : zT → Prop} {x0 : Nat} {S : sT} {Z : zT} (hSt : cSt P) (hQ : ∀ S Z, CC H E S Z → P S → Q' Z → Q S)  (hw : w < 2) (k_x0 : x0 < E.2.1) (hC : CC H E S Z) (hP : P S) (h : v_X1_breedPests_b54 E w x0 Z Q') : w_X1_breedPests_b54 (H w 5 x0) S Q := by
  unfold v_X1_breedPests_b54 at h
  unfold w_X1_breedPests_b54
  refine ⟨rK_Fld hC hw k_x0, ?_⟩
  intro x101 ex
  replace h := h x101 (ex.trans (rI_16 hC hw k_x0))
  refine ⟨fun c => ?_, fun c => ?_⟩
  · replace h := h.1 c
    exact u_X1_breedPests_b71 (x0 := x0) hSt hQ hw k_x0 hC hP h
  · replace h := h.2 c
    intro x103 ex
    replace h := h x103 (ex.trans (rI_8 hC hw k_x0))
    intro x104 ex
    replace h := h x104 ex
    intro S105 eS
    obtain ⟨Z105, eZ, h⟩ := vEx h
    replace hC := wI_8 hC hw k_x0 eS eZ
    replace hP := eS ▸ hSt _ 76 _ _ (by decide) hP
    clear eS eZ
    exact u_X1_breedPests_b71 (x0 := x0) hSt hQ hw k_x0 hC hP h
def v_X1_breedPests_b0 (E : eT) (w : Nat) (x0 : Nat) (Z : zT) (Q : zT → Prop) : Prop :=
  ∀ x102 : Int32, x102 = Z w 4 x0 →
  v_X6_isOnTheStalk E x102 Z (fun x104 Z103 =>
  ((x104 = 0 →
  ∀ x107 : Int32, x107 = Z103 w 4 x0 →
  ((x107 = (5 : Int32) →
  v_X1_breedPests_b54 E w x0 Z103 Q) ∧
  (¬ x107 = (5 : Int32) →
  ∀ x109 : Int32, x109 = Z103 w 8 x0 →
  ∀ x110 : Int32, x110 = x109 / (2 : Int32) →
  ∀ Z111 : zT, Z111 = u3 Z103 w 8 x0 x110 →
  v_X1_breedPests_b54 E w x0 Z111 Q))) ∧
  (¬ x104 = 0 →
  ∀ x112 : Int32, x112 = Z103 w 8 x0 →
  ∀ x113 : Int32, x113 = Z103 w 8 x0 →
  ∀ x114 : Int32, x114 = x113 / (4 : Int32) →
  ∀ x115 : Int32, x115 = (1 : Int32) + x114 →
  ∀ x116 : Int32, x116 = x112 + x115 →
  ∀ Z117 : zT, Z117 = u3 Z103 w 8 x0 x116 →
  v_X1_breedPests_b54 E w x0 Z117 Q)))
set_option maxHeartbeats 1000000 in
theorem u_X1_breedPests_b0 {Q : sT → Prop} {Q' : zT → Prop} {x0 : Nat} {S : sT} {Z : zT} (hSt : cSt P) (hQ : ∀ S Z, CC H E S Z → P S → Q' Z → Q S)  (hw : w < 2) (k_x0 : x0 < E.2.1) (hC : CC H E S Z) (hP : P S) (h : v_X1_breedPests_b0 E w x0 Z Q') : w_X1_breedPests_b0 (H w 5 x0) S Q := by
  unfold v_X1_breedPests_b0 at h
  unfold w_X1_breedPests_b0
  refine ⟨rK_Fld hC hw k_x0, ?_⟩
  refine ⟨_, rF_69 hC hw k_x0, ?_⟩
  refine ⟨rK_Crp hC hw k_x0, ?_⟩
  intro x102 ex
  replace h := h x102 (ex.trans (rI_4 hC hw k_x0))
  refine u_X6_isOnTheStalk hSt (fun x104 S103 Z103 hC hP h => ?_) hC hP h
  refine ⟨fun c => ?_, fun c => ?_⟩
  · replace h := h.1 c
    refine ⟨rK_Fld hC hw k_x0, ?_⟩
    refine ⟨_, rF_69 hC hw k_x0, ?_⟩
    refine ⟨rK_Crp hC hw k_x0, ?_⟩
    intro x107 ex
    replace h := h x107 (ex.trans (rI_4 hC hw k_x0))
    refine ⟨fun c => ?_, fun c => ?_⟩
    · replace h := h.1 c
      exact u_X1_breedPests_b54 (x0 := x0) hSt hQ hw k_x0 hC hP h
    · replace h := h.2 c
      intro x109 ex
      replace h := h x109 (ex.trans (rI_8 hC hw k_x0))
      intro x110 ex
      replace h := h x110 ex
      intro S111 eS
      obtain ⟨Z111, eZ, h⟩ := vEx h
      replace hC := wI_8 hC hw k_x0 eS eZ
      replace hP := eS ▸ hSt _ 76 _ _ (by decide) hP
      clear eS eZ
      exact u_X1_breedPests_b54 (x0 := x0) hSt hQ hw k_x0 hC hP h
  · replace h := h.2 c
    refine ⟨rK_Fld hC hw k_x0, ?_⟩
    intro x112 ex
    replace h := h x112 (ex.trans (rI_8 hC hw k_x0))
    intro x113 ex
    replace h := h x113 (ex.trans (rI_8 hC hw k_x0))
    intro x114 ex
    replace h := h x114 ex
    intro x115 ex
    replace h := h x115 ex
    intro x116 ex
    replace h := h x116 ex
    intro S117 eS
    obtain ⟨Z117, eZ, h⟩ := vEx h
    replace hC := wI_8 hC hw k_x0 eS eZ
    replace hP := eS ▸ hSt _ 76 _ _ (by decide) hP
    clear eS eZ
    exact u_X1_breedPests_b54 (x0 := x0) hSt hQ hw k_x0 hC hP h
def v_X1_breedPests (E : eT) (w : Nat) (x0 : Nat) (Z : zT) (Q : zT → Prop) : Prop :=
  v_X1_breedPests_b0 E w x0 Z Q
set_option maxHeartbeats 1000000 in
theorem u_X1_breedPests {Q : sT → Prop} {Q' : zT → Prop} {x0 : Nat} {S : sT} {Z : zT} (hSt : cSt P) (hQ : ∀ S Z, CC H E S Z → P S → Q' Z → Q S)  (hw : w < 2) (k_x0 : x0 < E.2.1) (hC : CC H E S Z) (hP : P S) (h : v_X1_breedPests E w x0 Z Q') : w_X1_breedPests (H w 5 x0) S Q := by
  unfold v_X1_breedPests at h
  unfold w_X1_breedPests
  exact u_X1_breedPests_b0 (x0 := x0) hSt hQ hw k_x0 hC hP h
def v_X1_settlePests_b0 (E : eT) (w : Nat) (x0 : Nat) (Z : zT) (Q : zT → Prop) : Prop :=
  ∀ x101 : Int32, x101 = Z w 8 x0 →
  ∀ x102 : Int32, x102 = Z w 23 x0 →
  ∀ x103 : Int32, x103 = x101 + x102 →
  ∀ x104 : Int32, x104 = s_min (99 : Int32) x103 →
  ∀ Z105 : zT, Z105 = u3 Z w 8 x0 x104 →
  ∀ Z106 : zT, Z106 = u3 Z105 w 23 x0 (0 : Int32) →
  Q Z106
set_option maxHeartbeats 1000000 in
theorem u_X1_settlePests_b0 {Q : sT → Prop} {Q' : zT → Prop} {x0 : Nat} {S : sT} {Z : zT} (hSt : cSt P) (hQ : ∀ S Z, CC H E S Z → P S → Q' Z → Q S)  (hw : w < 2) (k_x0 : x0 < E.2.1) (hC : CC H E S Z) (hP : P S) (h : v_X1_settlePests_b0 E w x0 Z Q') : w_X1_settlePests_b0 (H w 5 x0) S Q := by
  unfold v_X1_settlePests_b0 at h
  unfold w_X1_settlePests_b0
  refine ⟨rK_Fld hC hw k_x0, ?_⟩
  intro x101 ex
  replace h := h x101 (ex.trans (rI_8 hC hw k_x0))
  intro x102 ex
  replace h := h x102 (ex.trans (rI_23 hC hw k_x0))
  intro x103 ex
  replace h := h x103 ex
  intro x104 ex
  replace h := h x104 ex
  intro S105 eS
  obtain ⟨Z105, eZ, h⟩ := vEx h
  replace hC := wI_8 hC hw k_x0 eS eZ
  replace hP := eS ▸ hSt _ 76 _ _ (by decide) hP
  clear eS eZ
  intro S106 eS
  obtain ⟨Z106, eZ, h⟩ := vEx h
  replace hC := wI_23 hC hw k_x0 eS eZ
  replace hP := eS ▸ hSt _ 80 _ _ (by decide) hP
  clear eS eZ
  exact hQ _ _ hC hP h
def v_X1_settlePests (E : eT) (w : Nat) (x0 : Nat) (Z : zT) (Q : zT → Prop) : Prop :=
  v_X1_settlePests_b0 E w x0 Z Q
set_option maxHeartbeats 1000000 in
theorem u_X1_settlePests {Q : sT → Prop} {Q' : zT → Prop} {x0 : Nat} {S : sT} {Z : zT} (hSt : cSt P) (hQ : ∀ S Z, CC H E S Z → P S → Q' Z → Q S)  (hw : w < 2) (k_x0 : x0 < E.2.1) (hC : CC H E S Z) (hP : P S) (h : v_X1_settlePests E w x0 Z Q') : w_X1_settlePests (H w 5 x0) S Q := by
  unfold v_X1_settlePests at h
  unfold w_X1_settlePests
  exact u_X1_settlePests_b0 (x0 := x0) hSt hQ hw k_x0 hC hP h
def v_X1_copyFrom_b0 (E : eT) (x0 : Nat) (x1 : Nat) (Z : zT) (Q : zT → Prop) : Prop :=
  ∀ x101 : Int32, x101 = Z 0 15 x1 →
  ∀ Z102 : zT, Z102 = u3 Z 1 15 x0 x101 →
  ∀ x103 : Int32, x103 = Z102 0 12 x1 →
  (x103 = 0 ∨ x103 = 1) ∧
  ∀ Z105 : zT, Z105 = u3 Z102 1 12 x0 x103 →
  ∀ x106 : Int32, x106 = Z105 0 1 x1 →
  ∀ Z107 : zT, Z107 = u3 Z105 1 1 x0 x106 →
  ∀ x108 : Int32, x108 = Z107 0 2 x1 →
  ∀ Z109 : zT, Z109 = u3 Z107 1 2 x0 x108 →
  ∀ x110 : Int32, x110 = Z109 0 3 x1 →
  ∀ Z111 : zT, Z111 = u3 Z109 1 3 x0 x110 →
  ∀ x112 : Int32, x112 = Z111 0 8 x1 →
  ∀ Z113 : zT, Z113 = u3 Z111 1 8 x0 x112 →
  ∀ x114 : Int32, x114 = Z113 0 16 x1 →
  (x114 = 0 ∨ x114 = 1) ∧
  ∀ Z116 : zT, Z116 = u3 Z113 1 16 x0 x114 →
  ∀ x119 : Int32, x119 = Z116 0 17 x1 →
  ∀ Z120 : zT, Z120 = u3 Z116 1 17 x0 x119 →
  v_X0_copyFrom E x0 x1 Z120 (fun Z123 =>
  Q Z123)
set_option maxHeartbeats 1000000 in
theorem u_X1_copyFrom_b0 {Q : sT → Prop} {Q' : zT → Prop} {x0 : Nat} {x1 : Nat} {S : sT} {Z : zT} (hSt : cSt P) (hQ : ∀ S Z, CC H E S Z → P S → Q' Z → Q S)  (k_x0 : x0 < E.2.1) (k_x1 : x1 < E.2.1) (hC : CC H E S Z) (hP : P S) (h : v_X1_copyFrom_b0 E x0 x1 Z Q') : w_X1_copyFrom_b0 (H 1 5 x0) (H 0 5 x1) S Q := by
  unfold v_X1_copyFrom_b0 at h
  unfold w_X1_copyFrom_b0
  refine ⟨rK_Fld hC z02 k_x1, ?_⟩
  intro x101 ex
  replace h := h x101 (ex.trans (rI_15 hC z02 k_x1))
  refine ⟨rK_Fld hC z12 k_x0, ?_⟩
  intro S102 eS
  obtain ⟨Z102, eZ, h⟩ := vEx h
  replace hC := wI_15 hC z12 k_x0 eS eZ
  replace hP := eS ▸ hSt _ 71 _ _ (by decide) hP
  clear eS eZ
  intro x103 ex
  replace h := h x103 (ex.trans (rI_12 hC z02 k_x1))
  obtain ⟨hn, h⟩ := h
  refine ⟨hn, ?_⟩
  intro S105 eS
  obtain ⟨Z105, eZ, h⟩ := vEx h
  replace hC := wI_12 hC z12 k_x0 eS eZ
  replace hP := eS ▸ hSt _ 72 _ _ (by decide) hP
  clear eS eZ
  intro x106 ex
  replace h := h x106 (ex.trans (rI_1 hC z02 k_x1))
  intro S107 eS
  obtain ⟨Z107, eZ, h⟩ := vEx h
  replace hC := wI_1 hC z12 k_x0 eS eZ
  replace hP := eS ▸ hSt _ 73 _ _ (by decide) hP
  clear eS eZ
  intro x108 ex
  replace h := h x108 (ex.trans (rI_2 hC z02 k_x1))
  intro S109 eS
  obtain ⟨Z109, eZ, h⟩ := vEx h
  replace hC := wI_2 hC z12 k_x0 eS eZ
  replace hP := eS ▸ hSt _ 74 _ _ (by decide) hP
  clear eS eZ
  intro x110 ex
  replace h := h x110 (ex.trans (rI_3 hC z02 k_x1))
  intro S111 eS
  obtain ⟨Z111, eZ, h⟩ := vEx h
  replace hC := wI_3 hC z12 k_x0 eS eZ
  replace hP := eS ▸ hSt _ 75 _ _ (by decide) hP
  clear eS eZ
  intro x112 ex
  replace h := h x112 (ex.trans (rI_8 hC z02 k_x1))
  intro S113 eS
  obtain ⟨Z113, eZ, h⟩ := vEx h
  replace hC := wI_8 hC z12 k_x0 eS eZ
  replace hP := eS ▸ hSt _ 76 _ _ (by decide) hP
  clear eS eZ
  intro x114 ex
  replace h := h x114 (ex.trans (rI_16 hC z02 k_x1))
  obtain ⟨hn, h⟩ := h
  refine ⟨hn, ?_⟩
  intro S116 eS
  obtain ⟨Z116, eZ, h⟩ := vEx h
  replace hC := wI_16 hC z12 k_x0 eS eZ
  replace hP := eS ▸ hSt _ 77 _ _ (by decide) hP
  clear eS eZ
  refine ⟨_, rF_68 hC z12 k_x0, ?_⟩
  refine ⟨_, rF_68 hC z02 k_x1, ?_⟩
  refine ⟨rK_Own hC z02 k_x1, ?_⟩
  intro x119 ex
  replace h := h x119 (ex.trans (rI_17 hC z02 k_x1))
  refine ⟨rK_Own hC z12 k_x0, ?_⟩
  intro S120 eS
  obtain ⟨Z120, eZ, h⟩ := vEx h
  replace hC := wI_17 hC z12 k_x0 eS eZ
  replace hP := eS ▸ hSt _ 160 _ _ (by decide) hP
  clear eS eZ
  refine ⟨_, rF_69 hC z12 k_x0, ?_⟩
  refine ⟨_, rF_69 hC z02 k_x1, ?_⟩
  refine ⟨rK_Crp hC z12 k_x0, ?_⟩
  refine u_X0_copyFrom (x0 := x0) (x1 := x1) hSt (fun S123 Z123 hC hP h => ?_) k_x0 k_x1 hC hP h
  exact hQ _ _ hC hP h
def v_X1_copyFrom (E : eT) (x0 : Nat) (x1 : Nat) (Z : zT) (Q : zT → Prop) : Prop :=
  v_X1_copyFrom_b0 E x0 x1 Z Q
set_option maxHeartbeats 1000000 in
theorem u_X1_copyFrom {Q : sT → Prop} {Q' : zT → Prop} {x0 : Nat} {x1 : Nat} {S : sT} {Z : zT} (hSt : cSt P) (hQ : ∀ S Z, CC H E S Z → P S → Q' Z → Q S)  (k_x0 : x0 < E.2.1) (k_x1 : x1 < E.2.1) (hC : CC H E S Z) (hP : P S) (h : v_X1_copyFrom E x0 x1 Z Q') : w_X1_copyFrom (H 1 5 x0) (H 0 5 x1) S Q := by
  unfold v_X1_copyFrom at h
  unfold w_X1_copyFrom
  exact u_X1_copyFrom_b0 (x0 := x0) (x1 := x1) hSt hQ k_x0 k_x1 hC hP h
def v_J9_floorMod_7cf53_b18 (E : eT) (x2 : Int32) (Z : zT) (Q : Int32 → zT → Prop) : Prop :=
  Q x2 Z
set_option maxHeartbeats 1000000 in
theorem u_J9_floorMod_7cf53_b18 {Q : Int32 → sT → Prop} {Q' : Int32 → zT → Prop} {x2 : Int32} {S : sT} {Z : zT} (hSt : cSt P) (hQ : ∀ x S Z, CC H E S Z → P S → Q' x Z → Q x S)   (hC : CC H E S Z) (hP : P S) (h : v_J9_floorMod_7cf53_b18 E x2 Z Q') : w_J9_floorMod_7cf53_b18 x2 S Q := by
  unfold v_J9_floorMod_7cf53_b18 at h
  unfold w_J9_floorMod_7cf53_b18
  exact hQ _ _ _ hC hP h
def v_J9_floorMod_7cf53_b0 (E : eT) (x0 : Int32) (x1 : Int32) (Z : zT) (Q : Int32 → zT → Prop) : Prop :=
  ¬ x1 = 0 ∧
  ∀ x102 : Int32, x102 = x0 - x0 / x1 * x1 →
  ∀ x103 : Int32, x103 = x0 ^^^ x1 →
  ((0 ≤ x103 →
  v_J9_floorMod_7cf53_b18 E x102 Z Q) ∧
  (¬ 0 ≤ x103 →
  ((x102 = 0 →
  v_J9_floorMod_7cf53_b18 E x102 Z Q) ∧
  (¬ x102 = 0 →
  ∀ x106 : Int32, x106 = x102 + x1 →
  Q x106 Z))))
set_option maxHeartbeats 1000000 in
theorem u_J9_floorMod_7cf53_b0 {Q : Int32 → sT → Prop} {Q' : Int32 → zT → Prop} {x0 : Int32} {x1 : Int32} {S : sT} {Z : zT} (hSt : cSt P) (hQ : ∀ x S Z, CC H E S Z → P S → Q' x Z → Q x S)   (hC : CC H E S Z) (hP : P S) (h : v_J9_floorMod_7cf53_b0 E x0 x1 Z Q') : w_J9_floorMod_7cf53_b0 x0 x1 S Q := by
  unfold v_J9_floorMod_7cf53_b0 at h
  unfold w_J9_floorMod_7cf53_b0
  obtain ⟨hn, h⟩ := h
  refine ⟨hn, ?_⟩
  intro x102 ex
  replace h := h x102 ex
  intro x103 ex
  replace h := h x103 ex
  refine ⟨fun c => ?_, fun c => ?_⟩
  · replace h := h.1 c
    exact u_J9_floorMod_7cf53_b18 hSt hQ hC hP h
  · replace h := h.2 c
    refine ⟨fun c => ?_, fun c => ?_⟩
    · replace h := h.1 c
      exact u_J9_floorMod_7cf53_b18 hSt hQ hC hP h
    · replace h := h.2 c
      intro x106 ex
      replace h := h x106 ex
      exact hQ _ _ _ hC hP h
def v_J9_floorMod_7cf53 (E : eT) (x0 : Int32) (x1 : Int32) (Z : zT) (Q : Int32 → zT → Prop) : Prop :=
  v_J9_floorMod_7cf53_b0 E x0 x1 Z Q
set_option maxHeartbeats 1000000 in
theorem u_J9_floorMod_7cf53 {Q : Int32 → sT → Prop} {Q' : Int32 → zT → Prop} {x0 : Int32} {x1 : Int32} {S : sT} {Z : zT} (hSt : cSt P) (hQ : ∀ x S Z, CC H E S Z → P S → Q' x Z → Q x S)   (hC : CC H E S Z) (hP : P S) (h : v_J9_floorMod_7cf53 E x0 x1 Z Q') : w_J9_floorMod_7cf53 x0 x1 S Q := by
  unfold v_J9_floorMod_7cf53 at h
  unfold w_J9_floorMod_7cf53
  exact u_J9_floorMod_7cf53_b0 hSt hQ hC hP h
end
