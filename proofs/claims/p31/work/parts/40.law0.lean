/-! ===== the law's state between two calls, in the store ===== -/
/-- the lists' arrays: each list its own -/
def AL (S : sT) : Prop := ∃ e0 e1 : Nat, s_R S 9998 0 = some e0 ∧ s_R S 9999 0 = some e1 ∧ s_K S e0 = 0 ∧ ∀ a b : Nat, s_K S a = 1 → s_R S 1 a = some b → b = e0 ∨ (s_K S b = 12 ∧ (s_N S b = 10 ∨ s_N S b = 15) ∧ ∀ a' : Nat, s_K S a' = 1 → s_R S 1 a' = some b → a' = a)
/-- the lists are each another -/
def LD (H : Nat → Nat → Nat → Nat) (E : eT) : Prop := ∀ w v f g k j : Nat, w < 2 → v < 2 → (f = 1 ∧ k = 0 ∨ f = 2 ∧ k = 0 ∨ f = 8 ∧ k < E.1) → (g = 1 ∧ j = 0 ∨ g = 2 ∧ j = 0 ∨ g = 8 ∧ j < E.1) → H w f k = H v g j → w = v ∧ f = g ∧ k = j
/-- what holds of the law's own arrays -/
def OK (x3 x4 : Nat) (H : Nat → Nat → Nat → Nat) (E : eT) (S : sT) : Prop := AL S ∧ s_K S x3 = 14 ∧ s_N S x3 = 1 ∧ s_K S x4 = 15 ∧ s_N S x4 = 1 ∧ LD H E
abbrev fF (E : eT) : fT := (E.1, E.2.1, True)
theorem c_g288 : ∀ c : Nat, c < 75 → c_v c = true → c_g c ≠ 288 := by decide
section
variable {x1 x2 x3 x4 : Nat} {H : Nat → Nat → Nat → Nat} {X : Nat → Nat → Nat} {E : eT} {n : Nat} {S S1 S2 S3 : sT} {Z Z' : zT} {N N' : yT} {P : sT → Prop}
theorem OK_sI {g a : Nat} {v : Int32} (h : OK x3 x4 H E S) : OK x3 x4 H E (s_sI S g a v) := h
theorem OK_sB {a j : Nat} {v : Int32} (h : OK x3 x4 H E S) : OK x3 x4 H E (s_sB S a j v) := h
theorem OK_sG {a j : Nat} {v : Int64} (h : OK x3 x4 H E S) : OK x3 x4 H E (s_sG S a j v) := h
theorem CC_sG {a j : Nat} {v : Int64} (h : CC H E S Z) : CC H E (s_sG S a j v) Z := h
theorem CC_sB {a j : Nat} {v : Int32} (h : CC H E S Z) : CC H E (s_sB S a j v) Z := h
theorem CC_s288 {a : Nat} {v : Int32} (h : CC H E S Z) : CC H E (s_sI S 288 a v) Z :=
  ⟨CS_sI (by decide) (by decide) (by decide) h.1, h.2.1, fun w hw c hc hv k hk => (if_neg (fun z => c_g288 c hc hv z.1)).trans (h.2.2 w hw c hc hv k hk)⟩
theorem nI_nz4 {c : Nat} (h : c < 4) : nI (c + 1) ≠ 0 := by
  rcases (show c = 0 ∨ c = 1 ∨ c = 2 ∨ c = 3 by omega) with rfl | rfl | rfl | rfl <;> decide
theorem vp_in01 {N1 : Nat} (h : N1 = 1) : vp_in (0 : Int32) N1 := by
  rw [h]; unfold vp_in; decide
end
