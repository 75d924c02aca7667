/-! ===== a new world of the model: the copying ===== -/
section
variable {D T D2 : Nat → Prop} {S S' S0 S1 : sT} {a b q m x y W : Nat} {X X' : Nat → Nat → Nat} {F F' : fT} {N M M' : yT}
theorem FRM.cB {i j n : Nat} (h : FRM D T S0 S) (ha : s_K S0 b = 0 ∨ D b) : FRM D T S0 (s_cB S a b i j n) := by
  refine ⟨h.1, fun y hy => ⟨(h.2 y hy).1, fun hd => ?_⟩⟩
  have hne : y ≠ b := fun z => ha.elim (fun z2 => hy (z ▸ z2)) (fun z2 => hd (z ▸ z2))
  obtain ⟨a1, a2, a3, a4, a5⟩ := (h.2 y hy).2 hd
  exact ⟨a1, a2, a3, fun j => (congrFun (if_neg hne) j).trans (a4 j), a5⟩
theorem cB_in {n j : Nat} (hj : j < n) : s_B (s_cB S a b 0 0 n) b j = s_B S a j := by
  show (if b = b then va_cpy (s_B S a) (s_B S b) 0 0 n else s_B S b) j = _
  rw [if_pos rfl, pk_cpy_in (Nat.zero_le j) (by omega), Nat.zero_add, Nat.sub_zero]
theorem cB_out {n : Nat} (hne : y ≠ b) : s_B (s_cB S a b 0 0 n) y = s_B S y := if_neg hne
def wS (N : yT) (i : Nat) : yT := fun c k => if 32 ≤ c ∧ c < 42 ∧ k < i then N c k else 0
def wF (N : yT) (nS k0 : Nat) : yT := fun c k => if c < 22 ∧ k < k0 then N c k else wS N nS c k
def wE (N : yT) (nS nF : Nat) : yT := fun c k => if 64 ≤ c ∧ c < 75 ∧ k = 0 then N c k else wF N nS nF c k
end
