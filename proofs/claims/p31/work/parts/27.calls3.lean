section
variable {E : eT} {F : fT} {n : Nat} {M M1 N M' N' : yT} {Z : zT} {x1 x2 x3 : Int32} {k i : Nat} {V : yT} {C : Nat → Prop} {T : Int} {D : Nat → Int}
def yR (M : yT) (k : Nat) : Int32 := if M 4 k = 5 then (40 + 20 * M 5 k) * M 7 k / 100 * (50 + M 9 k) / 100 else 0
theorem yl_eq (hC : CD C) (h : dRel C E V T D M N) (hk : k < E.2.1) : ryC M k = yR N k ∧ 0 ≤ (ryC M k).toInt ∧ (ryC M k).toInt ≤ 80 := by
  unfold ryC yR
  rw [← d_4 hC h]
  by_cases c : M 4 k = 5
  · obtain ⟨g1, g2, g3, g4⟩ := h.2.2.1 k hk
    have l5 : (5 : Int32).toInt = 5 := rfl
    have l0 : (0 : Int32).toInt = 0 := rfl
    have l1 : (1 : Int32).toInt = 1 := rfl
    have l2 : (2 : Int32).toInt = 2 := rfl
    have l100 : (100 : Int32).toInt = 100 := rfl
    have l50 : (50 : Int32).toInt = 50 := rfl
    have hs : 2 ≤ (M 4 k).toInt := by rw [c]; decide
    obtain ⟨⟨k1, k2, k3, k4, k5, k6⟩, -⟩ := g4 hs
    obtain ⟨e5, e6, e7⟩ := h.2.1 k hk hs
    rw [if_pos c, if_pos c, ← e5, ← e7, ← d_9 hC h]
    have hki : M 5 k = 0 ∨ M 5 k = 1 ∨ M 5 k = 2 := by simp only [ti_eq, l0, l1, l2]; omega
    have ha : irow 3 (M 5 k) = 40 + 20 * M 5 k ∧ 40 ≤ (irow 3 (M 5 k)).toInt ∧ (irow 3 (M 5 k)).toInt ≤ 80 := by rcases hki with e | e | e <;> rw [e] <;> decide
    rw [← ha.1]
    refine ⟨rfl, ?_⟩
    generalize irow 3 (M 5 k) = a at ha
    have q1 : 0 ≤ a.toInt * (M 7 k).toInt := Int.mul_nonneg (by omega) (by omega)
    have q2 : a.toInt * (M 7 k).toInt ≤ 80 * 100 := Int.mul_le_mul ha.2.2 k6 k5 (by decide)
    have s1 : (a * M 7 k).toInt = a.toInt * (M 7 k).toInt := ti_mul (by omega) (by omega)
    have s2 : (a * M 7 k / 100).toInt = a.toInt * (M 7 k).toInt / 100 := by rw [ti_div (by rw [s1]; exact q1) (by rw [l100]; decide), s1, l100]
    generalize a * M 7 k / 100 = b at s2
    have hb : 0 ≤ b.toInt ∧ b.toInt ≤ 80 := by omega
    have s3 : (50 + M 9 k).toInt = 50 + (M 9 k).toInt := by rw [ti_add (by omega) (by omega), l50]
    generalize 50 + M 9 k = d at s3
    have hd : 0 ≤ d.toInt ∧ d.toInt ≤ 100 := by omega
    have q3 : 0 ≤ b.toInt * d.toInt := Int.mul_nonneg hb.1 hd.1
    have q4 : b.toInt * d.toInt ≤ 80 * 100 := Int.mul_le_mul hb.2 hd.2 hd.1 (by decide)
    have s4 : (b * d).toInt = b.toInt * d.toInt := ti_mul (by omega) (by omega)
    have s5 : (b * d / 100).toInt = b.toInt * d.toInt / 100 := by rw [ti_div (by rw [s4]; exact q3) (by rw [l100]; decide), s4, l100]
    omega
  · rw [if_neg c, if_neg c]; exact ⟨rfl, by decide, by decide⟩
theorem LI_yl (h : LI E n Z N) (hk : k < E.2.1) : ryC (Z 0) k = yR N k ∧ 0 ≤ (ryC (Z 0) k).toInt ∧ (ryC (Z 0) k).toInt ≤ 80 := yl_eq CD_Ch (LJ_dRel h) hk
theorem LI_of (h : LI E n Z N) (hk : k < E.2.1) : N 0 k = nI (E.2.2 k) := (LJ_EW h).2.2.2 k hk
theorem perm4 {X : yT} {a b c d : Int32} : s_up2 (s_up2 (s_up2 (s_up2 X 36 i a) 40 i b) 19 k c) 74 0 d = s_up2 (s_up2 (s_up2 (s_up2 X 74 0 d) 40 i b) 36 i a) 19 k c := by
  funext e j
  simp only [up_rd]
  by_cases h1 : e = 74
  · subst h1; simp only [Nat.reduceEqDiff, false_and, if_false]
  · by_cases h2 : e = 19
    · subst h2; simp only [Nat.reduceEqDiff, false_and, if_false]
    · by_cases h3 : e = 36
      · subst h3; simp only [Nat.reduceEqDiff, false_and, if_false]
      · simp only [h1, h2, h3, false_and, if_false]
theorem perm3 {X : yT} {a b c : Int32} : s_up2 (s_up2 (s_up2 X 20 k a) 21 k b) 73 0 c = s_up2 (s_up2 (s_up2 X 73 0 c) 20 k a) 21 k b := by
  funext e j
  simp only [up_rd]
  by_cases h1 : e = 73
  · subst h1; simp only [Nat.reduceEqDiff, false_and, if_false]
  · simp only [h1, false_and, if_false]
theorem LJ_73 (hn : n ≤ 1000) (h : LJ E n M M1 N) : LJ E (n + 1) (s_up2 M 73 0 (M 73 0 + 1)) M1 (s_up2 N 73 0 (N 73 0 + 1)) := by
  have e : M 73 0 = N 73 0 := h.1 73 (by unfold Ch; decide) 0
  obtain ⟨h1, h2, h3, h4, h5, h6, h7, h8, h9, h10, h11, h12, h13⟩ := LJ_mono h (Nat.le_succ n)
  have l1 : (1 : Int32).toInt = 1 := rfl
  have h14 := h.2.2.2.2.2.2.2.2.2.2.2.2
  have s1 : (M 73 0 + 1).toInt = (M 73 0).toInt + 1 := by rw [ti_add (by omega) (by omega), l1]
  refine ⟨EQ_up h1 (fun _ => by rw [e]), fun a ha hs => ?_, fun a ha => iF_c (by decide) (h3 a ha), fun a ha => iS_c (by decide) (h4 a ha), ?_, ?_, fun a ha => ?_, fun a ha => ?_, fun a ha => ?_, ⟨fun a ha => ?_, fun a ha => ?_⟩, WB_c h11 (fun k _ => ?_) (fun i _ => ?_) ?_ (fun i _ => ?_), ?_, ?_⟩
  · simp only [up_rd, Nat.reduceEqDiff, false_and, if_false] at hs ⊢; exact h2 a ha hs
  · simp only [up_rd, Nat.reduceEqDiff, false_and, if_false]; exact h5
  · exact ⟨h6.1, h6.2.1, h6.2.2.1, fun k hk => by simp only [up_rd, Nat.reduceEqDiff, false_and, if_false]; exact h6.2.2.2 k hk⟩
  · simp only [up_rd, Nat.reduceEqDiff, false_and, if_false]; exact h7 a ha
  · simp only [up_rd, Nat.reduceEqDiff, false_and, if_false]; exact h8 a ha
  · unfold lowK; simp only [up_rd, Nat.reduceEqDiff, false_and, if_false]; exact h9 a ha
  · simp only [up_rd, Nat.reduceEqDiff, false_and, if_false]; exact h10.1 a ha
  · simp only [up_rd, Nat.reduceEqDiff, false_and, if_false]; exact h10.2 a ha
  · simp only [up_rd, Nat.reduceEqDiff, false_and, if_false]
  · simp only [up_rd, Nat.reduceEqDiff, false_and, if_false]
  · simp only [up_rd, Nat.reduceEqDiff, false_and, if_false]
  · simp only [up_rd, Nat.reduceEqDiff, false_and, if_false]
  · simp only [up_rd, Nat.reduceEqDiff, false_and, if_false]; exact h12
  · simp only [up_rd, and_self, if_true]; omega
end
