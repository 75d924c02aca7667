/-! ===== both sides' calls: what holds between two of them ===== -/
def Ch (c : Nat) : Prop := c ≠ 0 ∧ c ≠ 5 ∧ c ≠ 6 ∧ c ≠ 7 ∧ c ≠ 11 ∧ c ≠ 22 ∧ c ≠ 23 ∧ c ≠ 80
theorem CD_Ch : CD Ch := by unfold CD Ch; omega
/-- what the fields of a society got, together -/
def gotI (E : eT) (M : yT) (i : Nat) : Int := itd (fun k s => if E.2.2 k = i then s + (M 11 k).toInt else s) 0 E.2.1 0
def WB (E : eT) (n : Nat) (M : yT) : Prop := (0 ≤ (M 68 0).toInt ∧ (M 68 0).toInt ≤ 200 * (n : Int)) ∧ (∀ i : Nat, i < E.1 → 0 ≤ (M 37 i).toInt ∧ (M 37 i).toInt ≤ 100 * (n : Int) * ((n : Int) + 1)) ∧ (∀ k : Nat, k < E.2.1 → 0 ≤ (M 11 k).toInt) ∧ (∀ i : Nat, i < E.1 → gotI E M i ≤ 100 * (n : Int) * ((n : Int) + 1)) ∧ (∀ i : Nat, i < E.1 → 0 ≤ (M 33 i).toInt ∧ (M 33 i).toInt ≤ 50)
def lowK (M : yT) (k : Nat) : Prop := (M 4 k).toInt < 2 → M 5 k = -1 ∧ M 6 k = 0 ∧ M 7 k = 0
def LJ (E : eT) (n : Nat) (M M1 N : yT) : Prop :=
  EQ Ch M N ∧ K5 E.2.1 M N ∧ (∀ k : Nat, k < E.2.1 → iF n M k) ∧ (∀ i : Nat, i < E.1 → iS M i) ∧ (0 ≤ (M 64 0).toInt ∧ (M 64 0).toInt ≤ n) ∧ EW E N ∧
  (∀ k : Nat, k < E.2.1 → M 11 k = N 11 k) ∧ (∀ k : Nat, k < E.2.1 → (M 22 k = 0 ∧ M 23 k = 0) ∧ M1 22 k = 0 ∧ M1 23 k = 0) ∧ (∀ k : Nat, k < E.2.1 → lowK M k) ∧
  ((∀ k : Nat, k < E.2.1 → M1 13 k = M 13 k ∧ M1 14 k = M 14 k) ∧ ∀ i : Nat, i < E.1 → M1 32 i = M 32 i ∧ M1 33 i = M 33 i) ∧ WB E n M ∧ (0 ≤ (M 66 0).toInt ∧ (M 66 0).toInt ≤ 40) ∧ (0 ≤ (M 73 0).toInt ∧ (M 73 0).toInt ≤ n)
def LI (E : eT) (n : Nat) (Z : zT) (N : yT) : Prop := LJ E n (Z 0) (Z 1) N
theorem LJ_dRel {E : eT} {n : Nat} {M M1 N : yT} (h : LJ E n M M1 N) : dRel Ch E N n (fun _ => (n : Int)) M N := by
  obtain ⟨h1, h2, h3, h4, h5, h6, h7, h8, h9, h10, h11⟩ := h
  refine ⟨h1, h2, h3, h4, ⟨fun c hc k => h1 c ?_ k, fun _ _ _ => rfl⟩, h5⟩
  unfold Ch
  omega
theorem LJ_EW {E : eT} {n : Nat} {M M1 N : yT} (h : LJ E n M M1 N) : EW E N := h.2.2.2.2.2.1
theorem WB_mono {E : eT} {n m : Nat} {M : yT} (h : WB E n M) (hn : n ≤ m) : WB E m M := by
  obtain ⟨h1, h2, h3, h4, h6⟩ := h
  have h5 : 100 * (n : Int) * ((n : Int) + 1) ≤ 100 * (m : Int) * ((m : Int) + 1) := by
    have a1 : (100 * (n : Int)) * ((n : Int) + 1) ≤ (100 * (m : Int)) * ((n : Int) + 1) := Int.mul_le_mul_of_nonneg_right (by omega) (by omega)
    have a2 : (100 * (m : Int)) * ((n : Int) + 1) ≤ (100 * (m : Int)) * ((m : Int) + 1) := Int.mul_le_mul_of_nonneg_left (by omega) (by omega)
    omega
  exact ⟨⟨h1.1, by omega⟩, fun i hi => ⟨(h2 i hi).1, Int.le_trans (h2 i hi).2 h5⟩, h3, fun i hi => Int.le_trans (h4 i hi) h5, h6⟩
theorem LJ_mono {E : eT} {n m : Nat} {M M1 N : yT} (h : LJ E n M M1 N) (hn : n ≤ m) : LJ E m M M1 N := by
  obtain ⟨h1, h2, h3, h4, h5, h6, h7, h8, h9, h10, h11, h12⟩ := h
  exact ⟨h1, h2, fun k hk => iF_D (h3 k hk) (by omega), h4, ⟨h5.1, by omega⟩, h6, h7, h8, h9, h10, WB_mono h11 hn, h12.1, ⟨h12.2.1, by omega⟩⟩
theorem gotI_c {E : eT} {M M' : yT} {i : Nat} (h : ∀ k, k < E.2.1 → M' 11 k = M 11 k) : gotI E M' i = gotI E M i := by
  unfold gotI
  refine itd_rel (R := fun _ a b => a = b) E.2.1 0 0 0 (fun k a b _ hk e => ?_) rfl
  rw [e, h k (by omega)]
theorem WB_c {E : eT} {n : Nat} {M M' : yT} (h : WB E n M) (h11 : ∀ k, k < E.2.1 → M' 11 k = M 11 k) (h37 : ∀ i, i < E.1 → M' 37 i = M 37 i) (h68 : M' 68 0 = M 68 0) (h33 : ∀ i, i < E.1 → M' 33 i = M 33 i) : WB E n M' := by
  obtain ⟨h1, h2, h3, h4, h5⟩ := h
  refine ⟨by rw [h68]; exact h1, fun i hi => by rw [h37 i hi]; exact h2 i hi, fun k hk => by rw [h11 k hk]; exact h3 k hk, fun i hi => by rw [gotI_c h11]; exact h4 i hi, fun i hi => by rw [h33 i hi]; exact h5 i hi⟩
section
variable {E : eT} {F : fT} {n : Nat} {M M1 N M' N' : yT} {Z : zT} {x1 x2 x3 : Int32} {k i : Nat}
theorem LJ_w {W : Nat → Prop} (h : LJ E n M M1 N) (hW : ∀ c, W c → c ≠ 0 ∧ c ≠ 11 ∧ c ≠ 13 ∧ c ≠ 14 ∧ c ≠ 22 ∧ c ≠ 23 ∧ c ≠ 32 ∧ c ≠ 33 ∧ c ≠ 37 ∧ c ≠ 64 ∧ c ≠ 66 ∧ c ≠ 68 ∧ c ≠ 73)
    (hM : ∀ c, ¬ W c → ∀ k, M' c k = M c k) (hN : ∀ c, ¬ W c → c ≠ 80 → ∀ k, N' c k = N c k) (e : ∀ c, W c → Ch c → ∀ k, M' c k = N' c k)
    (h5 : K5 E.2.1 M' N') (hF : ∀ k, k < E.2.1 → iF n M' k) (hS : ∀ i, i < E.1 → iS M' i) (lo : ∀ k, k < E.2.1 → lowK M' k) : LJ E n M' M1 N' := by
  obtain ⟨g1, g2, g3, g4, g5, g6, g7, g8, g9, g10, g11, g12⟩ := h
  have q0 : ¬ W 0 := fun z => (hW 0 z).1 rfl
  have q11 : ¬ W 11 := fun z => (hW 11 z).2.1 rfl
  have q13 : ¬ W 13 := fun z => (hW 13 z).2.2.1 rfl
  have q14 : ¬ W 14 := fun z => (hW 14 z).2.2.2.1 rfl
  have q22 : ¬ W 22 := fun z => (hW 22 z).2.2.2.2.1 rfl
  have q23 : ¬ W 23 := fun z => (hW 23 z).2.2.2.2.2.1 rfl
  have q32 : ¬ W 32 := fun z => (hW 32 z).2.2.2.2.2.2.1 rfl
  have q33 : ¬ W 33 := fun z => (hW 33 z).2.2.2.2.2.2.2.1 rfl
  have q37 : ¬ W 37 := fun z => (hW 37 z).2.2.2.2.2.2.2.2.1 rfl
  have q64 : ¬ W 64 := fun z => (hW 64 z).2.2.2.2.2.2.2.2.2.1 rfl
  have q66 : ¬ W 66 := fun z => (hW 66 z).2.2.2.2.2.2.2.2.2.2.1 rfl
  have q68 : ¬ W 68 := fun z => (hW 68 z).2.2.2.2.2.2.2.2.2.2.2.1 rfl
  have q73 : ¬ W 73 := fun z => (hW 73 z).2.2.2.2.2.2.2.2.2.2.2.2 rfl
  refine ⟨fun c hc k => ?_, h5, hF, hS, ?_, ⟨g6.1, g6.2.1, g6.2.2.1, fun k hk => ?_⟩, fun k hk => ?_, fun k hk => ?_, lo, ⟨fun k hk => ?_, fun i hi => ?_⟩, WB_c g11 (fun k _ => hM 11 q11 k) (fun i _ => hM 37 q37 i) (hM 68 q68 0) (fun i _ => hM 33 q33 i), ?_⟩
  · rcases Classical.em (W c) with w | w
    · exact e c w hc k
    · rw [hM c w k, hN c w hc.2.2.2.2.2.2.2 k]; exact g1 c hc k
  · rw [hM 64 q64]; exact g5
  · rw [hN 0 q0 (by decide)]; exact g6.2.2.2 k hk
  · rw [hM 11 q11, hN 11 q11 (by decide)]; exact g7 k hk
  · rw [hM 22 q22, hM 23 q23]; exact g8 k hk
  · rw [hM 13 q13, hM 14 q14]; exact g10.1 k hk
  · rw [hM 32 q32, hM 33 q33]; exact g10.2 i hi
  · rw [hM 66 q66, hM 73 q73]; exact g12
theorem LJ_80 {v : Int32} (h : LJ E n M M1 N) : LJ E n M M1 (s_up2 N 80 0 v) := by
  obtain ⟨g1, g2, g3, g4, g5, g6, g7, g8⟩ := h
  exact ⟨EQ_r g1 (fun z => absurd rfl z.2.2.2.2.2.2.2), g2, g3, g4, g5, g6, g7, g8⟩
/-- a column's cell with no bound of its own -/
def plainC (c : Nat) : Prop := c = 10 ∨ c = 17 ∨ c = 18 ∨ c = 19 ∨ c = 20 ∨ c = 21 ∨ c = 35 ∨ c = 36 ∨ c = 40 ∨ c = 74
theorem LJ_p {c : Nat} {v w : Int32} (hc : plainC c) (h : LJ E n M M1 N) (e : v = w) : LJ E n (s_up2 M c k v) M1 (s_up2 N c k w) := by
  unfold plainC at hc
  refine LJ_w (W := fun c' => c' = c) h (fun c' z => by omega) (fun c' z k => if_neg (fun y => z y.1)) (fun c' z _ k => if_neg (fun y => z y.1)) (fun c' z hc' a => ?_) (fun a ha hs => ?_) (fun a ha => iF_c (by omega) (h.2.2.1 a ha)) (fun i hi => iS_c (by omega) (h.2.2.2.1 i hi)) (fun a ha => ?_)
  · exact EQ_up h.1 (fun _ => e) c' hc' a
  · simp only [up_rd, show ¬ 4 = c by omega, show ¬ 5 = c by omega, show ¬ 6 = c by omega, show ¬ 7 = c by omega, false_and, if_false] at hs ⊢
    exact h.2.1 a ha hs
  · unfold lowK
    simp only [up_rd, show ¬ 4 = c by omega, show ¬ 5 = c by omega, show ¬ 6 = c by omega, show ¬ 7 = c by omega, false_and, if_false]
    exact h.2.2.2.2.2.2.2.2.1 a ha
theorem LJ_f {c : Nat} {v w : Int32} (hc : c = 1 ∨ c = 2 ∨ c = 3 ∨ c = 8 ∨ c = 9 ∨ c = 12 ∨ c = 15 ∨ c = 16) (h : LJ E n M M1 N) (e : v = w) (hi : iF n (s_up2 M c k v) k) : LJ E n (s_up2 M c k v) M1 (s_up2 N c k w) := by
  refine LJ_w (W := fun c' => c' = c) h (fun c' z => by omega) (fun c' z k => if_neg (fun y => z y.1)) (fun c' z _ k => if_neg (fun y => z y.1)) (fun c' z hc' a => ?_) (fun a ha hs => ?_) (fun a ha => ?_) (fun i hi => iS_c (by omega) (h.2.2.2.1 i hi)) (fun a ha => ?_)
  · exact EQ_up h.1 (fun _ => e) c' hc' a
  · simp only [up_rd, show ¬ 4 = c by omega, show ¬ 5 = c by omega, show ¬ 6 = c by omega, show ¬ 7 = c by omega, false_and, if_false] at hs ⊢
    exact h.2.1 a ha hs
  · by_cases z : a = k
    · rw [z]; exact hi
    · exact iF_ne z (h.2.2.1 a ha)
  · unfold lowK
    simp only [up_rd, show ¬ 4 = c by omega, show ¬ 5 = c by omega, show ¬ 6 = c by omega, show ¬ 7 = c by omega, false_and, if_false]
    exact h.2.2.2.2.2.2.2.2.1 a ha
theorem LJ_s {c : Nat} {v w : Int32} (hc : c = 34 ∨ c = 38) (h : LJ E n M M1 N) (e : v = w) (hi : iS (s_up2 M c i v) i) : LJ E n (s_up2 M c i v) M1 (s_up2 N c i w) := by
  refine LJ_w (W := fun c' => c' = c) h (fun c' z => by omega) (fun c' z k => if_neg (fun y => z y.1)) (fun c' z _ k => if_neg (fun y => z y.1)) (fun c' z hc' a => ?_) (fun a ha hs => ?_) (fun a ha => iF_c (by omega) (h.2.2.1 a ha)) (fun a ha => ?_) (fun a ha => ?_)
  · exact EQ_up h.1 (fun _ => e) c' hc' a
  · simp only [up_rd, show ¬ 4 = c by omega, show ¬ 5 = c by omega, show ¬ 6 = c by omega, show ¬ 7 = c by omega, false_and, if_false] at hs ⊢
    exact h.2.1 a ha hs
  · by_cases z : a = i
    · rw [z]; exact hi
    · have := h.2.2.2.1 a ha
      unfold iS at this ⊢
      simp only [up_rd, z, and_false, if_false]
      exact this
  · unfold lowK
    simp only [up_rd, show ¬ 4 = c by omega, show ¬ 5 = c by omega, show ¬ 6 = c by omega, show ¬ 7 = c by omega, false_and, if_false]
    exact h.2.2.2.2.2.2.2.2.1 a ha
/-! the numbers asked for -/
theorem vp_iff {x : Int32} {m : Nat} : vp_in x m ↔ 0 ≤ x.toInt ∧ x.toInt < m := by
  have h0 : (0 : Int32).toInt = 0 := rfl
  unfold vp_in
  rw [ti_lt, h0, ti_clamp]
  omega
theorem vp_nI {x : Int32} {m : Nat} (h : vp_in x m) : x = nI (Int32.toNatClampNeg x) := by
  rw [vp_iff] at h
  have := ti_r x
  rw [ti_eq, ti_clamp, ti_nI (by omega)]
  omega
theorem c_fieldAt (hF : E.2.1 ≤ 12) (h : vp_in x1 E.2.1) {Q : Nat → zT → Prop} : v_X6_fieldAt E x1 Z Q = Q (Int32.toNatClampNeg x1) Z := by
  have h1 := vp_iff.mp h
  have h2 : ¬ x1 < 0 := vp_nn h
  have h3 : x1 < nI E.2.1 := q_lt h (by omega)
  simp only [v_X6_fieldAt, v_X6_fieldAt_b0, forall_eq, h2, h3, h, false_implies, true_and, not_false_eq_true, forall_const, not_true_eq_false, and_true]
theorem c_societyAt (hS : E.1 ≤ 3) (h : vp_in x1 E.1) {Q : Nat → zT → Prop} : v_X6_societyAt E x1 Z Q = Q (Int32.toNatClampNeg x1) Z := by
  have h1 := vp_iff.mp h
  have h2 : ¬ x1 < 0 := vp_nn h
  have h3 : x1 < nI E.1 := q_lt h (by omega)
  simp only [v_X6_societyAt, v_X6_societyAt_b0, forall_eq, h2, h3, h, false_implies, true_and, not_false_eq_true, forall_const, not_true_eq_false, and_true]
theorem isw_n {m : Nat} (hm : m ≤ 12) : (vp_in x1 m → isw x1 0 (nI m - 1) = 1) ∧ (¬ vp_in x1 m → isw x1 0 (nI m - 1) = 0) := by
  have h0 : (0 : Int32).toInt = 0 := rfl
  have h1 : (1 : Int32).toInt = 1 := rfl
  have e : (nI m - 1).toInt = (m : Int) - 1 := by rw [ti_sub (by rw [ti_nI (by omega), h1]; omega) (by rw [ti_nI (by omega), h1]; omega), ti_nI (by omega), h1]
  unfold isw
  rw [vp_iff]
  refine ⟨fun h => ?_, fun h => ?_⟩
  · rw [if_neg (by rw [ti_lt, h0]; omega), if_neg (by rw [ti_lt, e]; omega)]
  · by_cases c : x1 < 0
    · rw [if_pos c]
    · rw [if_neg c, if_pos]
      rw [ti_lt, h0] at c
      rw [ti_lt, e]; omega
/-- what a call comes to on both sides -/
def RES (E : eT) (n : Nat) (Z : zT) (N : yT) (cl : (Int32 → zT → Prop) → Prop) (clT : (String → zT → Prop) → Prop) (rf : (Int32 → yT → Prop) → Prop) (exs : List String) : Prop :=
  (∃ (v : Int32) (Z' : zT) (N' : yT), (∀ Q : Int32 → zT → Prop, Q v Z' → cl Q) ∧ (∀ Q : Int32 → yT → Prop, Q v N' → rf Q) ∧ N' 80 0 = 0 ∧ LI E n Z' N') ∨
  (∃ (c : Nat) (ex : String) (u : Int32) (N' : yT), exs[c]? = some ex ∧ (∀ Q : String → zT → Prop, Q ex Z → clT Q) ∧ (∀ Q : Int32 → yT → Prop, Q u N' → rf Q) ∧ N' 80 0 = nI (c + 1) ∧ LI E n Z N')
abbrev xI : String := "java/lang/IndexOutOfBoundsException"
abbrev xA : String := "java/lang/IllegalArgumentException"
abbrev xS : String := "java/lang/IllegalStateException"
theorem LI_zs {M' N' : yT} (h : LJ E n M' (Z 1) N') : LI E n (zs Z 0 M') N' := h
theorem LI_iF (h : LI E n Z N) (hv : vp_in x1 E.2.1) : iF n (Z 0) (Int32.toNatClampNeg x1) := h.2.2.1 _ (vp_lt hv)
theorem LI_ch (h : LI E n Z N) {c : Nat} (hc : Ch c) : Z 0 c k = N c k := h.1 c hc k
end
