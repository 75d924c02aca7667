/-! ===== a new world of the model ===== -/
section
variable {D T D2 : Nat → Prop} {S S' S0 S1 : sT} {a b q k n m x y W : Nat} {r : Nat → Nat}
theorem mna_r {i : Nat} (hi : i < n) : r i ∈ (List.range n).map r := List.mem_map.mpr ⟨i, List.mem_range.mpr hi, rfl⟩
theorem FRM.mna (h : FRM D T S0 S) (hq : s_fr S q) (hr : ∀ i, i < n → s_fr S (r i) ∧ r i ≠ q) : FRM D T S0 (s_mna S q r n m) := by
  have hnr : ∀ y, s_K S y ≠ 0 ∨ y = 0 → ¬ (y = q ∨ y ∈ (List.range n).map r) := by
    rintro y hy (z | z)
    · rcases hy with h | h
      · exact h (z ▸ hq.1)
      · exact hq.2.1 (z ▸ h)
    · obtain ⟨i, hi, e⟩ := List.mem_map.mp z
      have h3 := (hr i (List.mem_range.mp hi)).1
      rcases hy with h | h
      · exact h (e ▸ h3.1)
      · exact h3.2.1 (e.trans h)
  have h0 := hnr 0 (Or.inr rfl)
  refine ⟨⟨(if_neg h0).trans h.1.1, (if_neg h0).trans h.1.2.1, fun y hy ht => (if_neg (hnr y (Or.inl (by rw [(h.2 y hy).1]; exact hy)))).trans (h.1.2.2 y hy ht)⟩, fun y hy => ?_⟩
  obtain ⟨e, h2⟩ := h.2 y hy
  have hy2 := hnr y (Or.inl (by rw [e]; exact hy))
  have y1 : y ≠ q := fun z => hy2 (Or.inl z)
  have y2 : ¬ y ∈ (List.range n).map r := fun z => hy2 (Or.inr z)
  refine ⟨((if_neg y1).trans (if_neg y2)).trans e, fun hd => ?_⟩
  obtain ⟨a1, a2, a3, a4, a5, a6, a7⟩ := h2 hd
  exact ⟨((if_neg y1).trans (if_neg y2)).trans a1, fun g => (if_neg hy2).trans (a2 g), fun g hg => (if_neg hy2).trans (a3 g hg), fun j => (if_neg hy2).trans (a4 j), fun j => ((if_neg y1).trans (if_neg y2)).trans (a5 j), fun j => (if_neg hy2).trans (a6 j), fun j => (if_neg hy2).trans (a7 j)⟩
theorem AL_mna (hA : AL S) (hq : s_fr S q) (hr : ∀ i, i < n → s_fr S (r i) ∧ r i ≠ q) : AL (s_mna S q r n m) := by
  have hnr : ∀ y, s_K S y ≠ 0 ∨ y = 0 ∨ s_R S 9998 0 = some y → ¬ (y = q ∨ y ∈ (List.range n).map r) := by
    rintro y hy (z | z)
    · rcases hy with h | h | h
      · exact h (z ▸ hq.1)
      · exact hq.2.1 (z ▸ h)
      · exact hq.2.2 (z ▸ h)
    · obtain ⟨i, hi, e⟩ := List.mem_map.mp z
      have h3 := (hr i (List.mem_range.mp hi)).1
      rcases hy with h | h | h
      · exact h (e ▸ h3.1)
      · exact h3.2.1 (e.trans h)
      · exact h3.2.2 (e ▸ h)
  obtain ⟨e0, e1, h0, h1, hK, h⟩ := hA
  have n0 := hnr 0 (Or.inr (Or.inl rfl))
  have ne := hnr e0 (Or.inr (Or.inr h0))
  have kk : ∀ y, ¬ (y = q ∨ y ∈ (List.range n).map r) → s_K (s_mna S q r n m) y = s_K S y ∧ s_N (s_mna S q r n m) y = s_N S y := fun y hy => ⟨(if_neg (fun z => hy (Or.inl z))).trans (if_neg (fun z => hy (Or.inr z))), (if_neg (fun z => hy (Or.inl z))).trans (if_neg (fun z => hy (Or.inr z)))⟩
  have k1 : ∀ a, s_K (s_mna S q r n m) a = 1 → ¬ (a = q ∨ a ∈ (List.range n).map r) := by
    rintro a ha (z | z)
    · have : s_K (s_mna S q r n m) a = 13 := if_pos z
      rw [ha] at this; cases this
    · by_cases y : a = q
      · have : s_K (s_mna S q r n m) a = 13 := if_pos y
        rw [ha] at this; cases this
      · have : s_K (s_mna S q r n m) a = 11 := (if_neg y).trans (if_pos z)
        rw [ha] at this; cases this
  refine ⟨e0, e1, (if_neg n0).trans h0, (if_neg n0).trans h1, (kk e0 ne).1.trans hK, fun a b ha hb => ?_⟩
  have na := k1 a ha
  rcases h a b ((kk a na).1.symm.trans ha) ((if_neg na).symm.trans hb) with z | ⟨z1, z2, z3⟩
  · exact Or.inl z
  · have nb := hnr b (Or.inl (by rw [z1]; decide))
    refine Or.inr ⟨(kk b nb).1.trans z1, by rw [(kk b nb).2]; exact z2, fun a' ha' hb' => ?_⟩
    have na' := k1 a' ha'
    exact z3 a' ((kk a' na').1.symm.trans ha') ((if_neg na').symm.trans hb')
/-- an array of ints, all 0 -/
def OB (S : sT) (y n : Nat) : Prop := s_K S y = 11 ∧ s_N S y = n ∧ ∀ j, s_B S y j = 0
theorem OB.F (h : OB S y n) (F : FRM D T S S') (hd : ¬ D y) : OB S' y n := by
  obtain ⟨e, h2⟩ := F.2 y (by rw [h.1]; decide)
  obtain ⟨a1, -, -, a4, -⟩ := h2 hd
  exact ⟨e.trans h.1, a1.trans h.2.1, fun j => (a4 j).trans (h.2.2 j)⟩
theorem OB_nw : OB (s_nw S q 11 n) q n := ⟨s_nw_K, s_nw_N, fun _ => if_pos rfl⟩
theorem OB_mna {i : Nat} (hi : i < n) (hne : r i ≠ q) : OB (s_mna S q r n m) (r i) m :=
  ⟨(if_neg hne).trans (if_pos (mna_r hi)), (if_neg hne).trans (if_pos (mna_r hi)), fun _ => if_pos (Or.inr (mna_r hi))⟩
/-- an outer array -/
def OA (S : sT) (y n : Nat) (r : Nat → Nat) : Prop := s_K S y = 13 ∧ s_N S y = n ∧ ∀ j, j < n → s_P S y j = some (r j)
theorem OA.F (h : OA S y n r) (F : FRM D T S S') (hd : ¬ D y) : OA S' y n r := by
  obtain ⟨e, h2⟩ := F.2 y (by rw [h.1]; decide)
  obtain ⟨a1, -, -, -, a5, -⟩ := h2 hd
  exact ⟨e.trans h.1, a1.trans h.2.1, fun j hj => (a5 j).trans (h.2.2 j hj)⟩
theorem OA_mna : OA (s_mna S q r n m) q n r := ⟨if_pos rfl, if_pos rfl, fun j hj => (if_pos rfl).trans (if_pos hj)⟩
theorem FRM.R (F : FRM no_ no_ S S') {g : Nat} (hW : s_K S W ≠ 0) : s_R S' g W = s_R S g W := ((F.2 W hW).2 (fun z => z)).2.2.1 g (fun _ z => z)
/-- a new world's addresses -/
def nX (W q1 q2 q3 q4 q5 : Nat) (r1 r2 : Nat → Nat) (f k : Nat) : Nat := match f with
  | 1 => W
  | 2 => q4
  | 3 => q5
  | 4 => r1 k
  | 5 => r2 k
  | 6 => q1
  | 7 => q2
  | _ => q3
theorem s7_init {Q : sT → Prop} {x1 x2 : Int32} {n1 n2 mc ms : Nat} (hk : s_K S W = 9) (hx1 : x1 = nI n1) (hx2 : x2 = nI n2) (h1 : n1 ≤ 3) (h2 : n2 ≤ 12) (hmc : 5 + n1 + n2 ≤ mc) (hms : 35 + 11 * n1 + 23 * n2 ≤ ms) (hQ : ∀ S' X, FRM (fun y => y = W) no_ S S' → (AL S → AL S') → X 1 0 = W → (∀ f k, r_ok (n1, n2, False) f k ∨ (f = 2 ∨ f = 3) ∧ k = 0 → s_K S (X f k) = 0) → RS X (n1, n2, False) S' → RV X (n1, n2, False) (s_B S') (fun _ _ => 0) → Q S') : wA_X7_init mc ms W x1 x2 S Q := by
  have hW0 : s_K S W ≠ 0 := by rw [hk]; decide
  unfold wA_X7_init wA_X7_init_b0
  refine ⟨by omega, by omega, fun q1 f1 S1 e1 => ?_⟩
  have G1 : FRM no_ no_ S S1 := by rw [e1]; exact FRM.refl.nw f1
  have A1 : AL S → AL S1 := fun h => by rw [e1]; exact AL_nw h f1
  have o1 : OB S1 q1 11 := by rw [e1]; exact OB_nw
  clear e1
  have k1 : s_K S1 W = 9 := (G1.2 W hW0).1.trans hk
  refine ⟨k1, fun S2 e2 => ⟨by omega, by omega, fun q2 f2 S3 e3 => ?_⟩⟩
  have k2 : s_K S2 W = 9 := by rw [e2]; exact k1
  have G2 : FRM (fun y => y = W) no_ S1 S2 := by rw [e2]; exact FRM.refl.sR (Or.inr (Or.inl rfl)) (by decide) (by decide)
  have A2 : AL S1 → AL S2 := fun h => by rw [e2]; exact AL_sR h (by decide) (by decide) (by decide)
  have r2 : s_R S2 258 W = some q1 := by rw [e2]; exact sR_s
  clear e2
  have G3 : FRM no_ no_ S2 S3 := by rw [e3]; exact FRM.refl.nw f2
  have A3 : AL S2 → AL S3 := fun h => by rw [e3]; exact AL_nw h f2
  have o2 : OB S3 q2 12 := by rw [e3]; exact OB_nw
  clear e3
  have k3 : s_K S3 W = 9 := (G3.2 W (by rw [k2]; decide)).1.trans k2
  have r3 : s_R S3 258 W = some q1 := (G3.R (by rw [k2]; decide)).trans r2
  refine ⟨k3, fun S4 e4 => ⟨by omega, by omega, fun q3 f3 S5 e5 => ?_⟩⟩
  have k4 : s_K S4 W = 9 := by rw [e4]; exact k3
  have G4 : FRM (fun y => y = W) no_ S3 S4 := by rw [e4]; exact FRM.refl.sR (Or.inr (Or.inl rfl)) (by decide) (by decide)
  have A4 : AL S3 → AL S4 := fun h => by rw [e4]; exact AL_sR h (by decide) (by decide) (by decide)
  have r4 : s_R S4 258 W = some q1 ∧ s_R S4 259 W = some q2 := by rw [e4]; exact ⟨(sR_o (fun z => absurd z.1 (by decide))).trans r3, sR_s⟩
  clear e4
  have G5 : FRM no_ no_ S4 S5 := by rw [e5]; exact FRM.refl.nw f3
  have A5 : AL S4 → AL S5 := fun h => by rw [e5]; exact AL_nw h f3
  have o3 : OB S5 q3 12 := by rw [e5]; exact OB_nw
  clear e5
  have k5 : s_K S5 W = 9 := (G5.2 W (by rw [k4]; decide)).1.trans k4
  have k4' : s_K S4 W ≠ 0 := by rw [k4]; decide
  have r5 : s_R S5 258 W = some q1 ∧ s_R S5 259 W = some q2 := ⟨(G5.R k4').trans r4.1, (G5.R k4').trans r4.2⟩
  refine ⟨k5, fun S6 e6 N1 eN1 => ?_⟩
  have hN1 : N1 = n1 := by rw [eN1, hx1, nI_cl (by omega)]
  subst hN1
  have k6 : s_K S6 W = 9 := by rw [e6]; exact k5
  have G6 : FRM (fun y => y = W) no_ S5 S6 := by rw [e6]; exact FRM.refl.sR (Or.inr (Or.inl rfl)) (by decide) (by decide)
  have A6 : AL S5 → AL S6 := fun h => by rw [e6]; exact AL_sR h (by decide) (by decide) (by decide)
  have r6 : s_R S6 258 W = some q1 ∧ s_R S6 259 W = some q2 ∧ s_R S6 260 W = some q3 := by
    rw [e6]; exact ⟨(sR_o (fun z => absurd z.1 (by decide))).trans r5.1, (sR_o (fun z => absurd z.1 (by decide))).trans r5.2, sR_s⟩
  clear e6
  refine ⟨vp_nn (ls_vp (m := N1 + 1) (by omega) (by omega) |> fun h => hx1 ▸ h), by omega, by omega, by omega, fun q4 t1 i1 f4 j1 S7 e7 => ?_⟩
  have G7 : FRM no_ no_ S6 S7 := by rw [e7]; exact FRM.refl.mna f4 j1
  have A7 : AL S6 → AL S7 := fun h => by rw [e7]; exact AL_mna h f4 j1
  have o4 : OA S7 q4 N1 t1 := by rw [e7]; exact OA_mna
  have o5 : ∀ i, i < N1 → OB S7 (t1 i) 10 := fun i hi => by rw [e7]; exact OB_mna hi (j1 i hi).2
  clear e7
  have k6' : s_K S6 W ≠ 0 := by rw [k6]; decide
  have k7 : s_K S7 W = 9 := (G7.2 W k6').1.trans k6
  have r7 : s_R S7 258 W = some q1 ∧ s_R S7 259 W = some q2 ∧ s_R S7 260 W = some q3 := ⟨(G7.R k6').trans r6.1, (G7.R k6').trans r6.2.1, (G7.R k6').trans r6.2.2⟩
  refine ⟨k7, fun S8 e8 N2 eN2 => ?_⟩
  have hN2 : N2 = n2 := by rw [eN2, hx2, nI_cl (by omega)]
  subst hN2
  have k8 : s_K S8 W = 9 := by rw [e8]; exact k7
  have G8 : FRM (fun y => y = W) no_ S7 S8 := by rw [e8]; exact FRM.refl.sR (Or.inr (Or.inl rfl)) (by decide) (by decide)
  have A8 : AL S7 → AL S8 := fun h => by rw [e8]; exact AL_sR h (by decide) (by decide) (by decide)
  have r8 : s_R S8 256 W = some q4 ∧ s_R S8 258 W = some q1 ∧ s_R S8 259 W = some q2 ∧ s_R S8 260 W = some q3 := by
    rw [e8]; exact ⟨sR_s, (sR_o (fun z => absurd z.1 (by decide))).trans r7.1, (sR_o (fun z => absurd z.1 (by decide))).trans r7.2.1, (sR_o (fun z => absurd z.1 (by decide))).trans r7.2.2⟩
  clear e8
  refine ⟨vp_nn (ls_vp (m := N2 + 1) (by omega) (by omega) |> fun h => hx2 ▸ h), by omega, by omega, by omega, fun q5 t2 i2 f5 j2 S9 e9 => ?_⟩
  have G9 : FRM no_ no_ S8 S9 := by rw [e9]; exact FRM.refl.mna f5 j2
  have A9 : AL S8 → AL S9 := fun h => by rw [e9]; exact AL_mna h f5 j2
  have o6 : OA S9 q5 N2 t2 := by rw [e9]; exact OA_mna
  have o7 : ∀ i, i < N2 → OB S9 (t2 i) 22 := fun i hi => by rw [e9]; exact OB_mna hi (j2 i hi).2
  clear e9
  have k8' : s_K S8 W ≠ 0 := by rw [k8]; decide
  have k9 : s_K S9 W = 9 := (G9.2 W k8').1.trans k8
  refine ⟨k9, fun S10 e10 => ?_⟩
  have GA : FRM (fun y => y = W) no_ S9 S10 := by rw [e10]; exact FRM.refl.sR (Or.inr (Or.inl rfl)) (by decide) (by decide)
  have A10 : AL S9 → AL S10 := fun h => by rw [e10]; exact AL_sR h (by decide) (by decide) (by decide)
  have rA : s_R S10 256 W = some q4 ∧ s_R S10 257 W = some q5 ∧ s_R S10 258 W = some q1 ∧ s_R S10 259 W = some q2 ∧ s_R S10 260 W = some q3 := by
    rw [e10]
    exact ⟨(sR_o (fun z => absurd z.1 (by decide))).trans ((G9.R k8').trans r8.1), sR_s, (sR_o (fun z => absurd z.1 (by decide))).trans ((G9.R k8').trans r8.2.1), (sR_o (fun z => absurd z.1 (by decide))).trans ((G9.R k8').trans r8.2.2.1), (sR_o (fun z => absurd z.1 (by decide))).trans ((G9.R k8').trans r8.2.2.2)⟩
  have kA : s_K S10 W = 9 := by rw [e10]; exact k9
  clear e10
  -- frames to the end
  have up : ∀ {Sa Sb Sc : sT}, FRM no_ no_ Sa Sb → FRM (fun y => y = W) no_ Sb Sc → FRM (fun y => y = W) no_ Sa Sc := fun h h2 => (h.mono (fun _ _ z => False.elim z)).trans h2 (fun _ _ z => z) (fun _ _ z => z)
  have uq : ∀ {Sa Sb Sc : sT}, FRM (fun y => y = W) no_ Sa Sb → FRM (fun y => y = W) no_ Sb Sc → FRM (fun y => y = W) no_ Sa Sc := fun h h2 => h.trans h2 (fun _ _ z => z) (fun _ _ z => z)
  have T9 := GA
  have T8 := up G9 T9
  have T7 := uq G8 T8
  have T6 := up G7 T7
  have T5 := uq G6 T6
  have T4 := up G5 T5
  have T3 := uq G4 T4
  have T2 := up G3 T3
  have T1 := uq G2 T2
  have T0 := up G1 T1
  have U2 := up G1 G2
  have U4 := uq U2 (up G3 G4)
  have U6 := uq U4 (up G5 G6)
  have U8 := uq U6 (up G7 G8)
  have w1 : q1 ≠ W := fun z => by have := f1.1; rw [z, hk] at this; cases this
  have w2 : q2 ≠ W := fun z => by have := f2.1; rw [z, k2] at this; cases this
  have w3 : q3 ≠ W := fun z => by have := f3.1; rw [z, k4] at this; cases this
  have w4 : q4 ≠ W := fun z => by have := f4.1; rw [z, k6] at this; cases this
  have w5 : q5 ≠ W := fun z => by have := f5.1; rw [z, k8] at this; cases this
  have w6 : ∀ i, i < N1 → t1 i ≠ W := fun i hi z => by have := (j1 i hi).1.1; rw [z, k6] at this; cases this
  have w7 : ∀ i, i < N2 → t2 i ≠ W := fun i hi z => by have := (j2 i hi).1.1; rw [z, k8] at this; cases this
  have p1 := o1.F T1 w1
  have p2 := o2.F T3 w2
  have p3 := o3.F T5 w3
  have p4 := o4.F T7 w4
  have p5 : ∀ i, i < N1 → OB S10 (t1 i) 10 := fun i hi => (o5 i hi).F T7 (w6 i hi)
  have p6 := o6.F T9 w5
  have p7 : ∀ i, i < N2 → OB S10 (t2 i) 22 := fun i hi => (o7 i hi).F T9 (w7 i hi)
  -- kinds before
  have z1 : s_K S q1 = 0 := f1.1
  have z2 : s_K S q2 = 0 := U2.fz f2.1
  have z3 : s_K S q3 = 0 := U4.fz f3.1
  have z4 : s_K S q4 = 0 := U6.fz f4.1
  have z5 : ∀ i, i < N1 → s_K S (t1 i) = 0 := fun i hi => U6.fz (j1 i hi).1.1
  have z6 : s_K S q5 = 0 := U8.fz f5.1
  have z7 : ∀ i, i < N2 → s_K S (t2 i) = 0 := fun i hi => U8.fz (j2 i hi).1.1
  -- what is another
  have a2 : OB S2 q1 11 := o1.F G2 w1
  have a4 : OB S4 q1 11 := a2.F (up G3 G4) w1
  have b4 : OB S4 q2 12 := o2.F G4 w2
  have a6 : OB S6 q1 11 := a4.F (up G5 G6) w1
  have b6 : OB S6 q2 12 := b4.F (up G5 G6) w2
  have c6 : OB S6 q3 12 := o3.F G6 w3
  have a8 : OB S8 q1 11 := a6.F (up G7 G8) w1
  have b8 : OB S8 q2 12 := b6.F (up G7 G8) w2
  have c8 : OB S8 q3 12 := c6.F (up G7 G8) w3
  have d8 : ∀ i, i < N1 → OB S8 (t1 i) 10 := fun i hi => (o5 i hi).F G8 (w6 i hi)
  have ne : ∀ {Sx : sT} {y z m : Nat}, OB Sx y m → s_K Sx z = 0 → y ≠ z := fun h1 h2 e => by rw [← e, h1.1] at h2; cases h2
  have v12 := ne a2 f2.1
  have v13 := ne a4 f3.1
  have v23 := ne b4 f3.1
  have v14 : ∀ i, i < N1 → q1 ≠ t1 i := fun i hi => ne a6 (j1 i hi).1.1
  have v24 : ∀ i, i < N1 → q2 ≠ t1 i := fun i hi => ne b6 (j1 i hi).1.1
  have v34 : ∀ i, i < N1 → q3 ≠ t1 i := fun i hi => ne c6 (j1 i hi).1.1
  have v15 : ∀ i, i < N2 → q1 ≠ t2 i := fun i hi => ne a8 (j2 i hi).1.1
  have v25 : ∀ i, i < N2 → q2 ≠ t2 i := fun i hi => ne b8 (j2 i hi).1.1
  have v35 : ∀ i, i < N2 → q3 ≠ t2 i := fun i hi => ne c8 (j2 i hi).1.1
  have v45 : ∀ i, i < N1 → ∀ j, j < N2 → t1 i ≠ t2 j := fun i hi j hj => ne (d8 i hi) (j2 j hj).1.1
  refine hQ S10 (nX W q1 q2 q3 q4 q5 t1 t2) T0 (fun h => A10 (A9 (A8 (A7 (A6 (A5 (A4 (A3 (A2 (A1 h)))))))))) rfl ?_ ⟨⟨h1, h2⟩, ?_, ⟨kA, rA.1, rA.2.1, rA.2.2.1, rA.2.2.2.1, rA.2.2.2.2⟩, ⟨p4.1, p4.2.1, p6.1, p6.2.1⟩, fun i hi => ⟨p4.2.2 i hi, (p5 i hi).1, (p5 i hi).2.1⟩, fun i hi => ⟨p6.2.2 i hi, (p7 i hi).1, (p7 i hi).2.1⟩, ⟨p1.1, p1.2.1, p2.1, p2.2.1, p3.1, p3.2.1⟩, fun z => False.elim z⟩ ⟨fun k hk c _ => (p7 k hk).2.2 c, fun i hi c _ => (p5 i hi).2.2 c, fun c _ => p1.2.2 c, fun k _ => p2.2.2 k, fun k _ => p3.2.2 k⟩
  · rintro f k ((⟨rfl, hk⟩ | ⟨rfl, hk⟩ | ⟨l1, l2, rfl⟩) | ⟨rfl | rfl, rfl⟩)
    · exact z5 k hk
    · exact z7 k hk
    · rcases (show f = 6 ∨ f = 7 ∨ f = 8 by omega) with rfl | rfl | rfl
      · exact z1
      · exact z2
      · exact z3
    · exact z4
    · exact z6
  · have sy : ∀ f k g j, r_ok (N1, N2, False) f k → r_ok (N1, N2, False) g j → f ≤ g → nX W q1 q2 q3 q4 q5 t1 t2 f k = nX W q1 q2 q3 q4 q5 t1 t2 g j → f = g ∧ k = j := by
      intro f k g j hf hg hfg he
      rcases hf with ⟨rfl, hk⟩ | ⟨rfl, hk⟩ | ⟨l1, l2, rfl⟩ <;> rcases hg with ⟨rfl, hj⟩ | ⟨rfl, hj⟩ | ⟨l3, l4, rfl⟩
      · exact ⟨rfl, i1 k j hk hj he⟩
      · exact absurd he (v45 k hk j hj)
      · rcases (show g = 6 ∨ g = 7 ∨ g = 8 by omega) with rfl | rfl | rfl
        · exact absurd he.symm (v14 k hk)
        · exact absurd he.symm (v24 k hk)
        · exact absurd he.symm (v34 k hk)
      · omega
      · exact ⟨rfl, i2 k j hk hj he⟩
      · rcases (show g = 6 ∨ g = 7 ∨ g = 8 by omega) with rfl | rfl | rfl
        · exact absurd he.symm (v15 k hk)
        · exact absurd he.symm (v25 k hk)
        · exact absurd he.symm (v35 k hk)
      · omega
      · omega
      · rcases (show f = 6 ∨ f = 7 ∨ f = 8 by omega) with rfl | rfl | rfl <;> rcases (show g = 6 ∨ g = 7 ∨ g = 8 by omega) with rfl | rfl | rfl
        · exact ⟨rfl, rfl⟩
        · exact absurd he v12
        · exact absurd he v13
        · omega
        · exact ⟨rfl, rfl⟩
        · exact absurd he v23
        · omega
        · omega
        · exact ⟨rfl, rfl⟩
    intro f k g j hf hg he
    rcases Nat.le_total f g with h | h
    · exact sy f k g j hf hg h he
    · obtain ⟨e1, e2⟩ := sy g j f k hg hf h he.symm
      exact ⟨e1.symm, e2.symm⟩
end
