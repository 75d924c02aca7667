/-! ===== the law's helpers: a new society, a new field ===== -/
section
variable {x1 x2 x3 x4 : Nat} {E : eT} {n : Nat} {S S' : sT} {a b c d v : Int32}
theorem isw01 {x lo hi : Int32} : isw x lo hi = 0 ∨ isw x lo hi = 1 := by
  unfold isw
  by_cases h : x < lo
  · rw [if_pos h]; exact Or.inl rfl
  · rw [if_neg h]
    by_cases h2 : hi < x
    · rw [if_pos h2]; exact Or.inl rfl
    · rw [if_neg h2]; exact Or.inr rfl
theorem LW_80 (h : LW x1 x2 x3 x4 E n S) (e : S' = s_sI S 288 x2 v) : LW x1 x2 x3 x4 E n S' ∧ s_I S' 288 x2 = v ∧ s_K S' x2 = 10 := by
  obtain ⟨H, X, Z, N, e1, e2, ⟨hC, hR, hO⟩, hI⟩ := h
  have hk : s_K S x2 = 10 := by rw [e2]; exact rK_Mod hR trivial
  refine ⟨⟨H, X, Z, s_up2 N 80 0 v, e1, e2, ⟨?_, wI_80 hR trivial (by rw [e, e2]) rfl, ?_⟩, LJ_80 hI⟩, by rw [e]; exact sI_s, by rw [e]; exact hk⟩
  · rw [e]; exact CC_s288 hC
  · rw [e]; exact hO
theorem LW_K2 (h : LW x1 x2 x3 x4 E n S) : s_K S x2 = 10 := by
  obtain ⟨H, X, Z, N, e1, e2, ⟨hC, hR, hO⟩, hI⟩ := h
  rw [e2]; exact rK_Mod hR trivial
/-- a call that the model refuses with the law's code -/
theorem AFT_no {cv : Int32 → Int64} {wR : sT → (Int32 → sT → Prop) → Prop} {r : Int32} (hW : LW x1 x2 x3 x4 E n S) (hr : r ≠ 0) (h : ∀ Q : Int32 → sT → Prop, (∀ S1 S2, S1 = s_sI S 288 x2 0 → S2 = s_sI S1 288 x2 r → Q 0 S2) → wR S Q) : AFT x1 x2 x3 x4 E n cv wR r S :=
  ⟨LW_K2 hW, Or.inr ⟨hr, 0, fun Q hq => h Q (fun S1 S2 e1 e2 => by
    obtain ⟨g1, -, -⟩ := LW_80 hW e1
    obtain ⟨g2, g3, g4⟩ := LW_80 g1 e2
    exact hq S2 g2 g4 g3)⟩⟩
theorem w_ref {Q : Int32 → sT → Prop} (hk : s_K S x2 = 10) (h : ∀ S', S' = s_sI S 288 x2 v → Q 0 S') : w_X8_refuse x2 v S Q := by
  unfold w_X8_refuse w_X8_refuse_b0
  exact ⟨hk, h⟩
/-- the shape after a call -/
def GR (E E' : eT) : Prop := E' = E ∨ (E'.1 = E.1 + 1 ∧ E'.2.1 = E.2.1) ∨ (E'.1 = E.1 ∧ E'.2.1 = E.2.1 + 1)
theorem OK_keepC {H H' : Nat → Nat → Nat → Nat} {E' : eT} {T : Nat → Prop} (h : OK x3 x4 H E S) (F : FRM (kD S) T S S') (hA : AL S') (hL : LD H' E') : OK x3 x4 H' E' S' := by
  obtain ⟨h1, h2, h3, h4, h5, h6⟩ := h
  have g3 := F.ar h2 (by decide) (nD_k x3 (by omega))
  have g4 := F.ar h4 (by decide) (nD_k x4 (by omega))
  exact ⟨hA, g3.1, g3.2.1.trans h3, g4.1, g4.2.1.trans h5, hL⟩
theorem L_society {Q : Int32 → sT → Prop} (hW : LW x1 x2 x3 x4 E n S) (hQ : ∀ r S1 E', GR E E' → AFT x1 x2 x3 x4 E' (n + 1) Int32.toInt64 (wA_X8_society 21 349 x2 a b c d) r S1 → Q r S1) : wA_L_society 6 60 x1 a b c d x3 S Q := by
  have hK := LW_K1 hW
  have hK2 := LW_K2 hW
  have hW1 := LW_mono hW (Nat.le_succ n)
  obtain ⟨H, X, Z, N, e1, e2, ⟨hC, hR, hO⟩, hI⟩ := hW
  have h3 : E.1 ≤ 3 := hR.1.1.1
  have h12 : E.2.1 ≤ 12 := hR.1.1.2
  obtain ⟨⟨-, ⟨m1, m2, m3⟩, hh⟩, -, -⟩ := id hC
  obtain ⟨⟨a1, a2, -, -, -, a6, -⟩, -, -⟩ := hh 0 (by decide)
  obtain ⟨c1, c2⟩ := hR.1.2.2.2.2.2.2.2 trivial
  obtain ⟨-, -, ⟨d1, d2, -⟩, ⟨d3, d4, -⟩, -⟩ := id hR.1
  unfold wA_L_society wA_L_society_b0
  refine ⟨hK, ?_⟩
  -- refused as an argument
  have bad : (isw a 1 9 = 0 ∨ isw b 0 50 = 0 ∨ isw c 0 209 = 0 ∨ isw d 1 210 = 0) → (0 + 1 ≤ 6 ∧ 0 + 6 ≤ 60 ∧ wT_X6_society x1 a b c d S (fun E9 S108 => (E9 = "java/lang/IllegalArgumentException" → Q (1 : Int32) S108) ∧ (E9 = "java/lang/IllegalStateException" → Q (2 : Int32) S108) ∧ (E9 = "java/lang/IllegalArgumentException" ∨ E9 = "java/lang/IllegalStateException"))) := by
    intro hb
    have fin : (xA = "java/lang/IllegalArgumentException" → Q (1 : Int32) S) ∧ (xA = "java/lang/IllegalStateException" → Q (2 : Int32) S) ∧ (xA = "java/lang/IllegalArgumentException" ∨ xA = "java/lang/IllegalStateException") := by
      refine ⟨fun _ => hQ 1 S E (Or.inl rfl) (AFT_no hW1 (by decide) (fun Q2 hq2 => ?_)), fun z => absurd z (by decide), Or.inl rfl⟩
      unfold wA_X8_society wA_X8_society_b0
      refine ⟨hK2, fun S1 f1 => ?_⟩
      have k1 : s_K S1 x2 = 10 := by rw [f1]; exact hK2
      have rf : wA_X8_society_b48 21 349 0 0 x2 S1 Q2 := by
        unfold wA_X8_society_b48
        exact ⟨k1, w_ref k1 (fun S2 f2 => hq2 S1 S2 f1 f2)⟩
      rw [w_is8]
      refine ⟨fun _ => rf, fun y1 => ?_⟩
      rw [w_is8]
      refine ⟨fun _ => rf, fun y2 => ?_⟩
      rw [w_is8]
      refine ⟨fun _ => rf, fun y3 => ?_⟩
      rw [w_is8]
      refine ⟨fun y4 => ?_, fun _ => rf⟩
      exact absurd hb (fun z => z.elim y1 (fun z => z.elim y2 (fun z => z.elim y3 y4)))
    refine ⟨by decide, by decide, ?_⟩
    unfold wT_X6_society wT_X6_society_b0 wT_X6_society_b43
    rw [w_isw]
    refine ⟨fun _ => fin, fun y1 => ?_⟩
    rw [w_isw]
    refine ⟨fun _ => fin, fun y2 => ?_⟩
    rw [w_isw]
    refine ⟨fun _ => fin, fun y3 => ?_⟩
    rw [w_isw]
    refine ⟨fun y4 => ?_, fun _ => fin⟩
    exact absurd hb (fun z => z.elim y1 (fun z => z.elim y2 (fun z => z.elim y3 y4)))
  rcases isw01 (x := a) (lo := 1) (hi := 9) with g1 | g1
  · exact Or.inr (bad (Or.inl g1))
  rcases isw01 (x := b) (lo := 0) (hi := 50) with g2 | g2
  · exact Or.inr (bad (Or.inr (Or.inl g2)))
  rcases isw01 (x := c) (lo := 0) (hi := 209) with g3 | g3
  · exact Or.inr (bad (Or.inr (Or.inr (Or.inl g3))))
  rcases isw01 (x := d) (lo := 1) (hi := 210) with g4 | g4
  · exact Or.inr (bad (Or.inr (Or.inr (Or.inr g4))))
  by_cases hn : E.1 < 3
  · refine Or.inl ⟨6, 60, by decide, by decide, ?_⟩
    rw [e1]
    refine cs_society hC hO.1 hO.2.2.2.2.2 hn g1 g2 g3 g4 (by decide) (by decide) (fun S1 H' F A C' L' e9 => ?_)
    have hR1 := RC_keep hR F nD_k
    have hO1 := OK_keepC hO F A L'
    intro j ej
    refine ⟨hO1.2.1, vp_in01 hO1.2.2.1, fun S2 f2 => ?_⟩
    have C2 : CC H' (E.1 + 1, E.2.1, E.2.2) S2 (fun w => zS E.1 (soc0 (nI E.1) a b c d) (Z w)) := by rw [f2]; exact C'
    have R2 : RC X (fF E) S2 N := by rw [f2]; exact hR1
    have O2 : OK x3 x4 H' (E.1 + 1, E.2.1, E.2.2) S2 := by rw [f2]; exact hO1
    have j2 : s_G S2 x3 0 = Int32.toInt64 (nI E.1) := by rw [f2, ej]; exact if_pos ⟨rfl, rfl⟩
    clear f2
    refine hQ 0 S2 (E.1 + 1, E.2.1, E.2.2) (Or.inr (Or.inl ⟨rfl, rfl⟩)) ⟨by rw [e2]; exact rK_Mod R2 trivial, Or.inl ⟨rfl, nI E.1, fun Q2 hq2 => ?_⟩⟩
    rw [e2]
    refine r8_society R2 hn g1 g2 g3 g4 (by omega) (by omega) (fun S3 X' F3 A3 R3 u0 => ?_)
    have mdd : mD (fun y => y = X 0 0) S2 := fun y _ z => Or.inl (by rw [z]; exact rK_Mod R2 trivial)
    have C3 := CC_keepM C2 F3 mdd
    have O3 := OK_keepM O2 F3 mdd A3
    have G3 := G_keepM O2.2.1 j2 F3 mdd
    have R3' := RC_soc R3
    refine hq2 S3 ⟨H', X', _, _, e1.trans e9.symm, e2.trans u0.symm, ⟨C3, R3', O3⟩, LJ_mono (LI_soc hI hn g1 g2 g3 g4) (Nat.le_succ n)⟩ ?_ ?_ O3.2.1 O3.2.2.1 G3
    · rw [e2, ← u0]; exact rK_Mod R3' trivial
    · rw [e2, ← u0, rI_80 R3' trivial]
      rw [zS_o (by omega)]
      exact if_pos (Or.inl rfl)
  · have h3' : E.1 = 3 := by omega
    refine Or.inr ⟨by decide, by decide, ?_⟩
    unfold wT_X6_society wT_X6_society_b0
    rw [w_isw, g1]
    refine ⟨fun z => absurd z (by decide), fun _ => ?_⟩
    rw [w_isw, g2]
    refine ⟨fun z => absurd z (by decide), fun _ => ?_⟩
    rw [w_isw, g3]
    refine ⟨fun z => absurd z (by decide), fun _ => ?_⟩
    rw [w_isw, g4]
    have l3 : ¬ nI E.1 < (3 : Int32) := by rw [h3']; decide
    rw [e1]
    refine ⟨fun _ => ⟨m1, H 0 0 0, m2, a1, H 0 1 0, a2, a6.1, us_size a6 ⟨fun z => absurd z l3, fun _ => ?_⟩⟩, fun z => absurd z (by decide)⟩
    refine ⟨fun z => absurd z (by decide), fun _ => hQ 2 S E (Or.inl rfl) (AFT_no hW1 (by decide) (fun Q2 hq2 => ?_)), Or.inr rfl⟩
    unfold wA_X8_society wA_X8_society_b0
    refine ⟨hK2, fun S1 f1 => ?_⟩
    have k1 : s_K S1 x2 = 10 := by rw [f1]; exact hK2
    rw [w_is8, g1]
    refine ⟨fun z => absurd z (by decide), fun _ => ?_⟩
    rw [w_is8, g2]
    refine ⟨fun z => absurd z (by decide), fun _ => ?_⟩
    rw [w_is8, g3]
    refine ⟨fun z => absurd z (by decide), fun _ => ?_⟩
    rw [w_is8, g4]
    refine ⟨fun _ => ⟨k1, X 1 0, by rw [f1, e2]; exact c2, by rw [f1]; exact d1, X 2 0, by rw [f1]; exact d2, by rw [f1]; exact d3, fun y ey => ⟨fun z => absurd ?_ z, fun _ => w_ref k1 (fun S2 f2 => hq2 S1 S2 f1 f2)⟩⟩, fun z => absurd z (by decide)⟩
    rw [ey, f1]
    show nI (s_N S (X 2 0)) = 3
    rw [d4]
    show nI E.1 = 3
    rw [h3']; rfl
end
