/-! ===== the law's helper: a new field ===== -/
section
variable {x1 x2 x3 x4 : Nat} {E : eT} {n : Nat} {S S' : sT} {a b d v : Int32}
theorem L_field {Q : Int32 → sT → Prop} (hW : LW x1 x2 x3 x4 E n S) (hQ : ∀ r S1 E', GR E E' → AFT x1 x2 x3 x4 E' (n + 1) Int32.toInt64 (wA_X8_field 21 349 x2 a b d) r S1 → Q r S1) : wA_L_field 10 116 x1 a b d x3 S Q := by
  have hK := LW_K1 hW
  have hK2 := LW_K2 hW
  have hW1 := LW_mono hW (Nat.le_succ n)
  obtain ⟨H, X, Z, N, e1, e2, ⟨hC, hR, hO⟩, hI⟩ := hW
  have h3 : E.1 ≤ 3 := hR.1.1.1
  have h12 : E.2.1 ≤ 12 := hR.1.1.2
  obtain ⟨⟨-, ⟨m1, m2, m3⟩, hh⟩, -, -⟩ := id hC
  obtain ⟨⟨a1, a2, a3, -, -, a6, a7⟩, -, -⟩ := hh 0 (by decide)
  obtain ⟨c1, c2⟩ := hR.1.2.2.2.2.2.2.2 trivial
  obtain ⟨-, -, ⟨d1, d2, d5, -⟩, ⟨d3, d4, d6, d7⟩, -⟩ := id hR.1
  have hs := isw_n (x1 := a) (m := E.1) (by omega)
  unfold wA_L_field wA_L_field_b0
  refine ⟨hK, ?_⟩
  have RS1 : ∀ S1 : sT, S1 = s_sI S 288 x2 0 → RS X (fF E) S1 ∧ s_K S1 x2 = 10 := fun S1 f1 => by rw [f1]; exact ⟨hR.1, hK2⟩
  by_cases hv : vp_in a E.1
  · have g1 := hs.1 hv
    have bad : (isw b 1 9 = 0 ∨ isw d 5 60 = 0) → (0 + 1 ≤ 10 ∧ 0 + 6 ≤ 116 ∧ wT_X6_field x1 a b d S (fun E9 S108 => (E9 = "java/lang/IndexOutOfBoundsException" → Q (1 : Int32) S108) ∧ (E9 = "java/lang/IllegalArgumentException" → Q (2 : Int32) S108) ∧ (E9 = "java/lang/IllegalStateException" → Q (3 : Int32) S108) ∧ (E9 = "java/lang/IndexOutOfBoundsException" ∨ E9 = "java/lang/IllegalArgumentException" ∨ E9 = "java/lang/IllegalStateException"))) := by
      intro hb
      have fin : (xA = "java/lang/IndexOutOfBoundsException" → Q (1 : Int32) S) ∧ (xA = "java/lang/IllegalArgumentException" → Q (2 : Int32) S) ∧ (xA = "java/lang/IllegalStateException" → Q (3 : Int32) S) ∧ (xA = "java/lang/IndexOutOfBoundsException" ∨ xA = "java/lang/IllegalArgumentException" ∨ xA = "java/lang/IllegalStateException") := by
        refine ⟨fun z => absurd z (by decide), fun _ => hQ 2 S E (Or.inl rfl) (AFT_no hW1 (by decide) (fun Q2 hq2 => ?_)), fun z => absurd z (by decide), Or.inr (Or.inl rfl)⟩
        unfold wA_X8_field wA_X8_field_b0
        refine ⟨hK2, fun S1 f1 => ?_⟩
        obtain ⟨rs, k1⟩ := RS1 S1 f1
        have rf : wA_X8_field_b39 21 349 0 0 x2 S1 Q2 := by
          unfold wA_X8_field_b39
          exact ⟨k1, w_ref k1 (fun S2 f2 => hq2 S1 S2 f1 f2)⟩
        rw [e2]
        refine w_isS rs h3 ?_
        rw [g1, ← e2]
        refine ⟨fun _ => ?_, fun z => absurd z (by decide)⟩
        rw [w_is8]
        refine ⟨fun _ => rf, fun y2 => ?_⟩
        rw [w_is8]
        refine ⟨fun y3 => ?_, fun _ => rf⟩
        exact absurd hb (fun z => z.elim y2 y3)
      refine ⟨by decide, by decide, ?_⟩
      unfold wT_X6_field wT_X6_field_b0 wT_X6_field_b26
      rw [e1]
      refine ⟨m1, Or.inl (w_socAt hC hv ?_)⟩
      rw [w_isw]
      refine ⟨fun _ => fin, fun y2 => ?_⟩
      rw [w_isw]
      refine ⟨fun y3 => ?_, fun _ => fin⟩
      exact absurd hb (fun z => z.elim y2 y3)
    rcases isw01 (x := b) (lo := 1) (hi := 9) with g2 | g2
    · exact Or.inr (bad (Or.inl g2))
    rcases isw01 (x := d) (lo := 5) (hi := 60) with g3 | g3
    · exact Or.inr (bad (Or.inr g3))
    by_cases hn : E.2.1 < 12
    · refine Or.inl ⟨10, 116, by decide, by decide, ?_⟩
      rw [e1]
      refine cs_field hC hO.1 hO.2.2.2.2.2 hn hv g2 g3 (by decide) (by decide) (fun S1 H' F A C' L' e9 => ?_)
      have hR1 := RC_keep hR F nD_k
      have hO1 := OK_keepC hO F A L'
      intro j ej
      refine ⟨hO1.2.1, vp_in01 hO1.2.2.1, fun S2 f2 => ?_⟩
      have C2 : CC H' (gE E (Int32.toNatClampNeg a)) S2 (fun w => zF E.2.1 (vF E.2.1 b d) (Z w)) := by rw [f2]; exact C'
      have R2 : RC X (fF E) S2 N := by rw [f2]; exact hR1
      have O2 : OK x3 x4 H' (gE E (Int32.toNatClampNeg a)) S2 := by rw [f2]; exact hO1
      have j2 : s_G S2 x3 0 = Int32.toInt64 (nI E.2.1) := by rw [f2, ej]; exact if_pos ⟨rfl, rfl⟩
      clear f2
      refine hQ 0 S2 (gE E (Int32.toNatClampNeg a)) (Or.inr (Or.inr ⟨rfl, rfl⟩)) ⟨by rw [e2]; exact rK_Mod R2 trivial, Or.inl ⟨rfl, nI E.2.1, fun Q2 hq2 => ?_⟩⟩
      rw [e2]
      refine r8_field (i := Int32.toNatClampNeg a) R2 hn g1 g2 g3 (by omega) (by omega) (fun S3 X' F3 A3 R3 u0 => ?_)
      have mdd : mD (fun y => y = X 0 0) S2 := fun y _ z => Or.inl (by rw [z]; exact rK_Mod R2 trivial)
      have C3 := CC_keepM C2 F3 mdd
      have O3 := OK_keepM O2 F3 mdd A3
      have G3 := G_keepM O2.2.1 j2 F3 mdd
      have R3' := RC_fld R3
      refine hq2 S3 ⟨H', X', _, _, e1.trans e9.symm, e2.trans u0.symm, ⟨C3, R3', O3⟩, LJ_mono (LI_fld hI hn (vp_lt hv) (vp_nI hv) g2 g3) (Nat.le_succ n)⟩ ?_ ?_ O3.2.1 O3.2.2.1 G3
      · rw [e2, ← u0]; exact rK_Mod R3' trivial
      · rw [e2, ← u0, rI_80 R3' trivial]
        rw [zF_o (by omega)]
        exact if_pos (Or.inl rfl)
    · have h12' : E.2.1 = 12 := by omega
      refine Or.inr ⟨by decide, by decide, ?_⟩
      unfold wT_X6_field wT_X6_field_b0
      rw [e1]
      refine ⟨m1, Or.inl (w_socAt hC hv ?_)⟩
      rw [w_isw, g2]
      refine ⟨fun z => absurd z (by decide), fun _ => ?_⟩
      rw [w_isw, g3]
      have l3 : ¬ nI E.2.1 < (12 : Int32) := by rw [h12']; decide
      refine ⟨fun _ => ⟨m1, H 0 0 0, m2, a1, H 0 2 0, a3, a7.1, us_size a7 ⟨fun z => absurd z l3, fun _ => ?_⟩⟩, fun z => absurd z (by decide)⟩
      refine ⟨fun z => absurd z (by decide), fun z => absurd z (by decide), fun _ => hQ 3 S E (Or.inl rfl) (AFT_no hW1 (by decide) (fun Q2 hq2 => ?_)), Or.inr (Or.inr rfl)⟩
      unfold wA_X8_field wA_X8_field_b0
      refine ⟨hK2, fun S1 f1 => ?_⟩
      obtain ⟨rs, k1⟩ := RS1 S1 f1
      rw [e2]
      refine w_isS rs h3 ?_
      rw [g1, ← e2]
      refine ⟨fun _ => ?_, fun z => absurd z (by decide)⟩
      rw [w_is8, g2]
      refine ⟨fun z => absurd z (by decide), fun _ => ?_⟩
      rw [w_is8, g3]
      refine ⟨fun _ => ⟨k1, X 1 0, by rw [f1, e2]; exact c2, by rw [f1]; exact d1, X 3 0, by rw [f1]; exact d5, by rw [f1]; exact d6, fun y ey => ⟨fun z => absurd ?_ z, fun _ => w_ref k1 (fun S2 f2 => hq2 S1 S2 f1 f2)⟩⟩, fun z => absurd z (by decide)⟩
      rw [ey, f1]
      show nI (s_N S (X 3 0)) = 12
      rw [d7]
      show nI E.2.1 = 12
      rw [h12']; rfl
  · have g1 := hs.2 hv
    have fin : (xI = "java/lang/IndexOutOfBoundsException" → Q (1 : Int32) S) ∧ (xI = "java/lang/IllegalArgumentException" → Q (2 : Int32) S) ∧ (xI = "java/lang/IllegalStateException" → Q (3 : Int32) S) ∧ (xI = "java/lang/IndexOutOfBoundsException" ∨ xI = "java/lang/IllegalArgumentException" ∨ xI = "java/lang/IllegalStateException") := by
      refine ⟨fun _ => hQ 1 S E (Or.inl rfl) (AFT_no hW1 (by decide) (fun Q2 hq2 => ?_)), fun z => absurd z (by decide), fun z => absurd z (by decide), Or.inl rfl⟩
      unfold wA_X8_field wA_X8_field_b0
      refine ⟨hK2, fun S1 f1 => ?_⟩
      obtain ⟨rs, k1⟩ := RS1 S1 f1
      rw [e2]
      refine w_isS rs h3 ?_
      rw [g1, ← e2]
      exact ⟨fun z => absurd rfl z, fun _ => ⟨k1, w_ref k1 (fun S2 f2 => hq2 S1 S2 f1 f2)⟩⟩
    refine Or.inr ⟨by decide, by decide, ?_⟩
    unfold wT_X6_field wT_X6_field_b0
    rw [e1]
    refine ⟨m1, Or.inr ?_⟩
    unfold wT_X6_societyAt wT_X6_societyAt_b0 wT_X6_societyAt_b18
    refine ⟨fun _ => fin, fun y1 => ⟨m1, H 0 0 0, m2, a1, H 0 1 0, a2, a6.1, us_size a6 ⟨fun y2 => absurd ?_ hv, fun _ => fin⟩⟩⟩
    intro z
    rcases z with z | z
    · exact y1 z
    · rw [Int32.lt_iff_toInt_lt, nI_toInt (by omega)] at y2
      rw [Int32.lt_iff_toInt_lt] at y1
      have e0 : (0 : Int32).toInt = 0 := rfl
      have : a.toNatClampNeg = a.toInt.toNat := rfl
      omega
end
