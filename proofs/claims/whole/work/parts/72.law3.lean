/-! ===== the law's helper of meanDepth; the law's comparing of yes or no, of doubles ===== -/
section
variable {x1 x2 x3 x4 : Nat} {E : eT} {n : Nat} {S : sT} {a b d : Int32}
def AFTd (x1 x2 x3 x4 : Nat) (E : eT) (n : Nat) (wR : sT → (UInt64 → sT → Prop) → Prop) (r : Int32) (S1 : sT) : Prop := s_K S1 x2 = 10 ∧
  ((r = 0 ∧ ∃ v : UInt64, ∀ Q : UInt64 → sT → Prop, (∀ S3, LW x1 x2 x3 x4 E n S3 → s_K S3 x2 = 10 → s_I S3 288 x2 = r → s_K S3 x4 = 15 → s_N S3 x4 = 1 → s_D S3 x4 0 = v → Q v S3) → wR S1 Q) ∨
   (r ≠ 0 ∧ ∃ u : UInt64, ∀ Q : UInt64 → sT → Prop, (∀ S3, LW x1 x2 x3 x4 E n S3 → s_K S3 x2 = 10 → s_I S3 288 x2 = r → Q u S3) → wR S1 Q))
theorem L_meanDepth {Q : Int32 → sT → Prop} (hW : LW x1 x2 x3 x4 E n S) (hQ : ∀ r S1, AFTd x1 x2 x3 x4 E (n + 1) (w_X8_meanDepth x2 a) r S1 → Q r S1) : wA_L_meanDepth 1 6 x1 a x4 S Q := by
  have hK := LW_K1 hW
  obtain ⟨H, X, Z, N, e1, e2, ⟨hC, hR, hO⟩, hI⟩ := hW
  unfold wA_L_meanDepth wA_L_meanDepth_b0
  refine ⟨hK, ?_⟩
  rcases m_meanDepth (x1 := a) (F := fF E) hI rfl rfl with ⟨v, Z', N', b1, b2, b3, b4⟩ | ⟨c, ex, u, N', b0, b1, b2, b3, b4⟩
  · refine Or.inl ?_
    rw [e1]
    refine u_X6_meanDepth (P := fun S => RC X (fF E) S N ∧ OK x3 x4 H E S) (Q' := fun x z => x = v ∧ z = Z') st_c (fun x S1 z hc hp e => ?_) hC ⟨hR, hO⟩ (b1 _ ⟨rfl, rfl⟩)
    obtain ⟨r1, r2⟩ := e
    subst r1 r2
    refine ⟨hp.2.2.2.2.1, vp_in01 hp.2.2.2.2.2.1, fun S2 f2 => ?_⟩
    have g2 : LX x3 x4 H X E S2 z N := by rw [f2]; exact ⟨hc, hp⟩
    have d2 : s_D S2 x4 0 = x := by rw [f2]; exact if_pos ⟨rfl, rfl⟩
    refine hQ 0 S2 ⟨by rw [e2]; exact rK_Mod g2.2.1 trivial, Or.inl ⟨rfl, x, fun Q2 hq2 => ?_⟩⟩
    rw [e2]
    refine u_X8_meanDepth (P := fun S => CC H E S z ∧ OK x3 x4 H E S ∧ s_G S x3 0 = s_G S2 x3 0 ∧ s_D S x4 0 = x) (Q' := fun y w => y = x ∧ w = N') st_r trivial (fun y S3 w hc3 hp3 e => ?_) g2.2.1 ⟨g2.1, g2.2.2, rfl, d2⟩ (b2 _ ⟨rfl, rfl⟩)
    obtain ⟨r1, r2⟩ := e
    subst r1 r2
    exact hq2 S3 ⟨H, X, z, w, e1, e2, ⟨hp3.1, hc3, hp3.2.1⟩, LJ_mono b4 (Nat.le_succ n)⟩ (by rw [e2]; exact rK_Mod hc3 trivial) (by rw [e2, rI_80 hc3 trivial, b3]) hp3.2.1.2.2.2.1 hp3.2.1.2.2.2.2.1 hp3.2.2.2
  · refine Or.inr ⟨Nat.le_refl _, Nat.le_refl _, ?_⟩
    rw [e1]
    refine uT_X6_meanDepth (P := fun S => RC X (fF E) S N ∧ OK x3 x4 H E S) (Q' := fun x z => x = ex ∧ z = Z) st_c (fun x S1 z hc hp e => ?_) hC ⟨hR, hO⟩ (b1 _ ⟨rfl, rfl⟩)
    obtain ⟨r1, r2⟩ := e
    subst r1 r2
    refine ex1 b0 (hQ _ _ ⟨by rw [e2]; exact rK_Mod hp.1 trivial, Or.inr ⟨nI_nz4 ?_, u, fun Q2 hq2 => ?_⟩⟩)
    · have := (List.getElem?_eq_some_iff.mp b0).1
      have l1 : [xI].length = 1 := rfl
      omega
    rw [e2]
    refine u_X8_meanDepth (P := fun S => CC H E S z ∧ OK x3 x4 H E S ∧ s_G S x3 0 = s_G S1 x3 0 ∧ s_D S x4 0 = s_D S1 x4 0) (Q' := fun y w => y = u ∧ w = N') st_r trivial (fun y S3 w hc3 hp3 e => ?_) hp.1 ⟨hc, hp.2, rfl, rfl⟩ (b2 _ ⟨rfl, rfl⟩)
    obtain ⟨r1, r2⟩ := e
    subst r1 r2
    exact hq2 S3 ⟨H, X, z, w, e1, e2, ⟨hp3.1, hc3, hp3.2.1⟩, LJ_mono b4 (Nat.le_succ n)⟩ (by rw [e2]; exact rK_Mod hc3 trivial) (by rw [e2, rI_80 hc3 trivial, b3])
/-- the law's comparing of a yes or no -/
theorem fin_b {wR : sT → (Int32 → sT → Prop) → Prop} {r : Int32} {K : sT → Prop} (hA : AFT x1 x2 x3 x4 E n b64 wR r S) (hK : ∀ S3, LW x1 x2 x3 x4 E n S3 → K S3) :
    s_K S x2 = 10 ∧ wR S (fun v S2 => s_K S2 x2 = 10 ∧ w_X8_thrown x2 S2 (fun t S3 => ((t = r → ((¬ r = 0 → K S3) ∧ (r = 0 → s_K S3 x3 = 14 ∧ vp_in (0 : Int32) (s_N S3 x3) ∧ ∀ j : Int64, j = s_G S3 x3 (Int32.toNatClampNeg (0 : Int32)) → ((v = 0 → ∀ x : Int32, x = lg_cmp j 0 → ((x = 0 → K S3) ∧ (¬ x = 0 → False))) ∧ (¬ v = 0 → ∀ x : Int32, x = lg_cmp j 1 → ((x = 0 → K S3) ∧ (¬ x = 0 → False))))))) ∧ (¬ t = r → False)))) := by
  obtain ⟨h0, ⟨hr, v, h⟩ | ⟨hr, u, h⟩⟩ := hA
  · refine ⟨h0, h _ (fun S3 hW hk hi h3 hn hg => ⟨hk, hk, fun t et => ?_⟩)⟩
    rw [hi] at et
    subst hr
    refine ⟨fun _ => ⟨fun c => absurd rfl c, fun _ => ⟨h3, vp_in01 hn, fun j ej => ⟨fun z x ex => ?_, fun z x ex => ?_⟩⟩⟩, fun c => absurd et c⟩
    · have e1 : j = 0 := ej.trans (hg.trans (if_pos z))
      have e2 : x = 0 := by rw [ex, e1]; exact (lg_cmp_eq _ _).mpr rfl
      exact ⟨fun _ => hK S3 hW, fun c => absurd e2 c⟩
    · have e1 : j = 1 := ej.trans (hg.trans (if_neg z))
      have e2 : x = 0 := by rw [ex, e1]; exact (lg_cmp_eq _ _).mpr rfl
      exact ⟨fun _ => hK S3 hW, fun c => absurd e2 c⟩
  · refine ⟨h0, h _ (fun S3 hW hk hi => ⟨hk, hk, fun t et => ?_⟩)⟩
    rw [hi] at et
    exact ⟨fun _ => ⟨fun _ => hK S3 hW, fun c => absurd c hr⟩, fun c => absurd et c⟩
end
