/-! ===== the law's beginning ===== -/
section
variable {S S' S1 : sT} {x0 : Nat}
theorem x8_init {Q : sT → Prop} {mc ms : Nat} (hA : AL S) (hk : s_K S x0 = 10) (hi : s_I S 288 x0 = 0) (hmc : 6 ≤ mc) (hms : 40 ≤ ms) (hQ : ∀ S' X, FRM (fun y => y = x0) no_ S S' → AL S' → X 0 0 = x0 → RC X (fF e00) S' (fun _ _ => 0) → Q S') : wA_X8_init mc ms x0 S Q := by
  unfold wA_X8_init wA_X8_init_b0
  refine ⟨by omega, by omega, fun W fW S1 e1 => ⟨5, 35, by omega, by omega, ?_⟩⟩
  have F1 : FRM no_ no_ S S1 := by rw [e1]; exact FRM.refl.nw fW
  have A1 : AL S1 := by rw [e1]; exact AL_nw hA fW
  have k1 : s_K S1 W = 9 := by rw [e1]; exact s_nw_K
  clear e1
  refine s7_init (n1 := 0) (n2 := 0) k1 rfl rfl (by decide) (by decide) (by decide) (by decide) (fun S2 X' F2 A2 eW hz hR hV => ?_)
  have F12 : FRM no_ no_ S S2 := F1.trans F2 (fun y hy z => hy (z ▸ fW.1)) (fun _ _ z => z)
  have g2 := F12.ob hk (by decide) (fun z => z)
  refine ⟨g2.1, fun S3 e3 => ?_⟩
  have F3 : FRM (fun y => y = x0) no_ S S3 := by rw [e3]; exact (F12.mono (fun _ _ z => False.elim z)).sR (Or.inr (Or.inl rfl)) (by decide) (by decide)
  have A3 : AL S3 := by rw [e3]; exact AL_sR (A2 A1) (by decide) (by decide) (by decide)
  have hC : RC (mX x0 X') (0, 0, True) S3 (fun c k => if c = 80 then 0 else (fun _ _ => (0 : Int32)) c k) := RC_new (v := 0) g2.1 ((g2.2.1 288).trans hi) hR hV (by rw [e3, eW])
  have e9 : (fun (c k : Nat) => if c = 80 then (0 : Int32) else (fun _ _ => (0 : Int32)) c k) = fun _ _ => 0 := by
    funext c k
    by_cases z : c = 80
    · rw [if_pos z]
    · rw [if_neg z]
  rw [e9] at hC
  exact hQ S3 (mX x0 X') F3 A3 mX_0 hC
theorem LI_00 : LI e00 0 (fun _ _ _ => 0) (fun _ _ => 0) := by
  have no : ∀ {k : Nat}, ¬ k < 0 := fun h => absurd h (Nat.not_lt_zero _)
  have e0 : (0 : Int32).toInt = 0 := rfl
  refine ⟨fun _ _ _ => rfl, fun k hk => absurd hk no, fun k hk => absurd hk no, fun k hk => absurd hk no, ?_, ⟨by decide, by decide, fun k hk => absurd hk no, fun k hk => absurd hk no⟩, fun k hk => absurd hk no, fun k hk => absurd hk no, fun k hk => absurd hk no, ⟨fun k hk => absurd hk no, fun k hk => absurd hk no⟩, ⟨?_, fun k hk => absurd hk no, fun k hk => absurd hk no, fun k hk => absurd hk no, fun k hk => absurd hk no⟩, ?_, ?_⟩ <;> (rw [e0]; decide)
theorem law_start {mc ms : Nat} {sc : Nat × (Nat → Int32)} (hA : AL S) (hmc : 18 ≤ mc) (hms : 87 ≤ ms) (hl : ∀ q1 q2 q3 q4 S', LW q1 q2 q3 q4 e00 0 S' → ∃ n9, wA_L_law_b28 mc ms sc n9 18 87 q1 q2 q3 q4 (0 : Int32) S') : wA_L_law_b0 mc ms 0 0 S sc := by
  unfold wA_L_law_b0
  refine ⟨by omega, by omega, fun q1 f1 S1 e1 => ⟨8, 40, by omega, by omega, ?_⟩⟩
  have A1 : AL S1 := by rw [e1]; exact AL_nw hA f1
  have k1 : s_K S1 q1 = 8 := by rw [e1]; exact s_nw_K
  clear e1
  refine x6_init A1 k1 (by decide) (by decide) (fun S2 H F2 A2 eH C2 L2 => ⟨by omega, by omega, fun q2 f2 S3 e3 => ⟨6, 40, by omega, by omega, ?_⟩⟩)
  have F3 : FRM no_ no_ S2 S3 := by rw [e3]; exact FRM.refl.nw f2
  have A3 : AL S3 := by rw [e3]; exact AL_nw A2 f2
  have k3 : s_K S3 q2 = 10 := by rw [e3]; exact s_nw_K
  have i3 : s_I S3 288 q2 = 0 := by rw [e3]; exact if_pos rfl
  clear e3
  have m0 : ∀ {Sx : sT}, mD no_ Sx := fun _ _ z => False.elim z
  have C3 := CC_keepM C2 F3 m0
  refine x8_init A3 k3 i3 (by decide) (by decide) (fun S4 X F4 A4 eX R4 => ⟨by omega, by omega, fun q3 f3 S5 e5 => ⟨by omega, by omega, fun q4 f4 S6 e6 => ?_⟩⟩)
  have C4 := CC_keepM C3 F4 (fun y _ z => Or.inl (by rw [z]; exact k3))
  have F5 : FRM no_ no_ S4 S5 := by rw [e5]; exact FRM.refl.nw f3
  have A5 : AL S5 := by rw [e5]; exact AL_nw A4 f3
  have k5 : s_K S5 q3 = 14 ∧ s_N S5 q3 = 1 := by rw [e5]; exact ⟨s_nw_K, s_nw_N⟩
  clear e5
  have C5 := CC_keepM C4 F5 m0
  have R5 := RC_keep R4 F5 nD_no
  have F6 : FRM no_ no_ S5 S6 := by rw [e6]; exact FRM.refl.nw f4
  have A6 : AL S6 := by rw [e6]; exact AL_nw A5 f4
  have k6 : s_K S6 q4 = 15 ∧ s_N S6 q4 = 1 := by rw [e6]; exact ⟨s_nw_K, s_nw_N⟩
  clear e6
  have C6 := CC_keepM C5 F6 m0
  have R6 := RC_keep R5 F6 nD_no
  have g3 := F6.ar k5.1 (by decide) (fun z => z)
  exact hl q1 q2 q3 q4 S6 ⟨H, X, _, _, eH.symm, eX.symm, ⟨C6, R6, A6, g3.1, g3.2.1.trans k5.2, k6.1, k6.2, L2⟩, LI_00⟩
end
