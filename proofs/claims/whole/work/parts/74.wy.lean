/-! ===== wouldYield on the model's side: the trial ===== -/
section
variable {S S' S0 S1 : sT} {E : eT} {n : Nat} {X X' : Nat → Nat → Nat} {N U V : yT} {x1 : Int32}
theorem wa_wy {Q : Int32 → sT → Prop} {mc ms kc ks D : Nat} (hW : EW E N) (hw : 0 ≤ (N 66 0).toInt ∧ (N 66 0).toInt ≤ 40) (hX : TWd S0 X' E) (hv : vp_in x1 E.2.1) (hD : D < 1000) (hn : n + 1000 < 900000) {R : Int32} (hQ : ∀ S', TP S0 S' → Q R S') : ∀ (d j : Nat) (S : sT) (U V : yT), j + d = D → TR E N (n + j) U V → RC X' (fT0 E) S V → TP S0 S → R = yR (itd (fun _ => passR (fT0 E)) j d V) (Int32.toNatClampNeg x1) → wA_X8_wouldYieldNow_b13 mc ms Q (d + 1) kc ks x1 (nI D) (X' 1 0) (nI j) S := by
  have hk := vp_lt hv
  intro d
  induction d with
  | zero =>
    intro j S U V hj hT hC hP hR
    have ej : j = D := by omega
    unfold wA_X8_wouldYieldNow_b13
    refine ⟨fun _ => ⟨rK_Wld hC, X' 3 0, rF_257 hC, rK_FArr hC, by rw [rN_FArr hC]; exact hv, X' 5 _, rP_FArr hC hk, ?_⟩, fun c => absurd (by rw [ej]; exact Int32.le_refl _) c⟩
    refine u_X7_yield (TP_st hX) (Q' := fun x z => x = yR V (Int32.toNatClampNeg x1) ∧ z = V) (fun x S2 z hc hp e => ?_) hk hC hP (by rw [r_yield]; exact ⟨rfl, rfl⟩)
    have e1 : x = R := by rw [hR, e.1]; rfl
    rw [e1]
    exact hQ S2 hp
  | succ d ih =>
    intro j S U V hj hT hC hP hR
    unfold wA_X8_wouldYieldNow_b13
    refine ⟨fun c => ?_, fun _ => ⟨rK_Wld hC, ?_⟩⟩
    · rw [Int32.le_iff_toInt_le, nI_toInt (by omega), nI_toInt (by omega)] at c
      omega
    · have hp := tr_pass (F := fT0 E) hW rfl rfl (by omega) hw hT
      refine u_X7_pass (TP_st hX) (Q' := fun z => z = passR (fT0 E) V) (fun S2 z hc hp2 e => ?_) hC hP (hp.1 _ rfl)
      subst e
      intro y f
      have e4 : y = nI (j + 1) := by rw [f, nI_succ]
      rw [e4]
      exact ih (j + 1) S2 _ _ (by omega) hp.2 hc hp2 hR
end
