/-! ===== wouldYield on the model's side, whole ===== -/
section
variable {S S' S0 S1 : sT} {E : eT} {n D : Nat} {X X' : Nat → Nat → Nat} {N U V : yT} {x1 : Int32}
theorem TP_X (h : TP S S') (hC : RC X (fF E) S N) : FRM (DX X (fF E)) no_ S S' ∧ (AL S → AL S') ∧ RC X (fF E) S' N :=
  ⟨h.1.mono (fun _ _ z => False.elim z), h.2, RC_keep hC h.1 nD_no⟩
theorem ra_wyNow {Q : Int32 → sT → Prop} (hC : RC X (fF E) S N) (hW : EW E N) (hw : 0 ≤ (N 66 0).toInt ∧ (N 66 0).toInt ≤ 40) (hv : vp_in x1 E.2.1) (hD : D < 1000) (hn : n + 1000 < 900000) (hT : TR E N n U (Nw N)) (hQ : ∀ S', FRM (DX X (fF E)) no_ S S' → (AL S → AL S') → RC X (fF E) S' N → Q (yR (itd (fun _ => passR (fT0 E)) 0 D (Nw N)) (Int32.toNatClampNeg x1)) S') : wA_X8_wouldYieldNow 21 349 (X 0 0) x1 (nI D) S Q := by
  have h3 := hW.1
  have h12 := hW.2.1
  unfold wA_X8_wouldYieldNow wA_X8_wouldYieldNow_b0
  refine ⟨rK_Mod hC trivial, X 1 0, rF_289 hC trivial, rK_Wld hC, 21, 349, by decide, by decide, ra_with hC h3 h12 (by omega) (by omega) (fun S2 X' F2 A2 hX R2 => ⟨D + 1, ?_⟩)⟩
  rw [show (0 : Int32) = nI 0 from rfl]
  exact wa_wy hW hw hX hv hD hn (fun S' hp => hQ S' (TP_X hp hC).1 (TP_X hp hC).2.1 (TP_X hp hC).2.2) D 0 S2 U (Nw N) (by omega) hT R2 ⟨F2, A2⟩ rfl
end
