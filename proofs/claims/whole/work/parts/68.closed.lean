/-! ===== isClosed on the model's side ===== -/
section
variable {S S' S0 S1 : sT} {a y q k n m i : Nat} {E : eT} {X : Nat → Nat → Nat} {N N' : yT} {Z Z' : zT} {x1 x2 : Int32}
/-- the sum of water's first answers, from 1 on -/
def sW (E : eT) (N : yT) (j : Nat) : Int32 := itd (fun k s => s + watR E N (nI k)) 1 j 0
def cloR (E : eT) (N : yT) : Int32 := if sW E N 6 = watR E N 0 then 1 else 0
theorem DX_keep (hC : RC X (fF E) S N) (F : FRM (DX X (fF E)) no_ S S') : True := trivial
theorem wa_cl {Q : Int32 → sT → Prop} (h3 : E.1 ≤ 3) (h12 : E.2.1 ≤ 12) : ∀ (d j : Nat), j + d = 6 → ∀ (S : sT) (kc ks : Nat), kc + (d + 1) ≤ 7 → ks + 7 * (d + 1) ≤ 49 → RC X (fF E) S N → (∀ S', FRM (DX X (fF E)) no_ S S' → (AL S → AL S') → RC X (fF E) S' N → Q (cloR E N) S') → wA_X8_isClosedNow_b4 7 49 Q (d + 1) kc ks (X 0 0) (sW E N j) (nI (j + 1)) S := by
  intro d
  induction d with
  | zero =>
    intro j hj S kc ks hkc hks hC hQ
    obtain rfl : j = 6 := by omega
    unfold wA_X8_isClosedNow_b4
    refine ⟨fun _ => ⟨rK_Mod hC trivial, 1, 7, by omega, by omega, ra_waterNow hC h3 h12 (by decide) (fun S2 F2 A2 R2 => ?_)⟩, fun c => absurd (by decide) c⟩
    unfold wA_X8_isClosedNow_b38
    refine ⟨fun z => ⟨Or.inl rfl, ?_⟩, fun z => ⟨Or.inr rfl, ?_⟩⟩
    · rw [show (0 : Int32) = cloR E N from (if_neg z).symm]; exact hQ S2 F2 A2 R2
    · rw [show (1 : Int32) = cloR E N from (if_pos z).symm]; exact hQ S2 F2 A2 R2
  | succ d ih =>
    intro j hj S kc ks hkc hks hC hQ
    have lt : ¬ (7 : Int32) ≤ nI (j + 1) := by
      rw [Int32.le_iff_toInt_le, nI_toInt (by omega)]
      have : (7 : Int32).toInt = 7 := rfl
      omega
    have hx : 0 ≤ (nI (j + 1)).toInt ∧ (nI (j + 1)).toInt ≤ 6 := by
      rw [nI_toInt (by omega)]; omega
    unfold wA_X8_isClosedNow_b4
    refine ⟨fun c => absurd c lt, fun _ => ⟨rK_Mod hC trivial, 1, 7, by omega, by omega, ra_waterNow hC h3 h12 hx (fun S2 F2 A2 R2 => ?_)⟩⟩
    intro y1 f1 y2 f2
    have e1 : y1 = sW E N (j + 1) := by
      rw [f1]
      unfold sW
      rw [itd_last, Nat.add_comm 1 j]
    have e2 : y2 = nI (j + 1 + 1) := by rw [f2, nI_succ (j + 1)]
    rw [e1, e2]
    exact ih (j + 1) (by omega) S2 _ _ (by omega) (by omega) R2 (fun S' F A R => hQ S' (F2.trans F (fun _ _ z => z) (fun _ _ z => z)) (fun h => A (A2 h)) R)
theorem ra_closed {Q : Int32 → sT → Prop} (hC : RC X (fF E) S N) (h3 : E.1 ≤ 3) (h12 : E.2.1 ≤ 12) (hQ : ∀ S', FRM (DX X (fF E)) no_ S S' → (AL S → AL S') → RC X (fF E) S' (s_up2 N 80 0 0) → Q (cloR E (s_up2 N 80 0 0)) S') : wA_X8_isClosed 7 49 (X 0 0) S Q := by
  unfold wA_X8_isClosed wA_X8_isClosed_b0
  refine ⟨rK_Mod hC trivial, fun S3 e3 => ?_⟩
  obtain ⟨r3, f3, a3⟩ := RC_80 hC e3
  refine ⟨7, 49, by decide, by decide, ?_⟩
  unfold wA_X8_isClosedNow wA_X8_isClosedNow_b0
  refine ⟨7, ?_⟩
  have := wa_cl (Q := fun x105 S104 => (x105 = 0 ∨ x105 = 1) ∧ Q x105 S104) h3 h12 6 0 rfl S3 0 0 (by decide) (by decide) r3 (fun S' F A R => ⟨?_, hQ S' (f3.trans F (fun _ _ z => z) (fun _ _ z => z)) (fun h => A (a3 h)) R⟩)
  · exact this
  · unfold cloR
    by_cases z : sW E (s_up2 N 80 0 0) 6 = watR E (s_up2 N 80 0 0) 0
    · rw [if_pos z]; exact Or.inr rfl
    · rw [if_neg z]; exact Or.inl rfl
theorem clo_eq (h : LI E n Z N) : cloR E N = cloC E (Z 0) := by
  have w : ∀ x : Int32, 0 ≤ x.toInt ∧ x.toInt ≤ 6 → watR E N x = watC E (Z 0) x := fun x hx => wat_eq h hx
  have e : sW E N 6 = sumF E (Z 0) 1 + Z 0 68 0 + sumS E (Z 0) 3 + (Z 0 70 0 + Z 0 71 0 + Z 0 72 0) := by
    show 0 + watR E N (nI 1) + watR E N (nI 2) + watR E N (nI 3) + watR E N (nI 4) + watR E N (nI 5) + watR E N (nI 6) = _
    rw [w (nI 1) (by decide), w (nI 2) (by decide), w (nI 3) (by decide), w (nI 4) (by decide), w (nI 5) (by decide), w (nI 6) (by decide)]
    show 0 + sumF E (Z 0) 1 + Z 0 68 0 + sumS E (Z 0) 3 + Z 0 70 0 + Z 0 71 0 + Z 0 72 0 = _
    rw [Int32.zero_add, Int32.add_assoc, Int32.add_assoc, ← Int32.add_assoc (Z 0 70 0)]
  unfold cloR cloC
  rw [e, w 0 (by decide)]
  show (if _ = Z 0 69 0 then (1 : Int32) else 0) = _
  by_cases z : Z 0 69 0 = sumF E (Z 0) 1 + Z 0 68 0 + sumS E (Z 0) 3 + (Z 0 70 0 + Z 0 71 0 + Z 0 72 0)
  · rw [if_pos z, if_pos z.symm]
  · rw [if_neg z, if_neg (fun y => z y.symm)]
end
