/-! ===== the digest, the model's side: the fields, and the whole ===== -/
section
variable {S S' S0 S1 : sT} {E : eT} {F : fT} {n D : Nat} {X X' : Nat → Nat → Nat} {N U V : yT} {Z : zT} {x1 x2 : Int32} {d v : Int64} {k : Nat}
theorem wd_fld {Q : Int32 → sT → Prop} {j : Nat} (h12 : E.2.1 ≤ 12) (hk : k < E.2.1) (hj : j ≤ 13) (hD : DG X E N S0 S d) (hQ : ∀ S', DG X E N S0 S' d → Q (fldR N k (nI j)) S') : w_X8_ofFieldNow (X 0 0) (nI k) (nI j) S Q := by
  have hv : vp_in (nI k) E.2.1 := by rw [nI_vp (by omega)]; exact hk
  refine u_X8_ofFieldNow (P := fun S => DS X E S0 S d) (Q' := fun x z => x = fldR N k (nI j) ∧ z = N) DS_st trivial (fun x S2 z hc hp e => ?_) hD.1 hD.2 ?_
  · obtain ⟨r1, r2⟩ := e
    subst r1 r2
    exact hQ S2 ⟨hc, hp⟩
  · rw [r_ofFieldNow (F := fF E) h12 hv (nI_b (m := 13) hj (by decide)), nI_cl (by omega)]
    exact ⟨rfl, rfl⟩
theorem wd26 {Q : sT → Prop} (hW : EW E N) (hw : 0 ≤ (N 66 0).toInt ∧ (N 66 0).toInt ≤ 40) (hn : n + 1000 < 900000) (hT : TR E N n U (Nw N)) (hk : k < E.2.1) : ∀ (e j : Nat) (d : Int64) (S : sT) (kc ks : Nat), j + e = 4 → kc + e = 4 → ks + 4 * e = 16 → DG X E N S0 S d → (∀ S', DG X E N S0 S' (mxI (mxI (mxI (dR5 N k j e d) (N 20 k)) (N 21 k)) (yR (itd (fun _ => passR (fT0 E)) 0 5 (Nw N)) k)) → Q S') → wA_X8_addField_b26 25 365 Q (e + 1) kc ks (X 0 0) (nI k) (nI j) S := by
  have h12 := hW.2.1
  have h3 := hW.1
  have h1 : k < 2147483648 := by omega
  have hv : vp_in (nI k) E.2.1 := by rw [nI_vp h1]; exact hk
  intro e
  induction e with
  | zero =>
    intro j d S kc ks hj hkc hks hD hK
    have hj : j = 4 := hj
    unfold wA_X8_addField_b26
    refine ⟨fun _ => ⟨rK_Mod hD.1 trivial, X 1 0, rF_289 hD.1 trivial, rK_Wld hD.1, X 3 0, rF_257 hD.1, rK_FArr hD.1, ?_, X 5 k, ?_, rK_FR hD.1 hk, ?_, fun y ey => ?_⟩, fun c => absurd (by rw [hj]; decide) c⟩
    · rw [rN_FArr hD.1]; exact hv
    · rw [nI_cl h1]; exact rP_FArr hD.1 hk
    · rw [rN_FR hD.1 hk]; unfold vp_in; decide
    rw [show Int32.toNatClampNeg (20 : Int32) = 20 by decide, rB_FR hD.1 hk rfl (by decide)] at ey
    have ey : y = N 20 k := ey
    refine dg_add hD (fun S2 D2 => ?_)
    rw [ey] at D2
    refine ⟨rK_Mod D2.1 trivial, X 1 0, rF_289 D2.1 trivial, rK_Wld D2.1, X 3 0, rF_257 D2.1, rK_FArr D2.1, ?_, X 5 k, ?_, rK_FR D2.1 hk, ?_, fun z ez => ?_⟩
    · rw [rN_FArr D2.1]; exact hv
    · rw [nI_cl h1]; exact rP_FArr D2.1 hk
    · rw [rN_FR D2.1 hk]; unfold vp_in; decide
    rw [show Int32.toNatClampNeg (21 : Int32) = 21 by decide, rB_FR D2.1 hk rfl (by decide)] at ez
    have ez : z = N 21 k := ez
    refine dg_add D2 (fun S3 D3 => ?_)
    rw [ez] at D3
    refine ⟨rK_Mod D3.1 trivial, 21, 349, by omega, by omega, ?_⟩
    rw [show (5 : Int32) = nI 5 by decide]
    refine ra_wyNow D3.1 hW hw hv (by decide) hn hT (fun S4 F4 A4 R4 => ⟨rK_Mod R4 trivial, dg_add (DG_step D3 F4 A4 R4) (fun S5 D5 => ?_)⟩)
    rw [nI_cl h1] at D5
    exact hK S5 D5
  | succ e ih =>
    intro j d S kc ks hj hkc hks hD hK
    unfold wA_X8_addField_b26
    refine ⟨fun c => absurd c ?_, fun _ => ⟨rK_Mod hD.1 trivial, 1, 4, by omega, by omega, ra_ownerNow hD.1 hv (nI_b (m := 3) (by omega) (by decide)) (fun S2 F2 A2 R2 => ⟨rK_Mod R2 trivial, dg_add (DG_step hD F2 A2 R2) (fun S3 D3 => ?_)⟩)⟩⟩
    · rw [show (4 : Int32) = nI 4 by decide, nI_lei (by omega) (by omega)]; omega
    intro y f
    have e2 : y = nI (j + 1) := by rw [f, nI_succ]
    rw [e2]
    rw [nI_cl h1] at D3
    exact ih (j + 1) _ S3 _ _ (by omega) (by omega) (by omega) D3 hK
theorem wd2 {Q : sT → Prop} (hW : EW E N) (hw : 0 ≤ (N 66 0).toInt ∧ (N 66 0).toInt ≤ 40) (hn : n + 1000 < 900000) (hT : TR E N n U (Nw N)) (hk : k < E.2.1) : ∀ (e j : Nat) (d : Int64) (S : sT), j + e = 14 → DG X E N S0 S d → (∀ S', DG X E N S0 S' (mxI (mxI (mxI (dR5 N k 0 4 (dR4 N k j e d)) (N 20 k)) (N 21 k)) (yR (itd (fun _ => passR (fT0 E)) 0 5 (Nw N)) k)) → Q S') → wA_X8_addField_b2 25 365 Q (e + 1) 0 0 (X 0 0) (nI k) (nI j) S := by
  have h12 := hW.2.1
  intro e
  induction e with
  | zero =>
    intro j d S hj hD hK
    have hj : j = 14 := hj
    unfold wA_X8_addField_b2
    refine ⟨fun _ => ⟨5, ?_⟩, fun c => absurd (by rw [hj]; decide) c⟩
    rw [show (0 : Int32) = nI 0 from rfl]
    exact wd26 hW hw hn hT hk 4 0 d S 0 0 rfl rfl rfl hD hK
  | succ e ih =>
    intro j d S hj hD hK
    unfold wA_X8_addField_b2
    refine ⟨fun c => absurd c ?_, fun _ => ⟨rK_Mod hD.1 trivial, wd_fld h12 hk (by omega) hD (fun S2 D2 => ⟨rK_Mod D2.1 trivial, dg_add D2 (fun S3 D3 => ?_)⟩)⟩⟩
    · rw [show (14 : Int32) = nI 14 by decide, nI_lei (by omega) (by omega)]; omega
    intro y f
    have e2 : y = nI (j + 1) := by rw [f, nI_succ]
    rw [e2]
    exact ih (j + 1) _ S3 (by omega) D3 hK
theorem bu1 {a b c k m : Nat} (h : a + k * (b + 1) + c ≤ m) : a + k + k * b + c ≤ m ∧ a + k ≤ m := by
  rw [Nat.mul_succ] at h
  omega
theorem bu2 {a x y k m : Nat} (h : a + k * 0 + (x + y) ≤ m) : a + x ≤ m ∧ a + x + y ≤ m := by
  rw [Nat.mul_zero] at h
  omega
/-- behind the fields -/
def dRE (E : eT) (N : yT) (d : Int64) : Int64 := mxI (mxI d (rrR (fT0 E) (irR (fT0 E) N) 10 1 (Nw N))) (plnR (fT0 E) N 0 12)
theorem wd129 {Q : Int64 → sT → Prop} {mc ms : Nat} (hW : EW E N) (hw : 0 ≤ (N 66 0).toInt ∧ (N 66 0).toInt ≤ 40) (hn : n + 1000 < 900000) (hT : TR E N n U (Nw N)) : ∀ (e i : Nat) (d : Int64) (S : sT) (kc ks : Nat), i + e = E.2.1 → kc + 25 * e + (21 + 567) ≤ mc → ks + 365 * e + (349 + 9423) ≤ ms → DG X E N S0 S d → (∀ S', DG X E N S0 S' (dRE E N (itd (dRF E N) i e d)) → Q (dRE E N (itd (dRF E N) i e d)) S') → wA_X8_digest_b129 mc ms Q (e + 1) kc ks (X 0 0) (nI i) S := by
  have h12 := hW.2.1
  intro e
  induction e with
  | zero =>
    intro i d S kc ks hi hmc hms hD hK
    have hi : i = E.2.1 := hi
    obtain ⟨c1, c2⟩ := bu2 hmc
    obtain ⟨s1, s2⟩ := bu2 hms
    unfold wA_X8_digest_b129
    refine ⟨rK_Mod hD.1 trivial, X 1 0, rF_289 hD.1 trivial, rK_Wld hD.1, X 3 0, rF_257 hD.1, rK_FArr hD.1, fun x ex => ⟨fun _ => ⟨21, 349, c1, s1, ?_⟩, fun c => absurd ?_ c⟩⟩
    · rw [show (10 : Int32) = nI 10 by decide]
      refine ra_riNow hD.1 hW hw (by decide) (n := n) (by omega) hT (fun S2 F2 A2 R2 => ⟨rK_Mod R2 trivial, dg_add (DG_step hD F2 A2 R2) (fun S3 D3 => ⟨rK_Mod D3.1 trivial, 567, 9423, c2, s2, ?_⟩)⟩)
      rw [show (12 : Int32) = nI 12 by decide]
      refine ra_planNow D3.1 hW hw (by decide) (by decide) (n := n) (by omega) hT (fun S4 F4 A4 R4 => ⟨rK_Mod R4 trivial, dg_add (DG_step D3 F4 A4 R4) (fun S5 D5 => ⟨rK_Mod D5.1 trivial, fun j ej => ?_⟩)⟩)
      rw [ej, D5.2.2.2]
      exact hK S5 D5
    · rw [ex, rN_FArr hD.1, hi]
      exact Int32.le_refl _
  | succ e ih =>
    intro i d S kc ks hi hmc hms hD hK
    rw [itd_s] at hK
    obtain ⟨c2, c1⟩ := bu1 hmc
    obtain ⟨s2, s1⟩ := bu1 hms
    have hj : i + 1 + e = E.2.1 := by omega
    have hk : i < E.2.1 := by omega
    clear hmc hms
    unfold wA_X8_digest_b129
    refine ⟨rK_Mod hD.1 trivial, X 1 0, rF_289 hD.1 trivial, rK_Wld hD.1, X 3 0, rF_257 hD.1, rK_FArr hD.1, fun x ex => ⟨fun c => absurd c ?_, fun _ => ⟨25, 365, c1, s1, ?_⟩⟩⟩
    · rw [ex, rN_FArr hD.1]
      show ¬ nI E.2.1 ≤ nI i
      rw [nI_lei (by omega) (by omega)]; omega
    · unfold wA_X8_addField wA_X8_addField_b0
      refine ⟨15, ?_⟩
      rw [show (0 : Int32) = nI 0 from rfl]
      refine wd2 hW hw hn hT hk 14 0 d S rfl hD (fun S2 D2 => ?_)
      intro y f
      have e2 : y = nI (i + 1) := by rw [f, nI_succ]
      rw [e2]
      exact ih (i + 1) _ S2 _ _ hj c2 s2 D2 hK
def dRR (E : eT) (N : yT) : Int64 := dRE E N (itd (dRF E N) 0 E.2.1 (itd (dRS E N) 0 E.1 (mxI (dR2 E N 0 7 (dR1 E N 0 12 58173)) (if cloR E N = 0 then 0 else 1))))
theorem ra_digest {Q : Int64 → sT → Prop} (hC : RC X (fF E) S N) (hW : EW E (s_up2 N 80 0 0)) (hw : 0 ≤ (N 66 0).toInt ∧ (N 66 0).toInt ≤ 40) (hn : n + 1000 < 900000) (hT : TR E (s_up2 N 80 0 0) n U (Nw (s_up2 N 80 0 0))) (hS : SUS E (s_up2 N 80 0 0)) (hQ : ∀ S', RC X (fF E) S' (s_up2 N 80 0 0) → DS X E S S' (dRR E (s_up2 N 80 0 0)) → Q (dRR E (s_up2 N 80 0 0)) S') : wA_X8_digest (614 + 9 * E.1 + 25 * E.2.1) (10014 + 81 * E.1 + 365 * E.2.1) (X 0 0) S Q := by
  have h3 := hW.1
  have h12 := hW.2.1
  unfold wA_X8_digest wA_X8_digest_b0
  refine ⟨rK_Mod hC trivial, fun S1 e1 S2 e2 => ⟨13, ?_⟩⟩
  obtain ⟨r1, f1, a1⟩ := RC_80 hC e1
  have D2 : DG X E (s_up2 N 80 0 0) S S2 58173 := by
    rw [e2]
    refine ⟨r1, ?_, a1, if_pos rfl⟩
    rw [e1]
    exact (FRM.refl.sI (Or.inr (Or.inr rfl))).sJ (Or.inr rfl)
  rw [show (0 : Int32) = nI 0 from rfl]
  refine wd14 (KC := 12) (KS := 144) h3 h12 12 0 _ S2 0 0 rfl rfl rfl (by omega) (by omega) D2 (fun S3 D3 => ⟨8, ?_⟩)
  rw [show (0 : Int32) = nI 0 from rfl]
  refine wd37 (KC := 26) (KS := 242) h3 h12 7 0 _ S3 12 144 rfl rfl rfl (by omega) (by omega) D3 (fun S4 D4 => ⟨E.1 + 1, ?_⟩)
  rw [show (0 : Int32) = nI 0 from rfl]
  refine wd76 (KC := 26 + 9 * E.1) (KS := 242 + 81 * E.1) h3 h12 hS E.1 0 _ S4 26 242 (by omega) rfl rfl (by omega) (by omega) D4 (fun S5 D5 => ⟨E.2.1 + 1, ?_⟩)
  rw [show (0 : Int32) = nI 0 from rfl]
  exact wd129 hW hw hn hT E.2.1 0 _ S5 _ _ (by omega) (by omega) (by omega) D5 (fun S6 D6 => hQ S6 D6.1 D6.2)
end
