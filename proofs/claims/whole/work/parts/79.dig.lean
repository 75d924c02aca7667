/-! ===== the digest, the model's side: its loops ===== -/
section
variable {S S' S0 S1 : sT} {E : eT} {F : fT} {n D : Nat} {X X' : Nat → Nat → Nat} {N U V : yT} {Z : zT} {x1 x2 : Int32} {d v : Int64}
/-- the model's state on the digest's way: the sum is d -/
def DS (X : Nat → Nat → Nat) (E : eT) (S0 S : sT) (d : Int64) : Prop := FRM (DX X (fF E)) (fun y => y = X 0 0) S0 S ∧ (AL S0 → AL S) ∧ s_J S (X 0 0) = d
def DG (X : Nat → Nat → Nat) (E : eT) (N : yT) (S0 S : sT) (d : Int64) : Prop := RC X (fF E) S N ∧ DS X E S0 S d
theorem DS_st : rSt X (fF E) (fun S => DS X E S0 S d) :=
  ⟨fun S f k j v ho h => ⟨h.1.sB (Or.inr (Or.inl ⟨f, k, ho, rfl⟩)), h.2.1, h.2.2⟩, fun S v h => ⟨h.1.sI (Or.inr (Or.inr rfl)), h.2.1, h.2.2⟩⟩
theorem DG_step (h : DG X E N S0 S d) (F : FRM (DX X (fF E)) no_ S S') (A : AL S → AL S') (R : RC X (fF E) S' N) : DG X E N S0 S' d :=
  ⟨R, h.2.1.trans F (fun _ _ z => z) (fun _ _ z => False.elim z), fun z => A (h.2.2.1 z), (F.1.2.2 (X 0 0) (by rw [rK_Mod h.1 trivial]; decide) (fun z => z)).trans h.2.2.2⟩
theorem dg_add {Q : sT → Prop} {x : Int32} (h : DG X E N S0 S d) (hQ : ∀ S', DG X E N S0 S' (mxI d x) → Q S') : w_X8_add (X 0 0) x S Q := by
  unfold w_X8_add w_X8_add_b0
  refine ⟨rK_Mod h.1 trivial, fun j1 e1 j2 e2 j3 e3 j4 e4 S' e5 => hQ S' ?_⟩
  rw [e5, e4, e3, e2, e1, h.2.2.2]
  exact ⟨h.1, h.2.1.sJ (Or.inr rfl), h.2.2.1, if_pos rfl⟩
/-- behind the digest the law's state is what it was -/
theorem DG_LX {H : Nat → Nat → Nat → Nat} {x3 x4 : Nat} (h : LX x3 x4 H X E S0 Z N) (hD : DS X E S0 S d) {N' : yT} (hR : RC X (fF E) S N') : LX x3 x4 H X E S Z N' := by
  obtain ⟨hF, hA, hJ⟩ := hD
  have F2 : FRM (DX X (fF E)) no_ S0 (s_sJ S (X 0 0) (s_J S0 (X 0 0))) := by
    refine ⟨⟨hF.1.1, hF.1.2.1, fun y hy _ => ?_⟩, fun y hy => ⟨(hF.2 y hy).1, fun hd => ?_⟩⟩
    · by_cases z : y = X 0 0
      · rw [z]; exact if_pos rfl
      · exact (if_neg z).trans (hF.1.2.2 y hy z)
    · obtain ⟨a1, a2, a3, a4⟩ := (hF.2 y hy).2 hd
      exact ⟨a1, a2, fun g _ => a3 g (fun _ z2 => hd (Or.inr z2)), a4⟩
  have h2 : LX x3 x4 H X E (s_sJ S (X 0 0) (s_J S0 (X 0 0))) Z N' := LX_keepX h F2 hA hR
  exact h2
def dR1 (E : eT) (N : yT) (j e : Nat) (d : Int64) : Int64 := itd (fun j d => mxI d (manR E N (nI j))) j e d
def dR2 (E : eT) (N : yT) (j e : Nat) (d : Int64) : Int64 := itd (fun j d => mxI d (watR E N (nI j))) j e d
def dR3 (E : eT) (N : yT) (i j e : Nat) (d : Int64) : Int64 := itd (fun j d => mxI d (socR (fF E) N i (nI j))) j e d
def dRS (E : eT) (N : yT) (i : Nat) (d : Int64) : Int64 := mxI (dR3 E N i 0 9 d) (susR (fF E) N (nI i))
def dR4 (N : yT) (k j e : Nat) (d : Int64) : Int64 := itd (fun j d => mxI d (fldR N k (nI j))) j e d
def dR5 (N : yT) (k j e : Nat) (d : Int64) : Int64 := itd (fun j d => mxI d (ownC N k (nI j))) j e d
def dRF (E : eT) (N : yT) (k : Nat) (d : Int64) : Int64 := mxI (mxI (mxI (dR5 N k 0 4 (dR4 N k 0 14 d)) (N 20 k)) (N 21 k)) (yR (itd (fun _ => passR (fT0 E)) 0 5 (Nw N)) k)
theorem nI_b {m j : Nat} (hj : j ≤ m) (hm : m < 1000) : 0 ≤ (nI j).toInt ∧ (nI j).toInt ≤ (m : Int) := by
  rw [nI_toInt (by omega)]; omega
theorem wd14 {Q : Int64 → sT → Prop} {mc ms KC KS : Nat} (h3 : E.1 ≤ 3) (h12 : E.2.1 ≤ 12) : ∀ (e j : Nat) (d : Int64) (S : sT) (kc ks : Nat), j + e = 12 → kc + e = KC → ks + 12 * e = KS → KC ≤ mc → KS ≤ ms → DG X E N S0 S d → (∀ S', DG X E N S0 S' (dR1 E N j e d) → ∃ n9 : Nat, wA_X8_digest_b37 mc ms Q n9 KC KS (X 0 0) (0 : Int32) S') → wA_X8_digest_b14 mc ms Q (e + 1) kc ks (X 0 0) (nI j) S := by
  intro e
  induction e with
  | zero =>
    intro j d S kc ks hj hkc hks hmc hms hD hK
    have hj : j = 12 := hj
    unfold wA_X8_digest_b14
    refine ⟨fun _ => ?_, fun c => absurd (by rw [hj]; decide) c⟩
    have e1 : kc = KC := hkc
    have e2 : ks = KS := hks
    rw [e1, e2]
    exact hK S hD
  | succ e ih =>
    intro j d S kc ks hj hkc hks hmc hms hD hK
    unfold wA_X8_digest_b14
    refine ⟨fun c => absurd c ?_, fun _ => ⟨rK_Mod hD.1 trivial, 1, 12, by omega, by omega, ra_manyNow hD.1 h3 h12 (nI_b (m := 11) (by omega) (by decide)) (fun S2 F2 A2 R2 => ⟨rK_Mod R2 trivial, dg_add (DG_step hD F2 A2 R2) (fun S3 D3 => ?_)⟩)⟩⟩
    · rw [show (12 : Int32) = nI 12 by decide, nI_lei (by omega) (by omega)]; omega
    intro y f
    have e2 : y = nI (j + 1) := by rw [f, nI_succ]
    rw [e2]
    exact ih (j + 1) _ S3 _ _ (by omega) (by omega) (by omega) hmc hms D3 hK
theorem wd37 {Q : Int64 → sT → Prop} {mc ms KC KS : Nat} (h3 : E.1 ≤ 3) (h12 : E.2.1 ≤ 12) : ∀ (e j : Nat) (d : Int64) (S : sT) (kc ks : Nat), j + e = 7 → kc + e + 7 = KC → ks + 7 * e + 49 = KS → KC ≤ mc → KS ≤ ms → DG X E N S0 S d → (∀ S', DG X E N S0 S' (mxI (dR2 E N j e d) (if cloR E N = 0 then 0 else 1)) → ∃ n9 : Nat, wA_X8_digest_b76 mc ms Q n9 KC KS (X 0 0) (0 : Int32) S') → wA_X8_digest_b37 mc ms Q (e + 1) kc ks (X 0 0) (nI j) S := by
  intro e
  induction e with
  | zero =>
    intro j d S kc ks hj hkc hks hmc hms hD hK
    have hj : j = 7 := hj
    unfold wA_X8_digest_b37
    refine ⟨fun _ => ⟨rK_Mod hD.1 trivial, 7, 49, by omega, by omega, ?_⟩, fun c => absurd (by rw [hj]; decide) c⟩
    unfold wA_X8_isClosedNow wA_X8_isClosedNow_b0
    refine ⟨7, ?_⟩
    have e1 : kc + 7 = KC := by omega
    have e2 : ks + 49 = KS := by omega
    rw [e1, e2]
    have := wa_cl (Q := fun x105 S104 => (x105 = 0 → wA_X8_digest_b71 mc ms KC KS (X 0 0) (0 : Int32) (X 0 0) S104 Q) ∧ (¬ x105 = 0 → wA_X8_digest_b71 mc ms KC KS (X 0 0) (1 : Int32) (X 0 0) S104 Q)) h3 h12 6 0 rfl S 0 0 (by decide) (by decide) hD.1 (fun S2 F2 A2 R2 => ?_)
    · exact this
    · have D2 := DG_step hD F2 A2 R2
      refine ⟨fun c => ?_, fun c => ?_⟩
      · unfold wA_X8_digest_b71
        rw [if_pos c] at hK
        exact ⟨rK_Mod R2 trivial, dg_add D2 (fun S3 D3 => hK S3 D3)⟩
      · unfold wA_X8_digest_b71
        rw [if_neg c] at hK
        exact ⟨rK_Mod R2 trivial, dg_add D2 (fun S3 D3 => hK S3 D3)⟩
  | succ e ih =>
    intro j d S kc ks hj hkc hks hmc hms hD hK
    unfold wA_X8_digest_b37
    refine ⟨fun c => absurd c ?_, fun _ => ⟨rK_Mod hD.1 trivial, 1, 7, by omega, by omega, ra_waterNow hD.1 h3 h12 (nI_b (m := 6) (by omega) (by decide)) (fun S2 F2 A2 R2 => ⟨rK_Mod R2 trivial, dg_add (DG_step hD F2 A2 R2) (fun S3 D3 => ?_)⟩)⟩⟩
    · rw [show (7 : Int32) = nI 7 by decide, nI_lei (by omega) (by omega)]; omega
    intro y f
    have e2 : y = nI (j + 1) := by rw [f, nI_succ]
    rw [e2]
    exact ih (j + 1) _ S3 _ _ (by omega) (by omega) (by omega) hmc hms D3 hK
/-- whom a society may suspect, told by the model -/
def SUS (E : eT) (N : yT) : Prop := ∀ i, i < E.1 → (∃ k, k < E.2.1 ∧ N 0 k = nI i ∧ ¬ N 11 k = 0) → ¬ (srP (fF E) N (nI i)).2 = 0
theorem wd_sus {Q : Int32 → sT → Prop} {i : Nat} (h12 : E.2.1 ≤ 12) (hS : SUS E N) (hi : i < E.1) (hD : DG X E N S0 S d) (hQ : ∀ S', DG X E N S0 S' d → Q (susR (fF E) N (nI i)) S') : w_X8_suspectNow (X 0 0) (nI i) S Q := by
  refine u_X8_suspectNow (P := fun S => DS X E S0 S d) (Q' := fun x z => x = susR (fF E) N (nI i) ∧ z = N) DS_st trivial (fun x S2 z hc hp e => ?_) hD.1 hD.2 ?_
  · obtain ⟨r1, r2⟩ := e
    subst r1 r2
    exact hQ S2 ⟨hc, hp⟩
  · unfold v_X8_suspectNow v_X8_suspectNow_b0
    simp only [forall_eq]
    refine ⟨E.2.1 + 1, ?_⟩
    have := l_srA (F := fF E) (N := N) (x1 := nI i) (Q := fun x z => x = susR (fF E) N (nI i) ∧ z = N) h12 (hS i hi) ⟨rfl, rfl⟩ E.2.1 0 (0, 0) (Nat.zero_add E.2.1) rfl
    rw [← nI_z] at this
    exact this
theorem wd90 {Q : Int64 → sT → Prop} {kk : Nat → Nat → Nat → Int32 → sT → Prop} {mc ms KC KS i : Nat} (h3 : E.1 ≤ 3) (h12 : E.2.1 ≤ 12) (hS : SUS E N) (hi : i < E.1) : ∀ (e j : Nat) (d : Int64) (S : sT) (kc ks : Nat), j + e = 9 → kc + e = KC → ks + 9 * e = KS → KC ≤ mc → KS ≤ ms → DG X E N S0 S d → (∀ S', DG X E N S0 S' (mxI (dR3 E N i j e d) (susR (fF E) N (nI i))) → kk KC KS (X 0 0) (nI (i + 1)) S') → wA_X8_digest_b90 mc ms kk Q (e + 1) kc ks (X 0 0) (nI i) (nI j) S := by
  have hv : vp_in (nI i) E.1 := by rw [nI_vp (by omega)]; exact hi
  intro e
  induction e with
  | zero =>
    intro j d S kc ks hj hkc hks hmc hms hD hK
    have hj : j = 9 := hj
    unfold wA_X8_digest_b90
    refine ⟨fun _ => ⟨rK_Mod hD.1 trivial, wd_sus h12 hS hi hD (fun S2 D2 => ⟨rK_Mod D2.1 trivial, dg_add D2 (fun S3 D3 => ?_)⟩)⟩, fun c => absurd (by rw [hj]; decide) c⟩
    intro y f
    have e3 : y = nI (i + 1) := by rw [f, nI_succ]
    have e1 : kc = KC := hkc
    have e2 : ks = KS := hks
    rw [e1, e2, e3]
    exact hK S3 D3
  | succ e ih =>
    intro j d S kc ks hj hkc hks hmc hms hD hK
    unfold wA_X8_digest_b90
    refine ⟨fun c => absurd c ?_, fun _ => ⟨rK_Mod hD.1 trivial, 1, 9, by omega, by omega, ra_societyNow hD.1 hv h3 h12 (nI_b (m := 8) (by omega) (by decide)) (fun S2 F2 A2 R2 => ⟨rK_Mod R2 trivial, dg_add (DG_step hD F2 A2 R2) (fun S3 D3 => ?_)⟩)⟩⟩
    · rw [show (9 : Int32) = nI 9 by decide, nI_lei (by omega) (by omega)]; omega
    intro y f
    have e2 : y = nI (j + 1) := by rw [f, nI_succ]
    rw [e2]
    rw [nI_cl (by omega)] at D3
    exact ih (j + 1) _ S3 _ _ (by omega) (by omega) (by omega) hmc hms D3 hK
theorem wd76 {Q : Int64 → sT → Prop} {mc ms KC KS : Nat} (h3 : E.1 ≤ 3) (h12 : E.2.1 ≤ 12) (hS : SUS E N) : ∀ (e i : Nat) (d : Int64) (S : sT) (kc ks : Nat), i + e = E.1 → kc + 9 * e = KC → ks + 81 * e = KS → KC ≤ mc → KS ≤ ms → DG X E N S0 S d → (∀ S', DG X E N S0 S' (itd (dRS E N) i e d) → ∃ n9 : Nat, wA_X8_digest_b129 mc ms Q n9 KC KS (X 0 0) (0 : Int32) S') → wA_X8_digest_b76 mc ms Q (e + 1) kc ks (X 0 0) (nI i) S := by
  intro e
  induction e with
  | zero =>
    intro i d S kc ks hi hkc hks hmc hms hD hK
    have hi : i = E.1 := hi
    unfold wA_X8_digest_b76
    refine ⟨rK_Mod hD.1 trivial, X 1 0, rF_289 hD.1 trivial, rK_Wld hD.1, X 2 0, rF_256 hD.1, rK_SArr hD.1, fun x ex => ⟨fun _ => ?_, fun c => absurd ?_ c⟩⟩
    · have e1 : kc = KC := hkc
      have e2 : ks = KS := hks
      rw [e1, e2]
      exact hK S hD
    · rw [ex, rN_SArr hD.1, hi]
      exact Int32.le_refl _
  | succ e ih =>
    intro i d S kc ks hi hkc hks hmc hms hD hK
    rw [itd_s] at hK
    unfold wA_X8_digest_b76
    refine ⟨rK_Mod hD.1 trivial, X 1 0, rF_289 hD.1 trivial, rK_Wld hD.1, X 2 0, rF_256 hD.1, rK_SArr hD.1, fun x ex => ⟨fun c => absurd c ?_, fun _ => ⟨10, ?_⟩⟩⟩
    · rw [ex, rN_SArr hD.1]
      show ¬ nI E.1 ≤ nI i
      rw [nI_lei (by omega) (by omega)]; omega
    · rw [show (0 : Int32) = nI 0 from rfl]
      exact wd90 (KC := kc + 9) (KS := ks + 81) h3 h12 hS (by omega) 9 0 d S kc ks (by omega) rfl rfl (by omega) (by omega) hD (fun S2 D2 => ih (i + 1) _ S2 _ _ (by omega) (by omega) (by omega) hmc hms D2 hK)
end
