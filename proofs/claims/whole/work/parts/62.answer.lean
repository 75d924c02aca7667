/-! ===== the model's answers that make new arrays or worlds ===== -/
/-- the model's own places -/
def DX (X : Nat → Nat → Nat) (F : fT) (y : Nat) : Prop := (∃ f k, r_ok F f k ∧ y = X f k) ∨ y = X 0 0
section
variable {x1 x2 x3 x4 : Nat} {S S' S0 S1 : sT} {a y q k n m : Nat} {E : eT} {F : fT} {X : Nat → Nat → Nat} {H : Nat → Nat → Nat → Nat} {N N' : yT} {Z Z' : zT} {f : Nat → Int32} {D T : Nat → Prop}
theorem DX_m (hR : RC X (fF E) S N) : mD (DX X (fF E)) S := fun y _ z => by
  rcases z with ⟨f, k, h, rfl⟩ | rfl
  · exact Or.inr (RS_k11 hR.1 h)
  · exact Or.inl (rK_Mod hR trivial)
/-- the model's state on its way, with one array q of its answers -/
def MP (X : Nat → Nat → Nat) (F : fT) (S0 : sT) (q m : Nat) (f : Nat → Int32) (S : sT) : Prop := FRM (DX X F) no_ S0 S ∧ (AL S0 → AL S) ∧ s_K S q = 11 ∧ s_N S q = m ∧ ∀ j, j < m → s_B S q j = f j
theorem MP_st (hR : RS X (fF E) S0) (hq : s_K S0 q = 0) : rSt X (fF E) (MP X (fF E) S0 q m f) := by
  refine ⟨fun S f' k j v ho h => ⟨h.1.sB (Or.inr (Or.inl ⟨f', k, ho, rfl⟩)), h.2.1, h.2.2.1, h.2.2.2.1, fun i hi => (if_neg (fun z => ?_)).trans (h.2.2.2.2 i hi)⟩, fun S v h => ⟨h.1.sI (Or.inr (Or.inr rfl)), h.2⟩⟩
  have := RS_k11 hR ho
  rw [← z.1, hq] at this
  cases this
theorem MP_nw (hq : s_fr S0 q) : MP X F S0 q m (fun _ => 0) (s_nw S0 q 11 m) := ⟨FRM.refl.nw hq, fun h => AL_nw h hq, s_nw_K, s_nw_N, fun _ _ => if_pos rfl⟩
theorem MP_set {v : Int32} (h : MP X F S0 q m f S) (hq : s_K S0 q = 0) (j : Nat) : MP X F S0 q m (fun i => if i = j then v else f i) (s_sB S q j v) := by
  refine ⟨h.1.sB (Or.inl hq), h.2.1, h.2.2.1, h.2.2.2.1, fun i hi => ?_⟩
  by_cases z : i = j
  · exact (if_pos ⟨rfl, z⟩).trans (if_pos z).symm
  · exact (if_neg (fun w => z w.2)).trans ((h.2.2.2.2 i hi).trans (if_neg z).symm)
/-- writing to what is not the model's -/
theorem RC_q {j : Nat} {v : Int32} (hR : RC X F S N) (hq : ∀ f k, r_ok F f k → X f k ≠ q) : RC X F (s_sB S q j v) N :=
  ⟨hR.1, RV_mk (fun f k i ho hi => (if_neg (fun z => hq f k ho z.1)).trans (RV_get hR.2.1 ho hi)), hR.2.2⟩
theorem q_no (hR : RS X F S0) (hq : s_K S0 q = 0) : ∀ f k, r_ok F f k → X f k ≠ q := fun f k ho z => by
  have := RS_k11 hR ho
  rw [z, hq] at this
  cases this
theorem RC_nw (hR : RC X F S N) (hq : s_fr S q) : RC X F (s_nw S q k n) N := RC_keep (T := no_) hR (FRM.refl.nw hq) nD_no
/-- what a call comes to, the model's side in the store -/
def RESA (x2 : Nat) (E : eT) (n : Nat) (X : Nat → Nat → Nat) (Z : zT) (N : yT) (cl : (Int32 → zT → Prop) → Prop) (clT : (String → zT → Prop) → Prop) (wR : sT → (Int32 → sT → Prop) → Prop) (exs : List String) : Prop :=
  (∃ (v : Int32) (Z' : zT) (N' : yT), (∀ Q : Int32 → zT → Prop, Q v Z' → cl Q) ∧ (∀ S2, RC X (fF E) S2 N → ∀ Q : Int32 → sT → Prop, (∀ S3, FRM (DX X (fF E)) no_ S2 S3 → (AL S2 → AL S3) → RC X (fF E) S3 N' → Q v S3) → wR S2 Q) ∧ N' 80 0 = 0 ∧ LI E n Z' N') ∨
  (∃ (c : Nat) (ex : String) (u : Int32) (N' : yT), exs[c]? = some ex ∧ (∀ Q : String → zT → Prop, Q ex Z → clT Q) ∧ (∀ S2, RC X (fF E) S2 N → ∀ Q : Int32 → sT → Prop, (∀ S3, FRM (DX X (fF E)) no_ S2 S3 → (AL S2 → AL S3) → RC X (fF E) S3 N' → Q u S3) → wR S2 Q) ∧ N' 80 0 = nI (c + 1) ∧ LI E n Z N')
theorem LX_keepX (h : LX x3 x4 H X E S Z N) (F : FRM (DX X (fF E)) no_ S S') (hA : AL S → AL S') (hR : RC X (fF E) S' N') : LX x3 x4 H X E S' Z N' :=
  ⟨CC_keepM h.1 F (DX_m h.2.1), hR, OK_keepM h.2.2 F (fun y h0 z => DX_m h.2.1 y h0 z) hA⟩
theorem HLP_mkA {cl : (Int32 → zT → Prop) → Prop} {clT : (String → zT → Prop) → Prop} {exs : List String} {wC : (Int32 → sT → Prop) → Prop} {wT : (String → sT → Prop) → Prop} {wR : sT → (Int32 → sT → Prop) → Prop}
    (cv : Int32 → Int64) (e1 : x1 = H 0 9 0) (e2 : x2 = X 0 0) (hX : LX x3 x4 H X E S Z N) (hl : exs.length ≤ 4) (hr : RESA x2 E n X Z N cl clT wR exs)
    (uC : ∀ (P : sT → Prop) (Q : Int32 → sT → Prop) (Q' : Int32 → zT → Prop), cSt P → (∀ x S Z, CC H E S Z → P S → Q' x Z → Q x S) → CC H E S Z → P S → cl Q' → wC Q)
    (uT : ∀ (P : sT → Prop) (Q : String → sT → Prop) (Q' : String → zT → Prop), cSt P → (∀ x S Z, CC H E S Z → P S → Q' x Z → Q x S) → CC H E S Z → P S → clT Q' → wT Q) : HLP x1 x2 x3 x4 E n cv wC wT wR exs := by
  obtain ⟨hC, hR, hO⟩ := hX
  rcases hr with ⟨v, Z', N', b1, b2, b3, b4⟩ | ⟨c, ex, u, N', b0, b1, b2, b3, b4⟩
  · refine Or.inl ⟨v, fun Q hq => uC (fun S => RC X (fF E) S N ∧ OK x3 x4 H E S) Q (fun x z => x = v ∧ z = Z') st_c (fun x S1 z hc hp e => ?_) hC ⟨hR, hO⟩ (b1 _ ⟨rfl, rfl⟩)⟩
    obtain ⟨r1, r2⟩ := e
    subst r1 r2
    have h1 : LX x3 x4 H X E S1 z N := ⟨hc, hp⟩
    refine hq S1 h1.2.2.2.1 h1.2.2.2.2.1 ⟨?_, Or.inl ⟨rfl, x, fun Q2 hq2 => b2 (s_sG S1 x3 0 (cv x)) (LX_sG h1).2.1 Q2 (fun S3 F3 A3 R3 => ?_)⟩⟩
    · rw [e2]; exact rK_Mod h1.2.1 trivial
    · have g0 : LX x3 x4 H X E (s_sG S1 x3 0 (cv x)) z N := LX_sG h1
      have h3 := LX_keepX g0 F3 A3 R3
      refine hq2 S3 ⟨H, X, z, N', e1, e2, h3, b4⟩ (by rw [e2]; exact rK_Mod h3.2.1 trivial) (by rw [e2, rI_80 h3.2.1 trivial, b3]) h3.2.2.2.1 h3.2.2.2.2.1 ?_
      exact G_keepM (S := s_sG S1 x3 0 (cv x)) h1.2.2.2.1 (if_pos ⟨rfl, rfl⟩) F3 (DX_m g0.2.1)
  · refine Or.inr ⟨c, ex, b0, fun Q hq => uT (fun S => RC X (fF E) S N ∧ OK x3 x4 H E S) Q (fun x z => x = ex ∧ z = Z) st_c (fun x S1 z hc hp e => ?_) hC ⟨hR, hO⟩ (b1 _ ⟨rfl, rfl⟩)⟩
    obtain ⟨r1, r2⟩ := e
    subst r1 r2
    have h1 : LX x3 x4 H X E S1 z N := ⟨hc, hp⟩
    refine hq S1 ⟨?_, Or.inr ⟨nI_nz4 ?_, u, fun Q2 hq2 => b2 _ h1.2.1 Q2 (fun S3 F3 A3 R3 => ?_)⟩⟩
    · rw [e2]; exact rK_Mod h1.2.1 trivial
    · have := (List.getElem?_eq_some_iff.mp b0).1
      omega
    · have h3 := LX_keepX h1 F3 A3 R3
      exact hq2 S3 ⟨H, X, z, N', e1, e2, h3, b4⟩ (by rw [e2]; exact rK_Mod h3.2.1 trivial) (by rw [e2, rI_80 h3.2.1 trivial, b3])
end
