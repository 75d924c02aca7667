/-! ===== the law's state between two calls, in the store ===== -/
/-- the lists' arrays: each list its own -/
def AL (S : sT) : Prop := ∃ e0 e1 : Nat, s_R S 9998 0 = some e0 ∧ s_R S 9999 0 = some e1 ∧ s_K S e0 = 0 ∧ ∀ a b : Nat, s_K S a = 1 → s_R S 1 a = some b → b = e0 ∨ (s_K S b = 12 ∧ (s_N S b = 10 ∨ s_N S b = 15) ∧ ∀ a' : Nat, s_K S a' = 1 → s_R S 1 a' = some b → a' = a)
/-- the lists are each another -/
def LD (H : Nat → Nat → Nat → Nat) (E : eT) : Prop := ∀ w v f g k j : Nat, w < 2 → v < 2 → (f = 1 ∧ k = 0 ∨ f = 2 ∧ k = 0 ∨ f = 8 ∧ k < E.1) → (g = 1 ∧ j = 0 ∨ g = 2 ∧ j = 0 ∨ g = 8 ∧ j < E.1) → H w f k = H v g j → w = v ∧ f = g ∧ k = j
/-- what holds of the law's own arrays -/
def OK (x3 x4 : Nat) (H : Nat → Nat → Nat → Nat) (E : eT) (S : sT) : Prop := AL S ∧ s_K S x3 = 14 ∧ s_N S x3 = 1 ∧ s_K S x4 = 15 ∧ s_N S x4 = 1 ∧ LD H E
abbrev fF (E : eT) : fT := (E.1, E.2.1, True)
def LX (x3 x4 : Nat) (H : Nat → Nat → Nat → Nat) (X : Nat → Nat → Nat) (E : eT) (S : sT) (Z : zT) (N : yT) : Prop := CC H E S Z ∧ RC X (fF E) S N ∧ OK x3 x4 H E S
def LW (x1 x2 x3 x4 : Nat) (E : eT) (n : Nat) (S : sT) : Prop := ∃ (H : Nat → Nat → Nat → Nat) (X : Nat → Nat → Nat) (Z : zT) (N : yT), x1 = H 0 9 0 ∧ x2 = X 0 0 ∧ LX x3 x4 H X E S Z N ∧ LI E n Z N
theorem c_g288 : ∀ c : Nat, c < 75 → c_v c = true → c_g c ≠ 288 := by decide
section
variable {x1 x2 x3 x4 : Nat} {H : Nat → Nat → Nat → Nat} {X : Nat → Nat → Nat} {E : eT} {n : Nat} {S S1 S2 S3 : sT} {Z Z' : zT} {N N' : yT} {P : sT → Prop}
theorem OK_sI {g a : Nat} {v : Int32} (h : OK x3 x4 H E S) : OK x3 x4 H E (s_sI S g a v) := h
theorem OK_sB {a j : Nat} {v : Int32} (h : OK x3 x4 H E S) : OK x3 x4 H E (s_sB S a j v) := h
theorem OK_sG {a j : Nat} {v : Int64} (h : OK x3 x4 H E S) : OK x3 x4 H E (s_sG S a j v) := h
theorem CC_sG {a j : Nat} {v : Int64} (h : CC H E S Z) : CC H E (s_sG S a j v) Z := h
theorem CC_sB {a j : Nat} {v : Int32} (h : CC H E S Z) : CC H E (s_sB S a j v) Z := h
theorem RC_sG {F : fT} {a j : Nat} {v : Int64} (h : RC X F S N) : RC X F (s_sG S a j v) N := h
theorem LX_sG {a j : Nat} {v : Int64} (h : LX x3 x4 H X E S Z N) : LX x3 x4 H X E (s_sG S a j v) Z N := h
theorem LX_sD {a j : Nat} {v : UInt64} (h : LX x3 x4 H X E S Z N) : LX x3 x4 H X E (s_sD S a j v) Z N := h
theorem RC_sI {F : fT} {g a : Nat} {v : Int32} (hg : g < 288) (h : RC X F S N) : RC X F (s_sI S g a v) N :=
  ⟨h.1, h.2.1, fun hb => (if_neg (fun z => absurd z.1 (by omega))).trans (h.2.2 hb)⟩
theorem CC_s288 {a : Nat} {v : Int32} (h : CC H E S Z) : CC H E (s_sI S 288 a v) Z :=
  ⟨CS_sI (by decide) (by decide) (by decide) h.1, h.2.1, fun w hw c hc hv k hk => (if_neg (fun z => c_g288 c hc hv z.1)).trans (h.2.2 w hw c hc hv k hk)⟩
/-- what the class's code leaves as it is -/
theorem st_c {F : fT} : cSt (fun S => RC X F S N ∧ OK x3 x4 H E S) := fun _ _ _ _ hg h => ⟨RC_sI hg h.1, h.2⟩
/-- what the model's code leaves as it is -/
theorem st_r {F : fT} {j : Int64} {d : UInt64} : rSt X F (fun S => CC H E S Z ∧ OK x3 x4 H E S ∧ s_G S x3 0 = j ∧ s_D S x4 0 = d) :=
  ⟨fun _ _ _ _ _ _ h => h, fun _ _ h => ⟨CC_s288 h.1, h.2⟩⟩
/-- a call's outcome in the store -/
theorem g_res {cl : (Int32 → zT → Prop) → Prop} {clT : (String → zT → Prop) → Prop} {rf : (Int32 → yT → Prop) → Prop} {exs : List String} {wC : (Int32 → sT → Prop) → Prop} {wT : (String → sT → Prop) → Prop} {wR : sT → (Int32 → sT → Prop) → Prop}
    (hX : LX x3 x4 H X E S Z N) (hr : RES E n Z N cl clT rf exs)
    (uC : ∀ (P : sT → Prop) (Q : Int32 → sT → Prop) (Q' : Int32 → zT → Prop), cSt P → (∀ x S Z, CC H E S Z → P S → Q' x Z → Q x S) → CC H E S Z → P S → cl Q' → wC Q)
    (uT : ∀ (P : sT → Prop) (Q : String → sT → Prop) (Q' : String → zT → Prop), cSt P → (∀ x S Z, CC H E S Z → P S → Q' x Z → Q x S) → CC H E S Z → P S → clT Q' → wT Q)
    (uR : ∀ (S : sT) (P : sT → Prop) (Q : Int32 → sT → Prop) (Q' : Int32 → yT → Prop), rSt X (fF E) P → (∀ x S Z, RC X (fF E) S Z → P S → Q' x Z → Q x S) → RC X (fF E) S N → P S → rf Q' → wR S Q) :
    (∃ (v : Int32) (Z' : zT) (N' : yT), LI E n Z' N' ∧ N' 80 0 = 0 ∧ (∀ Q : Int32 → sT → Prop, (∀ S1, LX x3 x4 H X E S1 Z' N → Q v S1) → wC Q) ∧ ∀ (S2 : sT) (j : Int64), LX x3 x4 H X E S2 Z' N → s_G S2 x3 0 = j → ∀ Q : Int32 → sT → Prop, (∀ S3, LX x3 x4 H X E S3 Z' N' → s_G S3 x3 0 = j → Q v S3) → wR S2 Q) ∨
    (∃ (c : Nat) (ex : String) (u : Int32) (N' : yT), exs[c]? = some ex ∧ LI E n Z N' ∧ N' 80 0 = nI (c + 1) ∧ (∀ Q : String → sT → Prop, (∀ S1, LX x3 x4 H X E S1 Z N → Q ex S1) → wT Q) ∧ ∀ S2 : sT, LX x3 x4 H X E S2 Z N → ∀ Q : Int32 → sT → Prop, (∀ S3, LX x3 x4 H X E S3 Z N' → Q u S3) → wR S2 Q) := by
  obtain ⟨hC, hR, hO⟩ := hX
  rcases hr with ⟨v, Z', N', h1, h2, h3, h4⟩ | ⟨c, ex, u, N', h0, h1, h2, h3, h4⟩
  · refine Or.inl ⟨v, Z', N', h4, h3, fun Q hq => uC (fun S => RC X (fF E) S N ∧ OK x3 x4 H E S) Q (fun x z => x = v ∧ z = Z') st_c (fun x S1 z hc hp e => ?_) hC ⟨hR, hO⟩ (h1 _ ⟨rfl, rfl⟩), fun S2 j hx hj Q hq => uR S2 (fun S => CC H E S Z' ∧ OK x3 x4 H E S ∧ s_G S x3 0 = j ∧ s_D S x4 0 = s_D S2 x4 0) Q (fun x z => x = v ∧ z = N') st_r (fun x S1 z hc hp e => ?_) hx.2.1 ⟨hx.1, hx.2.2, hj, rfl⟩ (h2 _ ⟨rfl, rfl⟩)⟩
    · obtain ⟨e1, e2⟩ := e
      subst e1 e2
      exact hq S1 ⟨hc, hp⟩
    · obtain ⟨e1, e2⟩ := e
      subst e1 e2
      exact hq S1 ⟨hp.1, hc, hp.2.1⟩ hp.2.2.1
  · refine Or.inr ⟨c, ex, u, N', h0, h4, h3, fun Q hq => uT (fun S => RC X (fF E) S N ∧ OK x3 x4 H E S) Q (fun x z => x = ex ∧ z = Z) st_c (fun x S1 z hc hp e => ?_) hC ⟨hR, hO⟩ (h1 _ ⟨rfl, rfl⟩), fun S2 hx Q hq => uR S2 (fun S => CC H E S Z ∧ OK x3 x4 H E S ∧ s_G S x3 0 = s_G S2 x3 0 ∧ s_D S x4 0 = s_D S2 x4 0) Q (fun x z => x = u ∧ z = N') st_r (fun x S1 z hc hp e => ?_) hx.2.1 ⟨hx.1, hx.2.2, rfl, rfl⟩ (h2 _ ⟨rfl, rfl⟩)⟩
    · obtain ⟨e1, e2⟩ := e
      subst e1 e2
      exact hq S1 ⟨hc, hp⟩
    · obtain ⟨e1, e2⟩ := e
      subst e1 e2
      exact hq S1 ⟨hp.1, hc, hp.2.1⟩
/-- what holds when the class's call has ended with the law's code r, before the model's -/
def AFT (x1 x2 x3 x4 : Nat) (E : eT) (n : Nat) (cv : Int32 → Int64) (wR : sT → (Int32 → sT → Prop) → Prop) (r : Int32) (S1 : sT) : Prop := s_K S1 x2 = 10 ∧
  ((r = 0 ∧ ∃ v : Int32, ∀ Q : Int32 → sT → Prop, (∀ S3, LW x1 x2 x3 x4 E n S3 → s_K S3 x2 = 10 → s_I S3 288 x2 = r → s_K S3 x3 = 14 → s_N S3 x3 = 1 → s_G S3 x3 0 = cv v → Q v S3) → wR S1 Q) ∨
   (r ≠ 0 ∧ ∃ u : Int32, ∀ Q : Int32 → sT → Prop, (∀ S3, LW x1 x2 x3 x4 E n S3 → s_K S3 x2 = 10 → s_I S3 288 x2 = r → Q u S3) → wR S1 Q))
/-- the class's call as the law's helper makes it: two ways -/
def HLP (x1 x2 x3 x4 : Nat) (E : eT) (n : Nat) (cv : Int32 → Int64) (wC : (Int32 → sT → Prop) → Prop) (wT : (String → sT → Prop) → Prop) (wR : sT → (Int32 → sT → Prop) → Prop) (exs : List String) : Prop :=
  (∃ v : Int32, ∀ Q : Int32 → sT → Prop, (∀ S1, s_K S1 x3 = 14 → s_N S1 x3 = 1 → AFT x1 x2 x3 x4 E n cv wR 0 (s_sG S1 x3 0 (cv v)) → Q v S1) → wC Q) ∨
  (∃ (c : Nat) (ex : String), exs[c]? = some ex ∧ ∀ Q : String → sT → Prop, (∀ S1, AFT x1 x2 x3 x4 E n cv wR (nI (c + 1)) S1 → Q ex S1) → wT Q)
theorem nI_nz4 {c : Nat} (h : c < 4) : nI (c + 1) ≠ 0 := by
  rcases (show c = 0 ∨ c = 1 ∨ c = 2 ∨ c = 3 by omega) with rfl | rfl | rfl | rfl <;> decide
theorem HLP_mk {cl : (Int32 → zT → Prop) → Prop} {clT : (String → zT → Prop) → Prop} {rf : (Int32 → yT → Prop) → Prop} {exs : List String} {wC : (Int32 → sT → Prop) → Prop} {wT : (String → sT → Prop) → Prop} {wR : sT → (Int32 → sT → Prop) → Prop}
    (cv : Int32 → Int64) (e1 : x1 = H 0 9 0) (e2 : x2 = X 0 0) (hX : LX x3 x4 H X E S Z N) (hl : exs.length ≤ 4) (hr : RES E n Z N cl clT rf exs)
    (uC : ∀ (P : sT → Prop) (Q : Int32 → sT → Prop) (Q' : Int32 → zT → Prop), cSt P → (∀ x S Z, CC H E S Z → P S → Q' x Z → Q x S) → CC H E S Z → P S → cl Q' → wC Q)
    (uT : ∀ (P : sT → Prop) (Q : String → sT → Prop) (Q' : String → zT → Prop), cSt P → (∀ x S Z, CC H E S Z → P S → Q' x Z → Q x S) → CC H E S Z → P S → clT Q' → wT Q)
    (uR : ∀ (S : sT) (P : sT → Prop) (Q : Int32 → sT → Prop) (Q' : Int32 → yT → Prop), rSt X (fF E) P → (∀ x S Z, RC X (fF E) S Z → P S → Q' x Z → Q x S) → RC X (fF E) S N → P S → rf Q' → wR S Q) : HLP x1 x2 x3 x4 E n cv wC wT wR exs := by
  rcases g_res hX hr uC uT uR with ⟨v, Z', N', a1, a2, a3, a4⟩ | ⟨c, ex, u, N', a0, a1, a2, a3, a4⟩
  · refine Or.inl ⟨v, fun Q hq => a3 Q (fun S1 h1 => hq S1 h1.2.2.2.1 h1.2.2.2.2.1 ⟨?_, Or.inl ⟨rfl, v, fun Q2 hq2 => a4 _ (cv v) (LX_sG h1) (if_pos ⟨rfl, rfl⟩) Q2 (fun S3 h3 hg => ?_)⟩⟩)⟩
    · rw [e2]; exact rK_Mod h1.2.1 trivial
    · exact hq2 S3 ⟨H, X, Z', N', e1, e2, h3, a1⟩ (by rw [e2]; exact rK_Mod h3.2.1 trivial) (by rw [e2, rI_80 h3.2.1 trivial, a2]) h3.2.2.2.1 h3.2.2.2.2.1 hg
  · refine Or.inr ⟨c, ex, a0, fun Q hq => a3 Q (fun S1 h1 => hq S1 ⟨?_, Or.inr ⟨nI_nz4 ?_, u, fun Q2 hq2 => a4 _ h1 Q2 (fun S3 h3 => ?_)⟩⟩)⟩
    · rw [e2]; exact rK_Mod h1.2.1 trivial
    · have := (List.getElem?_eq_some_iff.mp a0).1
      omega
    · exact hq2 S3 ⟨H, X, Z, N', e1, e2, h3, a1⟩ (by rw [e2]; exact rK_Mod h3.2.1 trivial) (by rw [e2, rI_80 h3.2.1 trivial, a2])
theorem vp_in01 {N1 : Nat} (h : N1 = 1) : vp_in (0 : Int32) N1 := by
  rw [h]; unfold vp_in; decide
/-- the law's comparing after both calls -/
theorem fin_i {wR : sT → (Int32 → sT → Prop) → Prop} {r : Int32} {K : sT → Prop} (hA : AFT x1 x2 x3 x4 E n Int32.toInt64 wR r S) (hK : ∀ S3, LW x1 x2 x3 x4 E n S3 → K S3) :
    s_K S x2 = 10 ∧ wR S (fun v S2 => s_K S2 x2 = 10 ∧ w_X8_thrown x2 S2 (fun t S3 => ((t = r → ((¬ r = 0 → K S3) ∧ (r = 0 → s_K S3 x3 = 14 ∧ vp_in (0 : Int32) (s_N S3 x3) ∧ ∀ j : Int64, j = s_G S3 x3 (Int32.toNatClampNeg (0 : Int32)) → ∀ j2 : Int64, j2 = Int32.toInt64 v → ∀ x : Int32, x = lg_cmp j j2 → ((x = 0 → K S3) ∧ (¬ x = 0 → False))))) ∧ (¬ t = r → False)))) := by
  obtain ⟨h0, ⟨hr, v, h⟩ | ⟨hr, u, h⟩⟩ := hA
  · refine ⟨h0, h _ (fun S3 hW hk hi h3 hn hg => ⟨hk, hk, fun t et => ?_⟩)⟩
    rw [hi] at et
    subst hr
    refine ⟨fun _ => ⟨fun c => absurd rfl c, fun _ => ⟨h3, vp_in01 hn, fun j ej j2 ej2 x ex => ?_⟩⟩, fun c => absurd et c⟩
    have e1 : j = j2 := by rw [ej, ej2]; exact hg
    have e2 : x = 0 := by rw [ex, e1]; exact (lg_cmp_eq _ _).mpr rfl
    exact ⟨fun _ => hK S3 hW, fun c => absurd e2 c⟩
  · refine ⟨h0, h _ (fun S3 hW hk hi => ⟨hk, hk, fun t et => ?_⟩)⟩
    rw [hi] at et
    exact ⟨fun _ => ⟨fun _ => hK S3 hW, fun c => absurd c hr⟩, fun c => absurd et c⟩
end
