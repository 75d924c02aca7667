/-! ===== a trial world of the model ===== -/
section
variable {S S' S0 S1 : sT} {E : eT} {X X' : Nat → Nat → Nat} {N N' : yT}
theorem RC_mX {F : fT} {X0 : Nat} (hF : ¬ F.2.2) (hR : RS X' F S) (hV : RV X' F (s_B S) N) : RC (mX X0 X') F S N := by
  obtain ⟨h1, h2, ha, hb, hc, hd, he, -⟩ := hR
  have fr : ∀ f k, r_ok F f k → f ≠ 0 := fun f k h => by rcases h with ⟨rfl, _⟩ | ⟨rfl, _⟩ | ⟨_, _, _⟩ <;> omega
  obtain ⟨q1, q2, q3, q4, q5⟩ := hV
  refine ⟨⟨h1, fun f k g j hf hg e => ?_, ?_, ?_, ?_, ?_, ?_, fun z => absurd z hF⟩, ?_, fun z => absurd z hF⟩
  · rw [mX_o (fr f k hf), mX_o (fr g j hg)] at e
    exact h2 f k g j hf hg e
  · rw [mX_o (by decide), mX_o (by decide), mX_o (by decide), mX_o (by decide), mX_o (by decide), mX_o (by decide)]; exact ha
  · rw [mX_o (by decide), mX_o (by decide)]; exact hb
  · rw [mX_o (by decide), mX_o (by decide)]; exact hc
  · rw [mX_o (by decide), mX_o (by decide)]; exact hd
  · rw [mX_o (by decide), mX_o (by decide), mX_o (by decide)]; exact he
  · unfold RV
    rw [mX_o (by decide), mX_o (by decide), mX_o (by decide), mX_o (by decide), mX_o (by decide)]
    exact ⟨q1, q2, q3, q4, q5⟩
abbrev fT0 (E : eT) : fT := (E.1, E.2.1, False)
theorem RV_Nw {B : Nat → Nat → Int32} (h : RV X' (fT0 E) B (wE N E.1 E.2.1)) : RV X' (fT0 E) B (Nw N) := by
  refine RV_mk (fun f k j ho hj => (RV_get h ho hj).trans ?_)
  rcases ho with ⟨rfl, hk⟩ | ⟨rfl, hk⟩ | ⟨l1, l2, rfl⟩
  · have hj : j < 10 := hj
    have hk : k < E.1 := hk
    rw [show r_c 4 k j = (32 + j, k) from rfl]
    dsimp only
    unfold wE wF wS Nw
    rw [if_neg (by omega), if_neg (by omega), if_pos ⟨by omega, by omega, hk⟩, if_neg (by omega)]
  · have hj : j < 22 := hj
    have hk : k < E.2.1 := hk
    rw [show r_c 5 k j = (j, k) from rfl]
    dsimp only
    unfold wE wF Nw
    rw [if_neg (by omega), if_pos ⟨hj, hk⟩, if_neg (by omega)]
  · rcases (show f = 6 ∨ f = 7 ∨ f = 8 by omega) with rfl | rfl | rfl
    · have hj : j < 11 := hj
      rw [show r_c 6 0 j = (64 + j, 0) from rfl]
      dsimp only
      unfold wE Nw
      rw [if_pos ⟨by omega, by omega, rfl⟩, if_neg (by omega)]
    · rw [show r_c 7 0 j = (22, j) from rfl]
      dsimp only
      unfold wE wF wS Nw
      rw [if_neg (by omega), if_neg (by omega), if_neg (by omega), if_pos (Or.inl rfl)]
    · rw [show r_c 8 0 j = (23, j) from rfl]
      dsimp only
      unfold wE wF wS Nw
      rw [if_neg (by omega), if_neg (by omega), if_neg (by omega), if_pos (Or.inr rfl)]
/-- a trial world: all its places are new -/
def TWd (S0 : sT) (X' : Nat → Nat → Nat) (E : eT) : Prop := s_K S0 (X' 0 0) = 0 ∧ ∀ f k, r_ok (fT0 E) f k → s_K S0 (X' f k) = 0
theorem ra_with {Q : Nat → sT → Prop} {mc ms : Nat} (hC : RC X (fF E) S N) (h3 : E.1 ≤ 3) (h12 : E.2.1 ≤ 12) (hmc : 6 + E.1 + E.2.1 ≤ mc) (hms : 40 + 11 * E.1 + 23 * E.2.1 ≤ ms) (hQ : ∀ S' X', FRM no_ no_ S S' → (AL S → AL S') → TWd S X' E → RC X' (fT0 E) S' (Nw N) → Q (X' 1 0) S') : wA_X7_with mc ms (X 1 0) 0 0 S Q := by
  refine wi_with (F := fF E) (d1 := 0) (d2 := 0) hC.1 hC.2.1 rfl rfl h3 h12 (by show 6 + (E.1 + 0) + (E.2.1 + 0) ≤ mc; omega) (by show 40 + 11 * (E.1 + 0) + 23 * (E.2.1 + 0) ≤ ms; omega) (fun S' X' F A hz hR hV => ?_)
  have := hQ S' (mX (X' 1 0) X') F A ⟨by rw [mX_0]; exact hz 1 0 (Or.inr ⟨Or.inl rfl, rfl⟩), fun f k h => ?_⟩ (RC_mX (F := fT0 E) (fun z => z) hR (RV_Nw hV))
  · rw [mX_o (by decide)] at this
    exact this
  · have h0 : f ≠ 0 := by rcases h with ⟨rfl, _⟩ | ⟨rfl, _⟩ | ⟨_, _, _⟩ <;> omega
    rw [mX_o h0]
    exact hz f k (Or.inl h)
/-- what a trial leaves as it is -/
def TP (S0 : sT) (S : sT) : Prop := FRM no_ no_ S0 S ∧ (AL S0 → AL S)
theorem TP_st (h : TWd S0 X' E) : rSt X' (fT0 E) (TP S0) :=
  ⟨fun _ f k _ _ ho hp => ⟨hp.1.sB (Or.inl (h.2 f k ho)), hp.2⟩, fun _ _ hp => ⟨hp.1.sI (Or.inl h.1), hp.2⟩⟩
end
