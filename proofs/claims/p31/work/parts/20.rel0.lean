/-! ===== both sides' days: first helps ===== -/
theorem itd_foldl {α : Type} (f : Nat → α → α) : ∀ (d j : Nat) (a : α), itd f j d a = (List.range' j d).foldl (fun a k => f k a) a := by
  intro d
  induction d with
  | zero => intro j a; rfl
  | succ d ih => intro j a; rw [itd_s, ih, List.range'_succ]; rfl
theorem mem_foldl {α : Type} (E : eT) (i : Nat) (f : Nat → α → α) (a : α) : (ce_mem E i).foldl (fun a k => f k a) a = itd (fun k a => if E.2.2 k = i then f k a else a) 0 E.2.1 a := by
  unfold ce_mem
  rw [List.foldl_filter, itd_foldl, List.range_eq_range']
  congr 1
  funext a k
  simp only [beq_iff_eq]
theorem zeroL_f : ∀ (l : List Nat) (M : yT), zeroL l M = l.foldl (fun M k => s_up2 M 11 k 0) M := by
  intro l
  induction l with
  | nil => intro M; rfl
  | cons a l ih => intro M; exact ih _
theorem parL_f (M : yT) : ∀ (l : List Nat) (s : Int32), parL M l s = l.foldl (fun s k => s + if tkI M k = 0 then 0 else M 13 k + M 15 k) s := by
  intro l
  induction l with
  | nil => intro s; rfl
  | cons a l ih => intro s; exact ih _
theorem givL_f (i : Nat) (th pa : Int32) : ∀ (l : List Nat) (M : yT), givL i th pa l M = l.foldl (fun M k => givS i th pa k M) M := by
  intro l
  induction l with
  | nil => intro M; rfl
  | cons a l ih => intro M; exact ih _
theorem itd_rel {α β : Type} {f : Nat → α → α} {g : Nat → β → β} {R : Nat → α → β → Prop} : ∀ (d j : Nat) (a : α) (b : β), (∀ k a b, j ≤ k → k < j + d → R k a b → R (k + 1) (f k a) (g k b)) → R j a b → R (j + d) (itd f j d a) (itd g j d b) := by
  intro d
  induction d with
  | zero => intro j a b _ h; exact h
  | succ d ih =>
    intro j a b hs h
    rw [itd_s, itd_s, show j + (d + 1) = (j + 1) + d by omega]
    exact ih (j + 1) _ _ (fun k a b h1 h2 => hs k a b (by omega) (by omega)) (hs j a b (by omega) (by omega) h)
theorem itd_inv {α : Type} {f : Nat → α → α} {R : Nat → α → Prop} (d j : Nat) (a : α) (hs : ∀ k a, j ≤ k → k < j + d → R k a → R (k + 1) (f k a)) (h : R j a) : R (j + d) (itd f j d a) :=
  itd_rel (f := f) (g := fun _ (b : Unit) => b) (R := fun k a _ => R k a) d j a () (fun k a _ h1 h2 h3 => hs k a h1 h2 h3) h
theorem ti_div' {a : Int32} (c : Nat) (b : Int32) (hb : b.toInt = (c : Int)) (hc : 0 < c) (h1 : 0 ≤ a.toInt) : (a / b).toInt = a.toInt / (c : Int) := by
  rw [ti_div h1 (by omega), hb]
theorem ti_rem {a b : Int32} (h1 : 0 ≤ a.toInt) (h2 : 0 < b.toInt) : (a - a / b * b).toInt = a.toInt % b.toInt := by
  have r := ti_r a
  have e1 := ti_div h1 h2
  have h3 : 0 ≤ a.toInt / b.toInt := Int.ediv_nonneg h1 (Int.le_of_lt h2)
  have h4 : b.toInt * (a.toInt / b.toInt) + a.toInt % b.toInt = a.toInt := Int.mul_ediv_add_emod _ _
  have h5 : 0 ≤ a.toInt % b.toInt := Int.emod_nonneg _ (by omega)
  have h6 : a.toInt / b.toInt * b.toInt = b.toInt * (a.toInt / b.toInt) := Int.mul_comm _ _
  have h7 : 0 ≤ a.toInt / b.toInt * b.toInt := Int.mul_nonneg h3 (Int.le_of_lt h2)
  have e2 : (a / b * b).toInt = a.toInt / b.toInt * b.toInt := by
    rw [ti_mul (by rw [e1]; omega) (by rw [e1]; omega), e1]
  rw [ti_sub (by rw [e2]; omega) (by rw [e2]; omega), e2]
  omega
theorem xor_pos (x y : Int32) (hy : 0 ≤ y.toInt) : (0 ≤ x ^^^ y) ↔ 0 ≤ x.toInt := by
  rw [ti_le]
  have h0 : (0 : Int32).toInt = 0 := rfl
  have h1 : (x ^^^ y).toBitVec.msb = (x.toBitVec.msb ^^ y.toBitVec.msb) := by rw [Int32.toBitVec_xor, BitVec.msb_xor]
  rw [BitVec.msb_eq_toInt, BitVec.msb_eq_toInt, BitVec.msb_eq_toInt] at h1
  have hy2 : ¬ y.toBitVec.toInt < 0 := by have : y.toBitVec.toInt = y.toInt := rfl; omega
  have hx : x.toBitVec.toInt = x.toInt := rfl
  have hxy : (x ^^^ y).toBitVec.toInt = (x ^^^ y).toInt := rfl
  rw [hx, hxy, decide_eq_false hy2, Bool.xor_false, decide_eq_decide] at h1
  rw [h0]
  omega
theorem fm_pos {x y : Int32} (h : 0 ≤ x.toInt) (hy : 0 < y.toInt) : fmod x y = x - x / y * y := if_pos ((xor_pos x y (by omega)).mpr h)
theorem t210 : (210 : Int32).toInt = 210 := rfl
theorem fm_ti {x : Int32} (h : 0 ≤ x.toInt) : (fmod x 210).toInt = x.toInt % 210 := by
  rw [fm_pos h (by rw [t210]; decide), ti_rem h (by rw [t210]; decide), t210]
theorem open_eq {d f : Int32} (hd : 0 ≤ d.toInt) (h0 : 0 ≤ f.toInt) (h1 : f.toInt ≤ 209) : fmod (fmod d 210 - f) 210 = (fun y : Int32 => y - y / 210 * 210) (d - d / 210 * 210 - f + 210) := by
  have e0 : fmod d 210 = d - d / 210 * 210 := fm_pos hd (by rw [t210]; decide)
  have e1 := fm_ti hd
  rw [e0] at e1
  rw [e0]
  generalize d - d / 210 * 210 = t at e1
  have e2 : (t - f).toInt = t.toInt - f.toInt := ti_sub (by omega) (by omega)
  generalize t - f = s at e2
  have e3 : (s + 210).toInt = s.toInt + 210 := by rw [ti_add (by rw [t210]; omega) (by rw [t210]; omega), t210]
  have e4 : ((s + 210) - (s + 210) / 210 * 210).toInt = (s.toInt + 210) % 210 := by rw [ti_rem (by omega) (by rw [t210]; decide), e3, t210]
  show fmod s 210 = (s + 210) - (s + 210) / 210 * 210
  by_cases hs : 0 ≤ s.toInt
  · rw [ti_eq, e4, fm_ti hs]; omega
  · have h2 : ¬ (0 ≤ s ^^^ 210) := fun z => hs ((xor_pos s 210 (by rw [t210]; decide)).mp z)
    have h3 : s / 210 = 0 := by
      rw [ti_eq, Int32.toInt_div, t210]
      have h4 : s.toInt = -(-s.toInt) := by omega
      rw [h4, Int.neg_tdiv, Int.tdiv_eq_zero_of_lt (by omega) (by omega)]
      rfl
    have h5 : s - s / 210 * 210 = s := by
      rw [h3, ti_eq]
      have : ((0 : Int32) * 210).toInt = 0 := rfl
      rw [ti_sub (by rw [this]; have := ti_r s; omega) (by rw [this]; have := ti_r s; omega), this]; omega
    have h6 : ¬ s = 0 := fun z => hs (by rw [z]; decide)
    unfold fmod
    rw [if_neg h2, h5, if_neg h6, ti_eq, e4, e3]
    omega
/-! relation -/
def EQ (C : Nat → Prop) (M N : yT) : Prop := ∀ c : Nat, C c → ∀ k : Nat, M c k = N c k
def CD (C : Nat → Prop) : Prop := (C 1 ∧ C 2 ∧ C 3 ∧ C 4 ∧ C 8 ∧ C 9 ∧ C 12 ∧ C 13 ∧ C 14 ∧ C 15 ∧ C 16 ∧ C 17 ∧ C 32 ∧ C 33 ∧ C 34 ∧ C 35 ∧ C 37 ∧ C 38 ∧ C 39 ∧ C 64 ∧ C 68) ∧ (¬ C 0 ∧ ¬ C 5 ∧ ¬ C 6 ∧ ¬ C 7 ∧ ¬ C 11 ∧ ¬ C 22 ∧ ¬ C 23 ∧ ¬ C 80)
theorem EQ_up {C : Nat → Prop} {M N : yT} {c k : Nat} {a b : Int32} (h : EQ C M N) (e : C c → a = b) : EQ C (s_up2 M c k a) (s_up2 N c k b) := by
  intro c' hc k'
  rw [up_rd, up_rd]
  by_cases h1 : c' = c ∧ k' = k
  · rw [if_pos h1, if_pos h1]; exact e (h1.1 ▸ hc)
  · rw [if_neg h1, if_neg h1]; exact h c' hc k'
theorem EQ_l {C : Nat → Prop} {M N : yT} {c k : Nat} {a : Int32} (h : EQ C M N) (e : C c → a = N c k) : EQ C (s_up2 M c k a) N := by
  intro c' hc k'
  rw [up_rd]
  by_cases h1 : c' = c ∧ k' = k
  · rw [if_pos h1]; obtain ⟨h2, h3⟩ := h1; subst h2 h3; exact e hc
  · rw [if_neg h1]; exact h c' hc k'
theorem EQ_r {C : Nat → Prop} {M N : yT} {c k : Nat} {a : Int32} (h : EQ C M N) (e : C c → M c k = a) : EQ C M (s_up2 N c k a) := by
  intro c' hc k'
  rw [up_rd]
  by_cases h1 : c' = c ∧ k' = k
  · rw [if_pos h1]; obtain ⟨h2, h3⟩ := h1; subst h2 h3; exact e hc
  · rw [if_neg h1]; exact h c' hc k'
def K5 (n : Nat) (M N : yT) : Prop := ∀ k : Nat, k < n → 2 ≤ (M 4 k).toInt → M 5 k = N 5 k ∧ M 6 k = N 6 k ∧ M 7 k = N 7 k
/-- a field's numbers: dry at most D, water, cracks, dry, stage, pests, nitrogen, gate, notch, stones, ducks, kind, sum, vigour -/
def iFv (D : Int) (wa cr dr st pe ni op no sn du ki su vi : Int32) : Prop :=
  (0 ≤ wa.toInt ∧ 0 ≤ cr.toInt ∧ cr.toInt ≤ 3 ∧ 0 ≤ dr.toInt ∧ dr.toInt ≤ D) ∧ (0 ≤ st.toInt ∧ st.toInt ≤ 5 ∧ 0 ≤ pe.toInt ∧ pe.toInt ≤ 99 ∧ 0 ≤ ni.toInt ∧ ni.toInt ≤ 50) ∧
  ((op = 0 ∨ op = 1) ∧ 1 ≤ no.toInt ∧ no.toInt ≤ 9 ∧ 0 ≤ sn.toInt ∧ sn.toInt ≤ 5 ∧ (du = 0 ∨ du = 1)) ∧
  (2 ≤ st.toInt → (0 ≤ ki.toInt ∧ ki.toInt ≤ 2 ∧ 0 ≤ su.toInt ∧ su.toInt ≤ 300 ∧ 0 ≤ vi.toInt ∧ vi.toInt ≤ 100) ∧ (st.toInt = 3 ∨ st.toInt = 4 → 60 + 20 * ki.toInt ≤ su.toInt) ∧ (st.toInt ≤ 4 → su.toInt < 260))
def iF (D : Int) (M : yT) (k : Nat) : Prop := iFv D (M 1 k) (M 2 k) (M 3 k) (M 4 k) (M 8 k) (M 9 k) (M 12 k) (M 13 k) (M 15 k) (M 16 k) (M 5 k) (M 6 k) (M 7 k)
def iS (M : yT) (i : Nat) : Prop := 1 ≤ (M 32 i).toInt ∧ (M 32 i).toInt ≤ 9 ∧ 0 ≤ (M 34 i).toInt ∧ (M 34 i).toInt ≤ 209 ∧ (M 38 i = 0 ∨ M 38 i = 1)
def ST (V M N : yT) : Prop := (∀ c : Nat, (c = 13 ∨ c = 14 ∨ c = 32 ∨ c = 33) → ∀ k : Nat, M c k = V c k) ∧ (∀ c : Nat, (c = 0 ∨ c = 65 ∨ c = 66 ∨ c = 67) → ∀ k : Nat, N c k = V c k)
def dRel (C : Nat → Prop) (E : eT) (V : yT) (T : Int) (D : Nat → Int) (M N : yT) : Prop :=
  EQ C M N ∧ K5 E.2.1 M N ∧ (∀ k : Nat, k < E.2.1 → iF (D k) M k) ∧ (∀ i : Nat, i < E.1 → iS M i) ∧ ST V M N ∧ (0 ≤ (M 64 0).toInt ∧ (M 64 0).toInt ≤ T)
/-- the shape and its society column -/
def EW (E : eT) (V : yT) : Prop := E.1 ≤ 3 ∧ E.2.1 ≤ 12 ∧ (∀ k : Nat, k < E.2.1 → E.2.2 k < E.1) ∧ (∀ k : Nat, k < E.2.1 → V 0 k = nI (E.2.2 k))
theorem iF_ne {D : Int} {M : yT} {c k j : Nat} {a : Int32} (h : j ≠ k) (hi : iF D M j) : iF D (s_up2 M c k a) j := by
  unfold iF at hi ⊢
  simp only [up_rd, h, and_false, if_false]
  exact hi
theorem iF_D {D D' : Int} {M : yT} {k : Nat} (h : iF D M k) (hd : D ≤ D') : iF D' M k := by
  obtain ⟨⟨h1, h2, h3, h4, h5⟩, h6⟩ := h
  exact ⟨⟨h1, h2, h3, h4, by omega⟩, h6⟩
theorem iF_c {D : Int} {M : yT} {c k j : Nat} {a : Int32} (h : c ≠ 1 ∧ c ≠ 2 ∧ c ≠ 3 ∧ c ≠ 4 ∧ c ≠ 8 ∧ c ≠ 9 ∧ c ≠ 12 ∧ c ≠ 13 ∧ c ≠ 15 ∧ c ≠ 16 ∧ c ≠ 5 ∧ c ≠ 6 ∧ c ≠ 7) (hi : iF D M j) : iF D (s_up2 M c k a) j := by
  obtain ⟨a1, a2, a3, a4, a5, a6, a7, a8, a9, a10, a11, a12, a13⟩ := h
  unfold iF at hi ⊢
  simp only [up_rd, a1.symm, a2.symm, a3.symm, a4.symm, a5.symm, a6.symm, a7.symm, a8.symm, a9.symm, a10.symm, a11.symm, a12.symm, a13.symm, false_and, if_false]
  exact hi
theorem iS_c {M : yT} {c k j : Nat} {a : Int32} (h : c ≠ 32 ∧ c ≠ 34 ∧ c ≠ 38) (hi : iS M j) : iS (s_up2 M c k a) j := by
  obtain ⟨a1, a2, a3⟩ := h
  unfold iS at hi ⊢
  simp only [up_rd, a1.symm, a2.symm, a3.symm, false_and, if_false]
  exact hi
theorem ST_l {V M N : yT} {c k : Nat} {a : Int32} (h : ST V M N) (hc : c ≠ 13 ∧ c ≠ 14 ∧ c ≠ 32 ∧ c ≠ 33) : ST V (s_up2 M c k a) N :=
  ⟨fun c' h1 k' => (if_neg (fun z => by omega)).trans (h.1 c' h1 k'), h.2⟩
theorem ST_r {V M N : yT} {c k : Nat} {a : Int32} (h : ST V M N) (hc : c ≠ 0 ∧ c ≠ 65 ∧ c ≠ 66 ∧ c ≠ 67) : ST V M (s_up2 N c k a) :=
  ⟨h.1, fun c' h1 k' => (if_neg (fun z => by omega)).trans (h.2 c' h1 k')⟩
/-- a write of one column that no bound speaks of, on both sides -/
theorem dRel_up {C : Nat → Prop} {E : eT} {V : yT} {T : Int} {D : Nat → Int} {M N : yT} {c k : Nat} {a b : Int32} (h : dRel C E V T D M N) (e : C c → a = b)
    (h1 : c ≠ 1 ∧ c ≠ 2 ∧ c ≠ 3 ∧ c ≠ 4 ∧ c ≠ 8 ∧ c ≠ 9 ∧ c ≠ 12 ∧ c ≠ 13 ∧ c ≠ 15 ∧ c ≠ 16 ∧ c ≠ 5 ∧ c ≠ 6 ∧ c ≠ 7) (h2 : c ≠ 32 ∧ c ≠ 34 ∧ c ≠ 38) (h3 : c ≠ 14 ∧ c ≠ 33) (h4 : c ≠ 0 ∧ c ≠ 65 ∧ c ≠ 66 ∧ c ≠ 67) (h5 : c ≠ 64) : dRel C E V T D (s_up2 M c k a) (s_up2 N c k b) := by
  obtain ⟨r1, r2, r3, r4, r5, r6⟩ := h
  refine ⟨EQ_up r1 e, fun j hj hs => ?_, fun j hj => iF_c h1 (r3 j hj), fun i hi => iS_c h2 (r4 i hi), ST_r (ST_l r5 (by omega)) h4, ?_⟩
  · simp only [up_rd, h1.2.2.2.1.symm, h1.2.2.2.2.2.2.2.2.2.2.1.symm, h1.2.2.2.2.2.2.2.2.2.2.2.1.symm, h1.2.2.2.2.2.2.2.2.2.2.2.2.symm, false_and, if_false] at hs ⊢
    exact r2 j hj hs
  · simp only [up_rd, h5.symm, false_and, if_false]; exact r6
theorem dRel_l {C : Nat → Prop} {E : eT} {V : yT} {T : Int} {D : Nat → Int} {M N : yT} {c k : Nat} {a : Int32} (h : dRel C E V T D M N) (e : C c → a = N c k)
    (h1 : c ≠ 1 ∧ c ≠ 2 ∧ c ≠ 3 ∧ c ≠ 4 ∧ c ≠ 8 ∧ c ≠ 9 ∧ c ≠ 12 ∧ c ≠ 13 ∧ c ≠ 15 ∧ c ≠ 16 ∧ c ≠ 5 ∧ c ≠ 6 ∧ c ≠ 7) (h2 : c ≠ 32 ∧ c ≠ 34 ∧ c ≠ 38) (h3 : c ≠ 14 ∧ c ≠ 33) (h5 : c ≠ 64) : dRel C E V T D (s_up2 M c k a) N := by
  obtain ⟨r1, r2, r3, r4, r5, r6⟩ := h
  refine ⟨EQ_l r1 e, fun j hj hs => ?_, fun j hj => iF_c h1 (r3 j hj), fun i hi => iS_c h2 (r4 i hi), ST_l r5 (by omega), ?_⟩
  · simp only [up_rd, h1.2.2.2.1.symm, h1.2.2.2.2.2.2.2.2.2.2.1.symm, h1.2.2.2.2.2.2.2.2.2.2.2.1.symm, h1.2.2.2.2.2.2.2.2.2.2.2.2.symm, false_and, if_false] at hs ⊢
    exact r2 j hj hs
  · simp only [up_rd, h5.symm, false_and, if_false]; exact r6
theorem dRel_r {C : Nat → Prop} {E : eT} {V : yT} {T : Int} {D : Nat → Int} {M N : yT} {c k : Nat} {a : Int32} (h : dRel C E V T D M N) (e : C c → M c k = a) (h1 : c ≠ 5 ∧ c ≠ 6 ∧ c ≠ 7) (h4 : c ≠ 0 ∧ c ≠ 65 ∧ c ≠ 66 ∧ c ≠ 67) : dRel C E V T D M (s_up2 N c k a) := by
  obtain ⟨r1, r2, r3, r4, r5, r6⟩ := h
  refine ⟨EQ_r r1 e, fun j hj hs => ?_, r3, r4, ST_r r5 h4, r6⟩
  simp only [up_rd, h1.1.symm, h1.2.1.symm, h1.2.2.symm, false_and, if_false]
  exact r2 j hj hs
