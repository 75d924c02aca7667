/-! ===== p31: the law, in the store ===== -/
theorem and_nn (x : Int32) : 0 ≤ (x &&& (2147483647 : Int32)).toInt := by
  have h1 : (x &&& (2147483647 : Int32)).toBitVec.msb = (x.toBitVec.msb && (2147483647 : Int32).toBitVec.msb) := by rw [Int32.toBitVec_and, BitVec.msb_and]
  have h2 : (2147483647 : Int32).toBitVec.msb = false := by decide
  rw [h2, Bool.and_false, BitVec.msb_eq_toInt, decide_eq_false_iff_not] at h1
  have h3 : (x &&& (2147483647 : Int32)).toBitVec.toInt = (x &&& (2147483647 : Int32)).toInt := rfl
  omega
/-- the law's own arrays: bunds at a, stages at b -/
def PA (a b : Nat) (bu st : Nat → Int32) (S : sT) : Prop := a ≠ b ∧ (s_K S a = 11 ∧ s_N S a = 9 ∧ ∀ j, s_B S a j = bu j) ∧ s_K S b = 11 ∧ s_N S b = 9 ∧ ∀ j, s_B S b j = st j
theorem st_PA {a b : Nat} {bu st : Nat → Int32} : cSt (PA a b bu st) := fun _ _ _ _ _ h => h
/-- a stage may go from a to b -/
def OKst (a b : Int32) : Prop := (a ≤ b ∨ ¬ 0 < b) ∧ (b ≤ a ∨ (2 : Int32) ≤ a ∨ b ≤ 2)
theorem OKst_rf {a : Int32} : OKst a a := ⟨Or.inl (by rw [ti_le]; exact Int.le_refl _), Or.inl (by rw [ti_le]; exact Int.le_refl _)⟩
section
variable {H : Nat → Nat → Nat → Nat} {E : eT} {S : sT} {Z : zT} {M M' : yT} {k i j a b n n' s s' t : Nat} {x y y' x2 x3 : Int32} {Q : Int32 → sT → Prop} {bu st : Nat → Int32} {sc : Nat × (Nat → Int32)}
/-- the law's below -/
def blF (x n : Int32) : Int32 := (x &&& (2147483647 : Int32)) - (x &&& (2147483647 : Int32)) / n * n
theorem bel (h0 : ¬ x2 = 0) (h : Q (blF x x2) S) : w_L_below x x2 S Q := by
  unfold w_L_below w_L_below_b0
  intro u eu
  refine ⟨h0, fun v ev => ?_⟩
  rw [ev, eu]
  exact h
theorem blF_r {m : Nat} (hm : 0 < m) (hm2 : m < 1000) : ∃ r : Nat, r < m ∧ blF x (nI m) = nI r := by
  have lm : (nI m).toInt = m := ti_nI (by omega)
  have hr := ti_rem (and_nn x) (b := nI m) (by rw [lm]; omega)
  rw [lm] at hr
  have q1 : 0 ≤ (x &&& (2147483647 : Int32)).toInt % (m : Int) := Int.emod_nonneg _ (by omega)
  have q2 : (x &&& (2147483647 : Int32)).toInt % (m : Int) < (m : Int) := Int.emod_lt_of_pos _ (by omega)
  rw [← hr] at q1 q2
  have q1 : 0 ≤ (blF x (nI m)).toInt := q1
  have q2 : (blF x (nI m)).toInt < (m : Int) := q2
  refine ⟨(blF x (nI m)).toInt.toNat, by omega, ?_⟩
  rw [ti_eq, ti_nI (by omega)]
  omega
theorem nz_nI {m : Nat} (hm : 0 < m) (hm2 : m < 1000) : ¬ nI m = 0 := by
  rw [ti_eq, ti_nI (by omega)]
  have l0 : (0 : Int32).toInt = 0 := rfl
  omega
theorem cel (hx : 0 ≤ x.toInt ∧ x.toInt < 1000) (hL : sc.1 ≤ 260) (h : ∀ v, Q v S) : w_L_cell sc x S Q := by
  refine ⟨fun z => ?_, h _⟩
  rw [vp_iff]
  rw [ti_lt, ti_nI (by omega)] at z
  omega
/-- the law's state in a step: n the bound of calls, s sold, y yielded -/
def MS (H : Nat → Nat → Nat → Nat) (E : eT) (a b : Nat) (bu st : Nat → Int32) (n s : Nat) (y : Int32) (Z : zT) (S : sT) : Prop := CC H E S Z ∧ PA a b bu st S ∧ LG E n (Z 0) (Z 1) ∧ PI E n s y (Z 0) ∧ (∀ k, k < E.2.1 → bu k = Z 0 14 k) ∧ (1 ≤ E.1 ∧ E.2.1 ≤ 9 ∧ n ≤ 100 ∧ s ≤ n)
theorem LG_mono (h : LG E n M M') (hn : n ≤ n') : LG E n' M M' := by
  obtain ⟨N, h⟩ := h
  exact ⟨N, LJ_mono h hn⟩
theorem MS_mono (h : MS H E a b bu st n s y Z S) (hn : n ≤ n') (h100 : n' ≤ 100) : MS H E a b bu st n' s y Z S := by
  obtain ⟨h1, h2, h3, h4, h5, h6⟩ := h
  exact ⟨h1, h2, LG_mono h3 hn, PI_mono h4 hn, h5, h6.1, h6.2.1, h100, by omega⟩
theorem MS_K (h : MS H E a b bu st n s y Z S) : s_K S (H 0 9 0) = 8 := rK_Sub h.1
theorem MS_iF (h : MS H E a b bu st n s y Z S) (hk : k < E.2.1) : iF n (Z 0) k := by
  obtain ⟨N, hJ⟩ := h.2.2.1
  exact hJ.2.2.1 k hk
/-- a call that changes the numbers -/
theorem MS_go {cl : (Int32 → zT → Prop) → Prop} {wC : (Int32 → sT → Prop) → Prop} {v : Int32} (h : MS H E a b bu st n s y Z S) (u : ∀ (P : sT → Prop) (Q : Int32 → sT → Prop) (Q' : Int32 → zT → Prop), cSt P → (∀ x S Z, CC H E S Z → P S → Q' x Z → Q x S) → CC H E S Z → P S → cl Q' → wC Q)
    (hcl : ∀ Q : Int32 → zT → Prop, Q v (zs Z 0 M') → cl Q) (hL : LG E n' M' (Z 1)) (hP : PI E n' s' y' M') (h14 : ∀ k, k < E.2.1 → M' 14 k = Z 0 14 k) (hn : n' ≤ 100 ∧ s' ≤ n') (hQ : ∀ S1, MS H E a b bu st n' s' y' (zs Z 0 M') S1 → Q v S1) : wC Q := by
  obtain ⟨h1, h2, h3, h4, h5, h6⟩ := h
  exact G_of st_PA h1 h2 u hcl (fun S1 c p => hQ S1 ⟨c, p, hL, hP, fun k hk => (h5 k hk).trans (h14 k hk).symm, h6.1, h6.2.1, hn⟩)
/-- a question -/
theorem MS_ask {wC : (Int32 → sT → Prop) → Prop} {v : Int32} (h : MS H E a b bu st n s y Z S) (u : ∀ (P : sT → Prop) (Q : Int32 → sT → Prop), cSt P → CC H E S Z → P S → (∀ S1, CC H E S1 Z → P S1 → Q v S1) → wC Q) (hQ : ∀ S1, MS H E a b bu st n s y Z S1 → Q v S1) : wC Q := by
  obtain ⟨h1, h2, h3⟩ := h
  exact u _ Q st_PA h1 h2 (fun S1 c p => hQ S1 ⟨c, p, h3⟩)
/-- the stages compared, and what is so; then the next time -/
theorem l_884 {mc ms kc ks : Nat} {kk : Nat → Nat → Nat → Int32 → Int32 → Nat → Nat → Int32 → Int32 → Int32 → sT → Prop} (h : MS H E a b bu st n s y Z S) (hst : ∀ k, k < E.2.1 → OKst (st k) (Z 0 4 k))
    (hK : ∀ S1 st', MS H E a b bu st' n s y Z S1 → (∀ k, k < E.2.1 → st' k = Z 0 4 k) → kk kc ks (H 0 9 0) (nI E.1) (nI E.2.1) a b (nI s) y (nI (t + 1)) S1) : wA_L_law_b884 mc ms kc ks (H 0 9 0) (nI E.1) (nI E.2.1) a b (nI s) y (nI t) S kk sc := by
  unfold wA_L_law_b884
  refine ⟨E.2.1 + 1, ?_⟩
  have h9 : E.2.1 ≤ 9 := h.2.2.2.2.2.2.1
  have key : ∀ (d j : Nat) (S : sT), j + d = E.2.1 → MS H E a b bu (fun k => if k < j then Z 0 4 k else st k) n s y Z S → wA_L_law_b887 mc ms kk sc (d + 1) kc ks (H 0 9 0) (nI E.1) (nI E.2.1) a b (nI s) y (nI t) (nI j) S := by
    intro d
    induction d with
    | zero =>
      intro j S hj h
      have hj : j = E.2.1 := hj
      subst hj
      obtain ⟨hC, hA, hL, hP, hb, h6⟩ := id h
      obtain ⟨N, hJ⟩ := id hL
      unfold wA_L_law_b887
      refine ⟨fun _ => ?_, fun z => absurd (by rw [nI_lei (by omega) (by omega)]; exact Nat.le_refl _) z⟩
      refine is_ok (P := PA a b bu _) (bu := bu) st_PA (fun S hS => hS.2.1) h9 hC hA (fun k hk => by rw [hb k hk]; exact FK_of hJ hP hk) (fun i hi => FC_of hJ hP hi) (sus_ok hJ (by omega)) (FG_of hJ hP (by omega)) (fun S1 c1 p1 => ?_)
      refine ⟨fun z => absurd z (by decide), fun _ => ⟨rK_Sub c1, ?_⟩⟩
      refine G_m10 st_PA c1 p1 (fun S2 c2 p2 => ⟨fun _ x8 e8 => ?_, fun z => absurd hP.2.2.2.2.2.2 z⟩)
      rw [e8, ← nI_succ]
      refine hK S2 _ ⟨c2, p2, hL, hP, hb, h6⟩ (fun k hk => if_pos hk)
    | succ d ih =>
      intro j S hj h
      have hk : j < E.2.1 := by omega
      have ecl : Int32.toNatClampNeg (nI j) = j := nI_cl (by omega)
      obtain ⟨o1, o2⟩ := hst j hk
      unfold wA_L_law_b887
      refine ⟨fun z => absurd z (by rw [nI_lei (by omega) (by omega)]; omega), fun _ => ⟨MS_K h, ?_⟩⟩
      refine MS_ask h (fun P Q a1 a2 a3 a4 => G_f4 a1 a2 a3 hk a4) (fun S1 h1 => ?_)
      obtain ⟨-, ⟨-, -, b1, b2, b3⟩, -⟩ := id h1
      have hv : vp_in (nI j) (s_N S1 b) := by rw [b2, nI_vp (by omega)]; omega
      have hB : s_B S1 b (Int32.toNatClampNeg (nI j)) = st j := by
        rw [ecl, b3]
        exact if_neg (Nat.lt_irrefl j)
      have last : wA_L_law_b944 mc ms kc ks (H 0 9 0) (nI E.1) (nI E.2.1) a b (nI s) y (nI t) (nI j) (Z 0 4 j) S1 kk (fun kc ks x1 x2 x3 x4 x5 x6 x7 x8 x12 S => wA_L_law_b887 mc ms kk sc (d + 1) kc ks x1 x2 x3 x4 x5 x6 x7 x8 x12 S) sc := by
        unfold wA_L_law_b944
        refine ⟨b1, hv, fun S2 e2 x e => ?_⟩
        rw [e, ← nI_succ]
        refine ih (j + 1) S2 (by omega) ?_
        obtain ⟨hC, ⟨q0, ⟨q1, q2, q3⟩, q4, q5, q6⟩, hr⟩ := id h1
        rw [ecl] at e2
        subst e2
        refine ⟨CC_sB hC, ⟨q0, ⟨q1, q2, fun c => ?_⟩, q4, q5, fun c => ?_⟩, hr⟩
        · exact (if_neg (fun z => q0 z.1)).trans (q3 c)
        · have q6c : s_B S1 b c = if c < j then Z 0 4 c else st c := q6 c
          show (if b = b ∧ c = j then Z 0 4 j else s_B S1 b c) = if c < j + 1 then Z 0 4 c else st c
          by_cases z : c = j
          · rw [if_pos ⟨rfl, z⟩, if_pos (by omega), z]
          · rw [if_neg (fun w => z w.2), q6c]
            by_cases z2 : c < j
            · rw [if_pos z2, if_pos (by omega)]
            · rw [if_neg z2, if_neg (by omega)]
      have mid : wA_L_law_b917 mc ms kc ks (H 0 9 0) (nI E.1) (nI E.2.1) a b (nI s) y (nI t) (nI j) (Z 0 4 j) S1 kk (fun kc ks x1 x2 x3 x4 x5 x6 x7 x8 x12 S => wA_L_law_b887 mc ms kk sc (d + 1) kc ks x1 x2 x3 x4 x5 x6 x7 x8 x12 S) sc := by
        unfold wA_L_law_b917
        refine ⟨b1, hv, fun u eu => ⟨fun _ => last, fun z => ⟨hv, fun v ev => ?_⟩⟩⟩
        rw [hB] at eu ev
        subst eu ev
        exact ⟨fun _ => last, fun z2 => ⟨fun _ => last, fun z3 => absurd (((o2.resolve_left z).resolve_left z2)) z3⟩⟩
      refine ⟨b1, hv, fun u eu => ⟨fun _ => mid, fun z => ⟨fun z2 => ?_, fun _ => mid⟩⟩⟩
      rw [hB] at eu
      subst eu
      exact absurd z2 (o1.resolve_left z)
  have := key E.2.1 0 S (by omega) (by
    have e : (fun k => if k < 0 then Z 0 4 k else st k) = st := funext (fun k => if_neg (by omega))
    rw [e]; exact h)
  rw [← nI_z] at this
  exact this
end
