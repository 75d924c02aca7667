/-! ===== p31: what holds, behind a day ===== -/
section
variable {E : eT} {M M' X Y : yT} {n t s k j i a : Nat} {x y r wa fl th v : Int32}
/-- the weir's loop: less than 27 is left -/
theorem weir_r {nn : Int32} (hth : 0 ≤ th.toInt ∧ th.toInt ≤ 200000000) (hn : ∀ i, i < E.1 → 1 ≤ (M 32 i).toInt ∧ (M 32 i).toInt ≤ 9) (hsum : itd (notF M) 0 E.1 0 = nn) (h1 : 1 ≤ E.1) (hS : E.1 ≤ 3) (h68 : M 68 0 = th) :
    (fun X : yT => (X 68 0).toInt < 27 ∧ ∀ i, i < E.1 → 0 ≤ (X 41 i).toInt) (itd (weirS th nn) 0 E.1 M) := by
  have e0 : (itd (notF M) 0 0 0).toInt = 0 := rfl
  have pE := notP_b hn hS E.1 (Nat.le_refl _)
  rw [hsum] at pE
  have := itd_inv (f := weirS th nn) (R := fun j X => (∀ a, X 32 a = M 32 a) ∧ (0 ≤ (X 68 0).toInt ∧ (X 68 0).toInt ≤ th.toInt) ∧ (nn.toInt * th.toInt ≤ nn.toInt * (X 68 0).toInt + th.toInt * (itd (notF M) 0 j 0).toInt) ∧ (nn.toInt * (X 68 0).toInt + th.toInt * (itd (notF M) 0 j 0).toInt ≤ nn.toInt * th.toInt + (j : Int) * nn.toInt) ∧ ∀ a, a < j → 0 ≤ (X 41 a).toInt) E.1 0 M
    (fun j X _ hj hx => by
      obtain ⟨x1, x2, x3, x5, x4⟩ := hx
      have a3 := hn j (by omega)
      have p1 := notP_s hn hS (j := j) (by omega)
      have p3 := notP_b hn hS (j + 1) (by omega)
      have p0 := notP_b hn hS j (by omega)
      have p4 := notP_m hn hS (E.1 - (j + 1)) (j + 1) (by omega)
      rw [show j + 1 + (E.1 - (j + 1)) = E.1 by omega, hsum] at p4
      have hnn : 1 ≤ nn.toInt := by omega
      have p2 : th.toInt * (itd (notF M) 0 (j + 1) 0).toInt = th.toInt * (itd (notF M) 0 j 0).toInt + th.toInt * (M 32 j).toInt := by rw [p1, Int.mul_add]
      have p5 : th.toInt * (itd (notF M) 0 (j + 1) 0).toInt ≤ th.toInt * nn.toInt := Int.mul_le_mul_of_nonneg_left p4 hth.1
      have pc : th.toInt * nn.toInt = nn.toInt * th.toInt := Int.mul_comm _ _
      have q0 : 0 ≤ th.toInt * (M 32 j).toInt := Int.mul_nonneg hth.1 (by omega)
      have q1 : th.toInt * (M 32 j).toInt ≤ th.toInt * 9 := Int.mul_le_mul_of_nonneg_left a3.2 hth.1
      have q4 : th.toInt * (M 32 j).toInt ≤ th.toInt * nn.toInt := Int.mul_le_mul_of_nonneg_left (by omega) hth.1
      have s1 : (th * M 32 j).toInt = th.toInt * (M 32 j).toInt := ti_mul (by omega) (by omega)
      have s2 : (th * M 32 j / nn).toInt = th.toInt * (M 32 j).toInt / nn.toInt := by rw [ti_div (by rw [s1]; exact q0) (by omega), s1]
      have q2 : nn.toInt * (th.toInt * (M 32 j).toInt / nn.toInt) ≤ th.toInt * (M 32 j).toInt := Int.mul_ediv_self_le (by omega)
      have q9 : th.toInt * (M 32 j).toInt < nn.toInt * (th.toInt * (M 32 j).toInt / nn.toInt) + nn.toInt := Int.lt_mul_ediv_self_add (by omega)
      have q3 : 0 ≤ th.toInt * (M 32 j).toInt / nn.toInt := Int.ediv_nonneg q0 (by omega)
      have eX : X 32 j = M 32 j := x1 j
      unfold weirS
      rw [eX]
      generalize hv : th * M 32 j / nn = v at s2
      rw [← s2] at q2 q3 q9
      have q5 : v.toInt ≤ th.toInt := Int.le_of_mul_le_mul_left (show nn.toInt * v.toInt ≤ nn.toInt * th.toInt by omega) (by omega)
      have s3 : (X 68 0 - v).toInt = (X 68 0).toInt - v.toInt := ti_sub (by omega) (by omega)
      have q6 : nn.toInt * ((X 68 0).toInt - v.toInt) = nn.toInt * (X 68 0).toInt - nn.toInt * v.toInt := Int.mul_sub _ _ _
      have q7 : 0 ≤ (X 68 0).toInt - v.toInt := by
        refine Int.le_of_mul_le_mul_left (a := nn.toInt) ?_ (by omega)
        omega
      have q8 : ((j + 1 : Nat) : Int) * nn.toInt = (j : Int) * nn.toInt + nn.toInt := by
        rw [show ((j + 1 : Nat) : Int) = (j : Int) + 1 by omega, Int.add_mul, Int.one_mul]
      refine ⟨fun a => ?_, ?_, ?_, ?_, fun a ha => ?_⟩
      · simp only [up_rd, Nat.reduceEqDiff, false_and, if_false]; exact x1 a
      · simp only [up_rd, Nat.reduceEqDiff, and_self, if_true]; omega
      · simp only [up_rd, Nat.reduceEqDiff, and_self, if_true]; rw [s3]; omega
      · simp only [up_rd, Nat.reduceEqDiff, and_self, if_true]; rw [s3, q8]; omega
      · simp only [up_rd, Nat.reduceEqDiff, false_and, if_false, true_and]
        by_cases c : a = j
        · rw [if_pos c]; omega
        · rw [if_neg c]; exact x4 a (by omega))
    ⟨fun _ => rfl, by rw [h68]; omega, by rw [h68, e0]; omega, by rw [h68, e0]; omega, fun a ha => absurd ha (by omega)⟩
  simp only [Nat.zero_add] at this
  obtain ⟨-, t2, t3, t4, t5⟩ := this
  rw [hsum] at t4
  refine ⟨?_, t5⟩
  have c1 : (E.1 : Int) * nn.toInt ≤ 3 * nn.toInt := Int.mul_le_mul_of_nonneg_right (by omega) (by omega)
  have c2 : th.toInt * nn.toInt = nn.toInt * th.toInt := Int.mul_comm _ _
  have c3 : nn.toInt * (itd (weirS th nn) 0 E.1 M 68 0).toInt ≤ nn.toInt * 3 := by omega
  have := Int.le_of_mul_le_mul_left c3 (by omega)
  omega
theorem weir_day (h1 : 1 ≤ E.1) (h3 : E.1 ≤ 3) (hS : ∀ i, i < E.1 → iS M i) (hfl : 0 ≤ fl.toInt ∧ fl.toInt ≤ 200) (h68 : 0 ≤ (M 68 0).toInt ∧ (M 68 0).toInt ≤ 1000000) : (passF E fl wa r M 68 0).toInt < 27 ∧ ∀ i, i < E.1 → 0 ≤ (passF E fl wa r M 41 i).toInt := by
  have hn : ∀ i, i < E.1 → 1 ≤ (s_up2 (headM E fl wa r M) 68 0 (fl + headM E fl wa r M 68 0) 32 i).toInt ∧ (s_up2 (headM E fl wa r M) 68 0 (fl + headM E fl wa r M 68 0) 32 i).toInt ≤ 9 := fun i hi => by
    rw [up_rd, if_neg (by omega), hd_rd (by decide)]; exact ⟨(hS i hi).1, (hS i hi).2.1⟩
  have e68 : headM E fl wa r M 68 0 = M 68 0 := hd_rd (by decide)
  have en : itd (notF (s_up2 (headM E fl wa r M) 68 0 (fl + headM E fl wa r M 68 0))) 0 E.1 0 = itd (notF (headM E fl wa r M)) 0 E.1 0 := by
    refine itd_rel (R := fun _ a b => a = b) E.1 0 0 0 (fun k a b _ _ e => ?_) rfl
    unfold notF
    rw [e, up_rd, if_neg (by omega)]
  have hpos := notP_b hn h3 E.1 (Nat.le_refl _)
  have hth : (fl + headM E fl wa r M 68 0).toInt = fl.toInt + (M 68 0).toInt := by rw [e68]; exact ti_add (by omega) (by omega)
  have hw := weir_r (E := E) (th := fl + headM E fl wa r M 68 0) (M := s_up2 (headM E fl wa r M) 68 0 (fl + headM E fl wa r M 68 0)) (by omega) hn rfl h1 h3 (if_pos ⟨rfl, rfl⟩)
  rw [en] at hw hpos
  have hX : splitM E fl (headM E fl wa r M) = itd (weirS (fl + headM E fl wa r M 68 0) (itd (notF (headM E fl wa r M)) 0 E.1 0)) 0 E.1 (s_up2 (headM E fl wa r M) 68 0 (fl + headM E fl wa r M 68 0)) := by
    unfold splitM
    rw [if_pos (by rw [ti_lt]; have l0 : (0 : Int32).toInt = 0 := rfl; omega)]
  rw [← hX] at hw
  have fc : ∀ c j, c = 68 ∨ c = 41 → passF E fl wa r M c j = splitM E fl (headM E fl wa r M) c j := fun c j hc => by
    unfold passF
    dsimp only
    rw [fr_flyF (by omega), fr_itd (fun k X => fr_stand (by omega)), fr_itd (fun k X => fr_share (by omega))]
  refine ⟨by rw [fc 68 0 (by omega)]; exact hw.1, fun i hi => by rw [fc 41 i (by omega)]; exact hw.2 i hi⟩
/-- behind a day: all that holds, and how stages went on -/
theorem PI_day {N N' M1 : yT} (hJ : LJ E n M M1 N) (hJ' : LJ E (n + 1) (passF E fl wa r M) M1 N') (h : PI E t s y M) (h1 : 1 ≤ E.1) (hn : n ≤ 1000) (hfl : 0 ≤ fl.toInt ∧ fl.toInt ≤ 200) (hwa : 0 ≤ wa.toInt ∧ wa.toInt ≤ 40) :
    PI E t s y (passF E fl wa r M) ∧ ∀ k, k < E.2.1 → ((M 4 k).toInt < 2 → passF E fl wa r M 4 k = M 4 k) ∧ (2 ≤ (M 4 k).toInt → (M 4 k).toInt ≤ (passF E fl wa r M 4 k).toInt) := by
  have hW := LJ_EW hJ
  obtain ⟨hP, g1, g2, g3, ⟨f, g, g4, g5, g6, g7⟩, g8, g9⟩ := h
  have hK : ∀ k, k < E.2.1 → PK (passF E fl wa r M) t k ∧ ((M 4 k).toInt < 2 → passF E fl wa r M 4 k = M 4 k) ∧ (2 ≤ (M 4 k).toInt → (M 4 k).toInt ≤ (passF E fl wa r M 4 k).toInt) := fun k hk => by
    have hd := DK_day (E := E) (M := M) (fl := fl) (r := r) (wa := wa) (fun k hk => (hP k hk).1.1.1) (fun k hk => by have := (hJ.2.2.1 k hk).1; omega) k hk
    have hy := yl_eq CD_Ch (LJ_dRel hJ') hk
    exact PK_day hd (hJ.2.2.1 k hk) (hP k hk) hwa hy.2
  refine ⟨⟨fun k hk => (hK k hk).1, ?_, ?_, ?_, ⟨f, g, g4, g5, ?_, ?_⟩, ?_, ?_⟩, fun k hk => (hK k hk).2⟩
  · have hw := hJ.2.2.2.2.2.2.2.2.2.2.1.1
    exact (weir_day h1 hW.1 hJ.2.2.2.1 hfl ⟨hw.1, by omega⟩).2
  · exact CLO_day h1 hW.1 hW.2.2.1 hJ.2.2.2.1 (fun k hk => (hJ.2.2.2.2.2.2.2.1 k hk).1.1) (fun k hk => (hJ'.2.2.2.2.2.2.2.1 k hk).1.1) g2
  · rw [sm_c (f := passF E fl wa r M 18) (g := M 18) (fun k _ => fr_pass (by decide) (by decide))]; exact g3
  · rw [sm_c (f := passF E fl wa r M 17) (g := M 17) (fun k _ => fr_pass (by decide) (by decide))]; exact g6
  · rw [sm_c (f := passF E fl wa r M 36) (g := M 36) (fun k _ => fr_pass (by decide) (by decide))]; exact g7
  · have hw := hJ.2.2.2.2.2.2.2.2.2.2.1.1
    exact (weir_day h1 hW.1 hJ.2.2.2.1 hfl ⟨hw.1, by omega⟩).1
  · rw [fr_pass (by decide) (by decide)]; exact g9
end
