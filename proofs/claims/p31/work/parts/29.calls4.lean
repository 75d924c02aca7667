section
variable {E : eT} {F : fT} {n : Nat} {M M1 N M' N' : yT} {Z : zT} {x1 x2 x3 : Int32} {k i : Nat}
theorem r80_mv {o : Option Nat} {g : Int32} {X : yT} {j : Nat} : mvR k g o X 80 j = X 80 j := by
  unfold mvR
  cases o with
  | none => rfl
  | some a => simp only [up_rd, Nat.reduceEqDiff, false_and, if_false]
theorem r80_gr {X : yT} {j : Nat} : growR k X 80 j = X 80 j := by
  unfold growR
  dsimp only
  split <;> simp only [up_rd, Nat.reduceEqDiff, false_and, if_false]
theorem r80_div {X : yT} {j : Nat} : divR F i X 80 j = X 80 j := by
  unfold divR divB
  have q : s_up2 (s_up2 X 70 0 (X 70 0 + sunkF X i)) 37 i 0 80 j = X 80 j := by simp only [up_rd, Nat.reduceEqDiff, false_and, if_false]
  rw [← q]
  generalize thF X i = th
  generalize s_up2 (s_up2 X 70 0 (X 70 0 + sunkF X i)) 37 i 0 = Y
  split
  · simp only [up_rd, Nat.reduceEqDiff, false_and, if_false]
  · split
    · simp only [up_rd, Nat.reduceEqDiff, false_and, if_false]
    · split
      · simp only [up_rd, Nat.reduceEqDiff, false_and, if_false]
      · rw [fr_itd (fun k X => ?_)]
        · simp only [up_rd, Nat.reduceEqDiff, false_and, if_false]
        · unfold givR
          split
          · rfl
          · simp only [up_rd, Nat.reduceEqDiff, false_and, if_false]
theorem r80_st {X : yT} {j : Nat} : standR F k X 80 j = X 80 j := by
  unfold standR stR2
  have q1 : ∀ (x : Int32) (Y : yT), sendR F k x Y 80 j = Y 80 j := by
    intro x Y
    unfold sendR
    cases belR F Y k with
    | none => exact if_neg (by omega)
    | some a => exact if_neg (by omega)
  have q2 : ∀ Y : yT, dry3 k (pR2 k Y) 80 j = Y 80 j := by
    intro Y
    rw [dry3_rd (by decide)]
    unfold pR2
    simp only [up_rd, Nat.reduceEqDiff, false_and, if_false]
  dsimp only
  rw [up_rd, if_neg (by omega)]
  split
  · rw [q2, q1]; unfold pR1; simp only [up_rd, Nat.reduceEqDiff, false_and, if_false]
  · rw [r80_gr, q2, q1]; unfold pR1; simp only [up_rd, Nat.reduceEqDiff, false_and, if_false]
theorem r80_pass {X : yT} {j : Nat} : passR F X 80 j = X 80 j := by
  unfold passR flyR headR
  dsimp only
  rw [fr_itd (fun k X => ?_), fr_itd (fun k X => ?_), fr_itd (fun k X => ?_), fr_itd (fun k X => r80_st), fr_itd (fun k X => ?_), fr_itd (fun k X => r80_div), fr_itd (fun k X => ?_), fr_itd (fun k X => fr_weir (by decide))]
  · unfold hd2; simp only [up_rd, Nat.reduceEqDiff, false_and, if_false]
  · unfold z11; simp only [up_rd, Nat.reduceEqDiff, false_and, if_false]
  · unfold z22; simp only [up_rd, Nat.reduceEqDiff, false_and, if_false]
  · unfold z23; simp only [up_rd, Nat.reduceEqDiff, false_and, if_false]
  · unfold flS; dsimp only; rw [r80_mv, r80_mv]
  · unfold set2; simp only [up_rd, Nat.reduceEqDiff, false_and, if_false]
/-! the law of a society -/
def fnS (k : Nat) (p : Int32 × yT) : Int32 × yT := (p.1 + 5 * p.2 15 k, s_up2 (s_up2 p.2 17 k (p.2 17 k - 5 * p.2 15 k)) 15 k 0)
theorem l_fine (hF : E.2.1 ≤ 12) {Q : Int32 → zT → Prop} {w : Nat} : ∀ (d j : Nat) (p : Int32 × yT), j + d = (ce_mem E i).length → (fun q : Int32 × yT => Q q.1 (zs Z w (s_up2 q.2 36 i (q.2 36 i + q.1)))) (((ce_mem E i).drop j).foldl (fun p k => fnS k p) p) → v_X5_fineStones_b4 E w Q (d + 1) i p.1 (nI j) (zs Z w p.2) := by
  have hl := mem_len E i
  intro d
  induction d with
  | zero =>
    intro j p h hq
    have hj : j = (ce_mem E i).length := h
    subst hj
    unfold v_X5_fineStones_b4
    simp only [List.drop_length, List.foldl_nil] at hq
    simp only [forall_eq, nI_lei (show (ce_mem E i).length < 2147483648 by omega) (show (ce_mem E i).length < 2147483648 by omega), Nat.le_refl, forall_const, not_true_eq_false, false_implies, and_true, u3_zs, zs_zs, zs_rd]
    exact hq
  | succ d ih =>
    intro j p h hq
    unfold v_X5_fineStones_b4
    have h1 : j < 2147483648 := by omega
    have h2 : (ce_mem E i).length < 2147483648 := by omega
    have h3 : ¬ (ce_mem E i).length ≤ j := by omega
    have h4 : j < (ce_mem E i).length := by omega
    rw [drop_get h4, List.foldl_cons] at hq
    simp only [forall_eq, nI_lei h2 h1, h3, h4, false_implies, true_and, nI_vp h1, nI_cl h1, not_false_eq_true, forall_const, ← nI_succ, u3_zs, zs_zs, zs_rd]
    exact ih (j + 1) (fnS ((ce_mem E i).getD j 0) p) (by omega) hq
end
