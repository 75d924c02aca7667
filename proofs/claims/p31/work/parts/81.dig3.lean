/-! ===== the digest: both sides; the law's helpers of what would be ===== -/
theorem itd_cc {α : Type} {f g : Nat → α → α} {d : Nat} {a : α} (h : ∀ k s, k < d → f k s = g k s) : itd f 0 d a = itd g 0 d a :=
  itd_rel (R := fun _ a b => a = b) d 0 a a (fun k a b _ hk e => by rw [e]; exact h k b (by omega)) rfl
section
variable {S S' S0 S1 : sT} {E : eT} {F : fT} {n D : Nat} {X X' : Nat → Nat → Nat} {N U V : yT} {Z : zT} {d v : Int64} {k i : Nat}
theorem dg_eq1 (h : LI E n Z N) (hn : n ≤ 1000) (d : Int64) : dg3 E (Z 0) d = itd (dRS E N) 0 E.1 (mxI (dR2 E N 0 7 (dR1 E N 0 12 d)) (if cloR E N = 0 then 0 else 1)) := by
  have m1 : dg1 E (Z 0) d = dR1 E N 0 12 d := itd_cc (fun j s hj => by rw [man_eq h (nI_b (m := 11) (by omega) (by decide))])
  have m2 : ∀ d, dg2 E (Z 0) d = dR2 E N 0 7 d := fun d => itd_cc (fun j s hj => by rw [wat_eq h (nI_b (m := 6) (by omega) (by decide))])
  have m3 : cloC E (Z 0) = cloR E N := (clo_eq h).symm
  unfold dg3
  rw [m1, m2, m3]
  refine itd_cc (fun i s hi => ?_)
  unfold dgS dRS dR3
  rw [(sus_eq (F := fF E) h hn rfl hi).1]
  have m4 : itd (fun j d => mxI d (socC E (Z 0) i (nI j))) 0 9 s = itd (fun j d => mxI d (socR (fF E) N i (nI j))) 0 9 s := itd_cc (fun j s hj => by rw [soc_eq h hi (nI_b (m := 8) (by omega) (by decide))])
  rw [m4]
theorem dg_eq2 {Y : yT} (h : LI E n Z N) (hY : ∀ k, k < E.2.1 → ryC Y k = yR (itd (fun _ => passR (fT0 E)) 0 5 (Nw N)) k) (d : Int64) : itd (dgF E (Z 0) Y) 0 E.2.1 d = itd (dRF E N) 0 E.2.1 d := by
  refine itd_cc (fun k s hk => ?_)
  have m1 : itd (fun j d => mxI d (fldC E (Z 0) k (nI j))) 0 14 s = dR4 N k 0 14 s := itd_cc (fun j s hj => by rw [fld_eq h hk (nI_b (m := 13) (by omega) (by decide))])
  have m2 : ∀ s, itd (fun j d => mxI d (ownC (Z 0) k (nI j))) 0 4 s = dR5 N k 0 4 s := fun s => itd_cc (fun j s hj => by
    unfold ownC
    rw [LI_ch h (c := 17) (by unfold Ch; decide), LI_ch h (c := 18) (by unfold Ch; decide), LI_ch h (c := 19) (by unfold Ch; decide)])
  have m3 : thoC (Z 0) k 0 = N 20 k := LI_ch h (by unfold Ch; decide)
  have m4 : thoC (Z 0) k 1 = N 21 k := LI_ch h (by unfold Ch; decide)
  unfold dgF dRF
  rw [m1, m2, m3, m4, hY k hk]
theorem dg_eq (h : LI E n Z N) (hl : LN E Z N) (hn : n ≤ 900) : (dgC E (Z 0) (Z 1)).1 = dRR E N ∧ TS E N (dgC E (Z 0) (Z 1)).2 := by
  obtain ⟨hw, z65, z66, z67⟩ := LI_w h
  have hW := LJ_EW h
  have t0 := TR_0 h (LN_TL h hl)
  have t5 := tr_pF (F := fT0 E) hW rfl rfl hw 5 (by omega) t0
  rw [← z65, ← z66, ← z67] at t5
  have hY : ∀ k, k < E.2.1 → ryC (pF E (Z 0 65 0) (Z 0 66 0) (Z 0 67 0) 5 (cpM E (Z 0) (Z 1))) k = yR (itd (fun _ => passR (fT0 E)) 0 5 (Nw N)) k := fun k hk => (yl_eq CD_Ct t5.1 hk).1
  have L5 : TL E N (pF E (Z 0 65 0) (Z 0 66 0) (Z 0 67 0) 5 (cpM E (Z 0) (Z 1))) := TL_of hl (RG_pF (RG_cp RG_r)) t5
  have e1 := dg_eq1 h (by omega) 58173
  have e2 := dg_eq2 h hY (dg3 E (Z 0) 58173)
  unfold dgC
  dsimp only
  generalize pF E (Z 0 65 0) (Z 0 66 0) (Z 0 67 0) 5 (cpM E (Z 0) (Z 1)) = Y at L5 e2 ⊢
  have tc := TR_0 h L5
  have ri := tr_ri (F := fT0 E) (M := Z 0) hW rfl rfl hw (LI_4 h).1 10 1 n _ _ (by omega) ((LI_4 h).2 Y) tc
  rw [← z65, ← z66, ← z67] at ri
  obtain ⟨ri1, n', Y', ri2⟩ := ri
  have Lr : TL E N (riC E (Z 0 65 0) (Z 0 66 0) (Z 0 67 0) (crC E (Z 0)) 10 1 (cpM E (Z 0) Y)).2 := TL_of L5.2 (RG_ri 10 1 _ (RG_cp RG_r)) ri2
  have pl := tr_plan (F := fT0 E) (D := 12) (x1 := 0) h rfl rfl (by decide) (by omega) Lr
  refine ⟨?_, pl.2.1⟩
  show mxI (mxI (itd (dgF E (Z 0) Y) 0 E.2.1 (dg3 E (Z 0) 58173)) (riC E (Z 0 65 0) (Z 0 66 0) (Z 0 67 0) (crC E (Z 0)) 10 1 (cpM E (Z 0) Y)).1) (plV E (Z 0) 0 12 (riC E (Z 0 65 0) (Z 0 66 0) (Z 0 67 0) (crC E (Z 0)) 10 1 (cpM E (Z 0) Y)).2).1 = dRR E N
  rw [pl.1, ri1, e2, e1]
  rfl
end
section
variable {x1 x2 x3 x4 : Nat} {E : eT} {n : Nat} {S : sT} {a b : Int32}
end
