/-! ===== a hill with one more field ===== -/
section
variable {D T D2 : Nat → Prop} {S S' S0 S1 : sT} {a b q o c l k n m x y i j : Nat} {f g : Nat → Nat} {G : Nat → Nat → Nat} {E : eT} {Y : yT}
def gF (G : Nat → Nat → Nat) (n q o c : Nat) : Nat → Nat → Nat := fun f k => if k = n then (if f = 5 then q else if f = 6 then o else if f = 7 then c else G f k) else G f k
theorem gF_o (h5 : x ≠ 5) (h6 : x ≠ 6) (h7 : x ≠ 7) : gF G n q o c x = G x := by
  funext k
  unfold gF
  by_cases z : k = n
  · rw [if_pos z, if_neg h5, if_neg h6, if_neg h7]
  · rw [if_neg z]
theorem gF_n (h : k ≠ n) : gF G n q o c x k = G x k := if_neg h
theorem gF_q : gF G n q o c 5 n = q := by unfold gF; rw [if_pos rfl, if_pos rfl]
theorem gF_w : gF G n q o c 6 n = o := by unfold gF; rw [if_pos rfl, if_neg (by decide), if_pos rfl]
theorem gF_c : gF G n q o c 7 n = c := by unfold gF; rw [if_pos rfl, if_neg (by decide), if_neg (by decide), if_pos rfl]
theorem gF_5 : gF G n q o c 5 = fun j => if j = n then q else G 5 j := by
  funext k
  by_cases z : k = n
  · subst z; rw [gF_q, if_pos rfl]
  · rw [gF_n z, if_neg z]
theorem LST_congr (h : ∀ j, j < n → f j = g j) (L : LST S a n f) : LST S a n g := by
  obtain ⟨h1, h2, h3, b, h4, h5⟩ := L
  refine ⟨h1, h2, h3, b, h4, ?_⟩
  rcases h5 with h5 | ⟨h5, h6, h7⟩
  · exact Or.inl h5
  · exact Or.inr ⟨h5, h6, fun j hj => by rw [h7 j hj, h j hj]⟩
theorem fD_o (hA : AL S) (h2 : s_K S (G 2 0) = 1) (h8 : s_K S (G 8 i) = 1) : oD (fD G i S) S := fun y e hy h0 h1 h12 _ _ z => z.elim (ls_Dk hA h2 hy h0 h1 h12) (ls_Dk hA h8 hy h0 h1 h12)
theorem LST_fD (hA : AL S) (h2 : s_K S (G 2 0) = 1) (h8 : s_K S (G 8 i) = 1) (L : LST S a n f) (F : FRM (fD G i S) T S S') (n2 : a ≠ G 2 0) (n8 : a ≠ G 8 i) : LST S' a n f :=
  LST_F L F (fun z => z.elim (ls_Dl hA h2 L.1 n2) (ls_Dl hA h8 L.1 n8)) (fun _ hr hb z => z.elim (ls_Db hA h2 L.1 n2 hr hb) (ls_Db hA h8 L.1 n8 hr hb))
theorem HS_field (h : HS G E S) (hA : AL S) (hi : i < E.1) (hE : ∀ k, k < E.2.1 → E.2.2 k < E.1) (F : FRM (fD G i S) (fT_ G E i) S S') (kq : s_K S' q = 3) (ko : s_K S' o = 6) (kc : s_K S' c = 2) (r68 : s_R S' 68 q = some o) (r69 : s_R S' 69 q = some c) (r65 : s_R S' 65 q = some (G 4 i)) (r70 : s_R S' 70 q = none) (iq : s_I S' 64 q = nI E.2.1)
    (L2 : LST S' (G 2 0) (E.2.1 + 1) (fun j => if j = E.2.1 then q else G 5 j)) (L8 : LST S' (G 8 i) ((ce_mem E i).length + 1) (fun j => if j = (ce_mem E i).length then q else G 5 ((ce_mem E i).getD j 0))) (h70 : 0 < (ce_mem E i).length → s_R S' 70 (G 5 (lastK E i)) = some q)
    (inj5 : ∀ k j, k < E.2.1 → j < E.2.1 → G 5 k = G 5 j → k = j) (n12 : G 1 0 ≠ G 2 0) (n18 : G 1 0 ≠ G 8 i) (n8 : ∀ j, j < E.1 → j ≠ i → G 8 j ≠ G 2 0 ∧ G 8 j ≠ G 8 i) : HS (gF G E.2.1 q o c) (gE E i) S' := by
  obtain ⟨⟨a1, a2, a3, a4, a5, a6, a7⟩, hs, hf⟩ := h
  have k8 := (hs i hi).2.2.2.1
  have k2 := a7.1
  have ho := fD_o (G := G) (i := i) hA k2 k8
  have n70 : ∀ {g y : Nat}, g ≠ 70 → g = 70 → ¬ fT_ G E i y := fun h z => absurd z h
  have g0 := F.obT a1 (by decide) (ho _ _ a1 (by decide) (by decide) (by decide) (by decide) (by decide))
  have g3 := F.obT a5 (by decide) (ho _ _ a5 (by decide) (by decide) (by decide) (by decide) (by decide))
  refine ⟨?_, fun j hj => ?_, fun k hk => ?_⟩
  · rw [gF_5]
    simp only [gF_o (show (0 : Nat) ≠ 5 by decide) (show (0 : Nat) ≠ 6 by decide) (show (0 : Nat) ≠ 7 by decide), gF_o (show (1 : Nat) ≠ 5 by decide) (show (1 : Nat) ≠ 6 by decide) (show (1 : Nat) ≠ 7 by decide), gF_o (show (2 : Nat) ≠ 5 by decide) (show (2 : Nat) ≠ 6 by decide) (show (2 : Nat) ≠ 7 by decide), gF_o (show (3 : Nat) ≠ 5 by decide) (show (3 : Nat) ≠ 6 by decide) (show (3 : Nat) ≠ 7 by decide), gF_o (show (4 : Nat) ≠ 5 by decide) (show (4 : Nat) ≠ 6 by decide) (show (4 : Nat) ≠ 7 by decide)]
    exact ⟨g0.1, (g0.2.2 96 (n70 (by decide))).trans a2, (g0.2.2 97 (n70 (by decide))).trans a3, (g0.2.2 98 (n70 (by decide))).trans a4, g3.1, LST_fD hA k2 k8 a6 F n12 n18, L2⟩
  · have hj : j < E.1 := hj
    obtain ⟨b1, b2, b3, b4⟩ := hs j hj
    have g := F.obT b1 (by decide) (ho _ _ b1 (by decide) (by decide) (by decide) (by decide) (by decide))
    simp only [gF_o (show (4 : Nat) ≠ 5 by decide) (show (4 : Nat) ≠ 6 by decide) (show (4 : Nat) ≠ 7 by decide), gF_o (show (8 : Nat) ≠ 5 by decide) (show (8 : Nat) ≠ 6 by decide) (show (8 : Nat) ≠ 7 by decide)]
    refine ⟨g.1, (g.2.2 195 (n70 (by decide))).trans b2, (g.2.1 192).trans b3, ?_⟩
    by_cases z : j = i
    · subst z
      rw [mem_gE, List.length_append]
      refine LST_congr (fun t ht => ?_) L8
      have ht : t < (ce_mem E j).length + 1 := ht
      by_cases y : t = (ce_mem E j).length
      · rw [if_pos y, y, List.getD_eq_getElem?_getD, List.getElem?_append_right (Nat.le_refl _), Nat.sub_self]
        show q = gF G E.2.1 q o c 5 E.2.1
        rw [gF_q]
      · have ht2 : t < (ce_mem E j).length := by omega
        rw [if_neg y, List.getD_eq_getElem?_getD (l := _ ++ _), List.getElem?_append_left ht2, ← List.getD_eq_getElem?_getD]
        have := (mem_in.mp (mem_at ht2)).1
        rw [gF_n (by omega)]
    · rw [mem_gEo z]
      refine LST_congr (fun t ht => ?_) (LST_fD hA k2 k8 b4 F (n8 j hj z).1 (n8 j hj z).2)
      have := (mem_in.mp (mem_at ht)).1
      rw [gF_n (by omega)]
  · have hk : k < E.2.1 + 1 := hk
    simp only [gF_o (show (4 : Nat) ≠ 5 by decide) (show (4 : Nat) ≠ 6 by decide) (show (4 : Nat) ≠ 7 by decide)]
    by_cases z : k = E.2.1
    · subst z
      rw [gF_q, gF_w, gF_c, gE_n, nxt_gEn]
      exact ⟨kq, r65, r68, r69, r70, iq, ko, kc⟩
    · have hk2 : k < E.2.1 := by omega
      obtain ⟨b1, b2, b3, b4, b5, b6, b7, b8⟩ := hf k hk2
      have g := F.obT b1 (by decide) (ho _ _ b1 (by decide) (by decide) (by decide) (by decide) (by decide))
      have g6 := F.obT b7 (by decide) (ho _ _ b7 (by decide) (by decide) (by decide) (by decide) (by decide))
      have g7 := F.obT b8 (by decide) (ho _ _ b8 (by decide) (by decide) (by decide) (by decide) (by decide))
      rw [gF_n z, gF_n z, gF_n z, gE_lt hk2, nxt_gE hk2]
      refine ⟨g.1, (g.2.2 65 (n70 (by decide))).trans b2, (g.2.2 68 (n70 (by decide))).trans b3, (g.2.2 69 (n70 (by decide))).trans b4, ?_, (g.2.1 64).trans b6, g6.1, g7.1⟩
      by_cases y : E.2.2 k = i
      · rw [if_pos y]
        have hm : k ∈ ce_mem E i := mem_in.mpr ⟨hk2, y⟩
        by_cases w : k = lastK E i
        · rw [(nxt_last hk2 y).mpr w]
          show s_R S' 70 (G 5 k) = some (gF G E.2.1 q o c 5 E.2.1)
          rw [gF_q, w]
          exact h70 (List.length_pos_of_mem hm)
        · have hT : ¬ fT_ G E i (G 5 k) := fun t => by
            have h1 : lastK E i < E.2.1 := (mem_in.mp (mem_at (E := E) (i := i) (j := (ce_mem E i).length - 1) (by have := t.1; omega))).1
            exact w (inj5 k _ hk2 h1 t.2)
          rw [g.2.2 70 (fun _ => hT), b5]
          cases e : ce_nxt E k with
          | none => exact absurd ((nxt_last hk2 y).mp e) w
          | some j =>
            have := nxt_lt e.symm j rfl
            show some (G 5 j) = some (gF G E.2.1 q o c 5 j)
            rw [gF_n (by omega)]
      · rw [if_neg y]
        have hT : ¬ fT_ G E i (G 5 k) := fun t => by
          have h1 := mem_in.mp (mem_at (E := E) (i := i) (j := (ce_mem E i).length - 1) (by have := t.1; omega))
          have h2 := inj5 k _ hk2 h1.1 t.2
          exact y (by rw [h2]; exact h1.2)
        rw [g.2.2 70 (fun _ => hT), b5]
        cases e : ce_nxt E k with
        | none => rfl
        | some j =>
          have := nxt_lt e.symm j rfl
          show some (G 5 j) = some (gF G E.2.1 q o c 5 j)
          rw [gF_n (by omega)]
/-- a new field's numbers by column -/
def vF (nF : Nat) (x2 x3 : Int32) (c : Nat) : Int32 := if c_f c = 5 then fld0 (nI nF) x2 x3 (c_g c) else if c_f c = 6 then own0 (c_g c) else if c_f c = 7 then cro0 (c_g c) else 0
def zF (n : Nat) (v : Nat → Int32) (Y : yT) : yT := fun c k => if c < 32 ∧ k = n then v c else Y c k
theorem VAL_field {x2 x3 : Int32} (h : HS G E S) (hA : AL S) (hi : i < E.1) (hV : VAL G E S Y) (F : FRM (fD G i S) (fT_ G E i) S S') (iq : ∀ g, s_I S' g q = fld0 (nI E.2.1) x2 x3 g) (io : ∀ g, s_I S' g o = own0 g) (ic : ∀ g, s_I S' g c = cro0 g) : VAL (gF G E.2.1 q o c) (gE E i) S' (zF E.2.1 (vF E.2.1 x2 x3) Y) := fun e he hv k hk => by
  have hV' := VAL_keep h hV F (fD_o hA h.1.2.2.2.2.2.2.1 (h.2.1 i hi).2.2.2.1)
  by_cases z : e < 32
  · have hk2 : k < E.2.1 + 1 := by unfold c_len at hk; rw [if_pos z] at hk; exact hk
    by_cases y : k = E.2.1
    · subst y
      rw [show zF E.2.1 (vF E.2.1 x2 x3) Y e E.2.1 = vF E.2.1 x2 x3 e from if_pos ⟨z, rfl⟩]
      unfold vF
      rcases c_fk e he hv z with w | w | w <;> rw [w]
      · rw [gF_q, iq, if_pos rfl]
      · rw [gF_w, io, if_neg (by decide), if_pos rfl]
      · rw [gF_c, ic, if_neg (by decide), if_neg (by decide), if_pos rfl]
    · rw [gF_n y]
      refine (hV' e he hv k ?_).trans (if_neg (fun w => y w.2)).symm
      unfold c_len
      rw [if_pos z]; omega
  · have h4 : c_f e ≠ 5 ∧ c_f e ≠ 6 ∧ c_f e ≠ 7 := by
      by_cases c1 : e < 64
      · rw [c_fl e he hv (by omega) c1]; decide
      · rcases c_f0 e he hv (by omega) with w | w <;> rw [w] <;> decide
    rw [gF_o h4.1 h4.2.1 h4.2.2]
    refine (hV' e he hv k ?_).trans (if_neg (fun w => z w.1)).symm
    unfold c_len at hk ⊢
    rw [if_neg z] at hk ⊢
    exact hk
end
