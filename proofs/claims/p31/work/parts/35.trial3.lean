/-! ===== trial runs: both sides ===== -/
def Ct (c : Nat) : Prop := c = 1 ∨ c = 2 ∨ c = 3 ∨ c = 4 ∨ c = 8 ∨ c = 9 ∨ c = 12 ∨ c = 13 ∨ c = 14 ∨ c = 15 ∨ c = 16 ∨ c = 17 ∨ c = 32 ∨ c = 33 ∨ c = 34 ∨ c = 35 ∨ c = 37 ∨ c = 38 ∨ c = 39 ∨ c = 64 ∨ c = 68
theorem CD_Ct : CD Ct := by unfold CD Ct; omega
/-- a new world's numbers -/
def Nw (N : yT) : yT := fun c k => if c = 22 ∨ c = 23 then 0 else N c k
theorem Nw_rd {N : yT} {c k : Nat} (h : c ≠ 22 ∧ c ≠ 23) : Nw N c k = N c k := if_neg (by omega)
def TR (E : eT) (N : yT) (n : Nat) (X Y : yT) : Prop := dRel Ct E (Nw N) n (fun _ => (n : Int)) X Y ∧ ∀ k : Nat, k < E.2.1 → X 22 k = 0 ∧ X 23 k = 0
def TS (E : eT) (N X : yT) : Prop := (∀ k : Nat, k < E.2.1 → X 22 k = 0 ∧ X 23 k = 0) ∧ (∀ k : Nat, k < E.2.1 → X 13 k = N 13 k ∧ X 14 k = N 14 k) ∧ ∀ i : Nat, i < E.1 → X 32 i = N 32 i ∧ X 33 i = N 33 i
def LN (E : eT) (Z : zT) (N : yT) : Prop := ∀ c k : Nat, c_len E c ≤ k → Z 1 c k = N c k
section
variable {E : eT} {F : fT} {n : Nat} {M M1 N M' N' X Y V : yT} {Z : zT} {x1 x2 x3 : Int32} {k i w : Nat} {C : Nat → Prop} {T : Int} {D : Nat → Int}
theorem TR_TS (h : TR E N n X Y) : TS E N X := by
  obtain ⟨⟨-, -, -, -, st, -⟩, hz⟩ := h
  exact ⟨hz, fun k _ => ⟨(st.1 13 (by omega) k).trans (Nw_rd (by omega)), (st.1 14 (by omega) k).trans (Nw_rd (by omega))⟩, fun i _ => ⟨(st.1 32 (by omega) i).trans (Nw_rd (by omega)), (st.1 33 (by omega) i).trans (Nw_rd (by omega))⟩⟩
theorem TS_LI (h : LI E n Z N) (hs : TS E N X) : LI E n (zs Z 1 X) N := by
  obtain ⟨h1, h2, h3, h4, h5, h6, h7, h8, h9, h10, h11⟩ := h
  have e : ∀ c k, Ch c → Z 0 c k = N c k := fun c k hc => h1 c hc k
  show LJ E n (zs Z 1 X 0) (zs Z 1 X 1) N
  rw [zs_r0, zs_rd]
  exact ⟨h1, h2, h3, h4, h5, h6, h7, fun k hk => ⟨(h8 k hk).1, hs.1 k hk⟩, h9, ⟨fun k hk => by rw [e 13 k (by unfold Ch; decide), e 14 k (by unfold Ch; decide)]; exact hs.2.1 k hk, fun i hi => by rw [e 32 i (by unfold Ch; decide), e 33 i (by unfold Ch; decide)]; exact hs.2.2 i hi⟩, h11⟩
theorem EW_Nw (h : EW E N) : EW E (Nw N) := ⟨h.1, h.2.1, h.2.2.1, fun k hk => (Nw_rd (by omega)).trans (h.2.2.2 k hk)⟩
theorem LI_b (h : LI E n Z N) : (∀ k, k < E.2.1 → (Z 0 12 k = 0 ∨ Z 0 12 k = 1) ∧ (Z 0 16 k = 0 ∨ Z 0 16 k = 1)) ∧ ∀ i, i < E.1 → Z 0 38 i = 0 ∨ Z 0 38 i = 1 :=
  ⟨fun k hk => ⟨(h.2.2.1 k hk).2.2.1.1, (h.2.2.1 k hk).2.2.1.2.2.2.2.2⟩, fun i hi => (h.2.2.2.1 i hi).2.2.2.2⟩
theorem tr0 (h : LI E n Z N) (hl : LN E Z N) : TR E N n (cpM E (Z 0) (Z 1)) (Nw N) := by
  obtain ⟨h1, h2, h3, h4, h5, h6, h7, h8, h9, h10, h11⟩ := h
  have e : ∀ c k, Ch c → Z 0 c k = N c k := fun c k hc => h1 c hc k
  have mF : ∀ c, c ∈ colF ↔ (c = 15 ∨ c = 12 ∨ c = 1 ∨ c = 2 ∨ c = 3 ∨ c = 8 ∨ c = 16 ∨ c = 17 ∨ c = 4 ∨ c = 5 ∨ c = 6 ∨ c = 7 ∨ c = 9) := fun c => by simp only [List.mem_cons, List.not_mem_nil, or_false]
  have mS : ∀ c, c ∈ colS ↔ (c = 34 ∨ c = 35 ∨ c = 37 ∨ c = 38 ∨ c = 39) := fun c => by simp only [List.mem_cons, List.not_mem_nil, or_false]
  have rF : ∀ c k, c ∈ colF → k < E.2.1 → cpM E (Z 0) (Z 1) c k = Z 0 c k := fun c k hc hk => by rw [cpM_rd, if_pos ⟨hc, hk⟩]
  have rO : ∀ c k, ¬ (c ∈ colF ∧ k < E.2.1) → ¬ (c ∈ colS ∧ k < E.1) → ¬ (c = 68 ∧ k = 0) → ¬ (c = 64 ∧ k = 0) → cpM E (Z 0) (Z 1) c k = Z 1 c k := fun c k a b d f => by rw [cpM_rd, if_neg a, if_neg b, if_neg d, if_neg f]
  have hE : EQ Ct (cpM E (Z 0) (Z 1)) (Nw N) := by
    intro c hc k
    have hc2 : Ch c ∧ c ≠ 22 ∧ c ≠ 23 := by unfold Ct at hc; unfold Ch; omega
    rw [Nw_rd ⟨hc2.2.1, hc2.2.2⟩, cpM_rd]
    split
    · exact e c k hc2.1
    · split
      · exact e c k hc2.1
      · split
        · rename_i a b z; rw [z.1, z.2]; exact e 68 0 (by unfold Ch; decide)
        · split
          · rename_i a b d z; rw [z.1, z.2]; exact e 64 0 (by unfold Ch; decide)
          · rename_i a b d f
            rw [mF] at a
            rw [mS] at b
            by_cases hr : c_len E c ≤ k
            · exact hl c k hr
            · unfold c_len at hr
              by_cases c1 : c < 32
              · rw [if_pos c1] at hr
                have hk : k < E.2.1 := by omega
                have : c = 13 ∨ c = 14 := by unfold Ct at hc; omega
                have h10 := h10.1 k hk
                rcases this with z | z <;> subst z
                · rw [h10.1]; exact e 13 k hc2.1
                · rw [h10.2]; exact e 14 k hc2.1
              · rw [if_neg c1] at hr
                by_cases c2 : c < 64
                · rw [if_pos c2] at hr
                  have hk : k < E.1 := by omega
                  have : c = 32 ∨ c = 33 := by unfold Ct at hc; omega
                  have h10 := h10.2 k hk
                  rcases this with z | z <;> subst z
                  · rw [h10.1]; exact e 32 k hc2.1
                  · rw [h10.2]; exact e 33 k hc2.1
                · rw [if_neg c2] at hr
                  have : c = 64 ∨ c = 68 := by unfold Ct at hc; omega
                  omega
  have r4 : ∀ k, k < E.2.1 → cpM E (Z 0) (Z 1) 4 k = Z 0 4 k ∧ cpM E (Z 0) (Z 1) 5 k = Z 0 5 k ∧ cpM E (Z 0) (Z 1) 6 k = Z 0 6 k ∧ cpM E (Z 0) (Z 1) 7 k = Z 0 7 k := fun k hk => ⟨rF 4 k (by decide) hk, rF 5 k (by decide) hk, rF 6 k (by decide) hk, rF 7 k (by decide) hk⟩
  refine ⟨⟨hE, fun k hk hs => ?_, fun k hk => ?_, fun i hi => ?_, ⟨fun c hc k => hE c (by unfold Ct; omega) k, fun c hc k => rfl⟩, ?_⟩, fun k hk => ?_⟩
  · rw [(r4 k hk).1] at hs
    rw [(r4 k hk).2.1, (r4 k hk).2.2.1, (r4 k hk).2.2.2, Nw_rd (by omega), Nw_rd (by omega), Nw_rd (by omega)]
    exact h2 k hk hs
  · have := h3 k hk
    unfold iF at this ⊢
    rw [rF 1 k (by decide) hk, rF 2 k (by decide) hk, rF 3 k (by decide) hk, rF 4 k (by decide) hk, rF 8 k (by decide) hk, rF 9 k (by decide) hk, rF 12 k (by decide) hk, rF 15 k (by decide) hk, rF 16 k (by decide) hk, rF 5 k (by decide) hk, rF 6 k (by decide) hk, rF 7 k (by decide) hk, rO 13 k (fun z => absurd z.1 (by decide)) (fun z => absurd z.1 (by decide)) (by omega) (by omega), (h10.1 k hk).1]
    exact this
  · have := h4 i hi
    unfold iS at this ⊢
    rw [hE 32 (by unfold Ct; omega) i, hE 34 (by unfold Ct; omega) i, hE 38 (by unfold Ct; omega) i, Nw_rd (by omega), Nw_rd (by omega), Nw_rd (by omega), ← e 32 i (by unfold Ch; decide), ← e 34 i (by unfold Ch; decide), ← e 38 i (by unfold Ch; decide)]
    exact this
  · rw [hE 64 (by unfold Ct; omega) 0, Nw_rd (by omega), ← e 64 0 (by unfold Ch; decide)]
    exact h5
  · rw [rO 22 k (fun z => absurd z.1 (by decide)) (fun z => absurd z.1 (by decide)) (by omega) (by omega), rO 23 k (fun z => absurd z.1 (by decide)) (fun z => absurd z.1 (by decide)) (by omega) (by omega)]
    exact (h8 k hk).2
theorem tr_pass (hW : EW E N) (hF : F.2.1 = E.2.1) (hF1 : F.1 = E.1) (hn : n < 900000) (hw : 0 ≤ (N 66 0).toInt ∧ (N 66 0).toInt ≤ 40) (h : TR E N n X Y) : True ∧ TR E N (n + 1) (passF E (N 65 0) (N 66 0) (N 67 0) X) (passR F Y) := by
  have hr := rel_pass (F := F) (fl := N 65 0) (wa := N 66 0) (ra := N 67 0) CD_Ct (EW_Nw hW) hF hF1 (by omega) (by omega) (Nw_rd (by omega)) (Nw_rd (by omega)) (Nw_rd (by omega)) hw h.1 h.2
  refine ⟨hr.1, ?_, hr.2.2.2⟩
  have e : ((n + 1 : Nat) : Int) = (n : Int) + 1 := by omega
  rw [e]
  exact hr.2.1
theorem dRel_k {W : Nat → Prop} (h : dRel C E V T D M N) (hW : ∀ c, W c → c ≠ 0 ∧ c ≠ 13 ∧ c ≠ 14 ∧ c ≠ 32 ∧ c ≠ 33 ∧ c ≠ 34 ∧ c ≠ 38 ∧ c ≠ 64 ∧ c ≠ 65 ∧ c ≠ 66 ∧ c ≠ 67)
    (hM : ∀ c j, ¬ (W c ∧ j = k) → M' c j = M c j) (hN : ∀ c j, ¬ (W c ∧ j = k) → N' c j = N c j) (e : ∀ c, W c → C c → M' c k = N' c k)
    (h5 : 2 ≤ (M' 4 k).toInt → M' 5 k = N' 5 k ∧ M' 6 k = N' 6 k ∧ M' 7 k = N' 7 k) (hF : iF (D k) M' k) : dRel C E V T D M' N' := by
  obtain ⟨r1, r2, r3, r4, r5, r6⟩ := h
  refine ⟨fun c hc j => ?_, fun j hj hs => ?_, fun j hj => ?_, fun i hi => ?_, ⟨fun c hc j => ?_, fun c hc j => ?_⟩, ?_⟩
  · rcases Classical.em (W c ∧ j = k) with w | w
    · rw [w.2]; exact e c w.1 hc
    · rw [hM c j w, hN c j w]; exact r1 c hc j
  · by_cases y : j = k
    · subst y; exact h5 hs
    · rw [hM 4 j (fun x => y x.2)] at hs
      rw [hM 5 j (fun x => y x.2), hM 6 j (fun x => y x.2), hM 7 j (fun x => y x.2), hN 5 j (fun x => y x.2), hN 6 j (fun x => y x.2), hN 7 j (fun x => y x.2)]
      exact r2 j hj hs
  · by_cases y : j = k
    · subst y; exact hF
    · have := r3 j hj
      unfold iF at this ⊢
      rw [hM 1 j (fun x => y x.2), hM 2 j (fun x => y x.2), hM 3 j (fun x => y x.2), hM 4 j (fun x => y x.2), hM 8 j (fun x => y x.2), hM 9 j (fun x => y x.2), hM 12 j (fun x => y x.2), hM 13 j (fun x => y x.2), hM 15 j (fun x => y x.2), hM 16 j (fun x => y x.2), hM 5 j (fun x => y x.2), hM 6 j (fun x => y x.2), hM 7 j (fun x => y x.2)]
      exact this
  · have := r4 i hi
    unfold iS at this ⊢
    rw [hM 32 i (fun x => absurd rfl (hW 32 x.1).2.2.2.1), hM 34 i (fun x => absurd rfl (hW 34 x.1).2.2.2.2.2.1), hM 38 i (fun x => absurd rfl (hW 38 x.1).2.2.2.2.2.2.1)]
    exact this
  · rw [hM c j (fun x => by have := hW c x.1; omega)]; exact r5.1 c hc j
  · rw [hN c j (fun x => by have := hW c x.1; omega)]; exact r5.2 c hc j
  · rw [hM 64 0 (fun x => absurd rfl (hW 64 x.1).2.2.2.2.2.2.2.1)]; exact r6
def prK (s x : Int32) (k : Nat) (Y : yT) : yT := if Y 0 k = s then (if Y 4 k ≤ 1 then s_up2 (begS k x Y) 2 k 0 else Y) else Y
def plRR (F : fT) (s x : Int32) (Y : yT) : yT := itd (prK s x) 0 F.2.1 Y
theorem tr_pl (hW : EW E N) (hF : F.2.1 = E.2.1) (hi : i < E.1) (hx : 0 ≤ x1.toInt ∧ x1.toInt ≤ 2) (h : TR E N n X Y) : TR E N n (plC E i x1 X) (plRR F (nI i) x1 Y) := by
  unfold plC plRR
  rw [mem_foldl, hF]
  refine itd_rel (R := fun _ X Y => TR E N n X Y) E.2.1 0 X Y (fun k X Y _ hk h => ?_) h
  have hk : k < E.2.1 := by omega
  have hb := hW.2.2.1 k hk
  have h3 := hW.1
  have e0 : Y 0 k = nI (E.2.2 k) := d_of (EW_Nw hW) h.1 hk
  have e4 : X 4 k = Y 4 k := d_4 CD_Ct h.1
  have hi4 := (h.1.2.2.1 k hk).2.1
  have l0 : (0 : Int32).toInt = 0 := rfl
  have l1 : (1 : Int32).toInt = 1 := rfl
  have l2 : (2 : Int32).toInt = 2 := rfl
  unfold prK plK
  rw [e0]
  simp only [nI_inj3 (show E.2.2 k < 2147483648 by omega) (show i < 2147483648 by omega)]
  by_cases c : E.2.2 k = i
  · simp only [c, if_true]
    have hc4 : (X 4 k = 0 ∨ X 4 k = 1) ↔ Y 4 k ≤ 1 := by
      rw [← e4, ti_le, l1, ti_eq, ti_eq, l0, l1]; omega
    by_cases c2 : Y 4 k ≤ 1
    · rw [if_pos (hc4.mpr c2), if_pos c2]
      obtain ⟨⟨b4, b5, b6, b7⟩, b10, b20, b21⟩ := begS_k (k := k) (x := x1) (M := X)
      obtain ⟨⟨d4, d5, d6, d7⟩, d10, d20, d21⟩ := begS_k (k := k) (x := x1) (M := Y)
      have q : ∀ (U : yT) (c : Nat), c ≠ 2 → s_up2 (begS k x1 U) 2 k 0 c k = begS k x1 U c k := fun U c hc => if_neg (fun z => hc z.1)
      have q2 : ∀ (U : yT), s_up2 (begS k x1 U) 2 k 0 2 k = 0 := fun U => if_pos ⟨rfl, rfl⟩
      refine ⟨dRel_k (k := k) (W := fun c => c = 4 ∨ c = 5 ∨ c = 6 ∨ c = 7 ∨ c = 10 ∨ c = 20 ∨ c = 21 ∨ c = 2) h.1 (fun c z => by omega) (fun c j z => by rw [up_rd, if_neg (by omega), begS_rd (by omega)]) (fun c j z => by rw [up_rd, if_neg (by omega), begS_rd (by omega)]) (fun c z _ => ?_) (fun z => ?_) ?_, fun j hj => ?_⟩
      · rcases z with z | z | z | z | z | z | z | z <;> subst z
        · rw [q _ _ (by decide), q _ _ (by decide), b4, d4]
        · rw [q _ _ (by decide), q _ _ (by decide), b5, d5]
        · rw [q _ _ (by decide), q _ _ (by decide), b6, d6]
        · rw [q _ _ (by decide), q _ _ (by decide), b7, d7]
        · rw [q _ _ (by decide), q _ _ (by decide), b10, d10]
        · rw [q _ _ (by decide), q _ _ (by decide), b20, d20]
        · rw [q _ _ (by decide), q _ _ (by decide), b21, d21]
        · rw [q2, q2]
      · rw [q _ _ (by decide), q _ _ (by decide), q _ _ (by decide), q _ _ (by decide), q _ _ (by decide), q _ _ (by decide), b5, d5, b6, d6, b7, d7]
        exact ⟨rfl, rfl, rfl⟩
      · have hb := iF_beg (x := x1) (h.1.2.2.1 k hk) hx
        unfold iF at hb ⊢
        rw [q2, q _ 1 (by decide), q _ 3 (by decide), q _ 4 (by decide), q _ 8 (by decide), q _ 9 (by decide), q _ 12 (by decide), q _ 13 (by decide), q _ 15 (by decide), q _ 16 (by decide), q _ 5 (by decide), q _ 6 (by decide), q _ 7 (by decide)]
        exact ⟨⟨hb.1.1, by decide, by decide, hb.1.2.2.2⟩, hb.2⟩
      · rw [up_rd, up_rd, if_neg (by omega), if_neg (by omega), begS_rd (by omega), begS_rd (by omega)]
        exact h.2 j hj
    · rw [if_neg (fun z => c2 (hc4.mp z)), if_neg c2]; exact h
  · simp only [c, if_false]; exact h
def prS (F : fT) (x day : Int32) (i : Nat) (p : Int32 × yT) : Int32 × yT := (p.1 / 3, if (p.1 - p.1 / 3 * 3) * 5 = day then plRR F (nI i) x p.2 else p.2)
def pbR (F : fT) (pl x day : Int32) (Y : yT) : yT := (itd (prS F x day) 0 F.1 (pl, Y)).2
theorem tr_pb (hW : EW E N) (hF : F.2.1 = E.2.1) (hF1 : F.1 = E.1) (hx : 0 ≤ x1.toInt ∧ x1.toInt ≤ 2) (h : TR E N n X Y) : TR E N n (pbC E x2 x1 x3 X) (pbR F x2 x1 x3 Y) := by
  unfold pbC pbR
  rw [hF1]
  refine (itd_rel (R := fun _ (p q : Int32 × yT) => p.1 = q.1 ∧ TR E N n p.2 q.2) E.1 0 (x2, X) (x2, Y) (fun i p q _ hi hr => ?_) ⟨rfl, h⟩).2
  unfold pbS prS
  rw [hr.1]
  refine ⟨rfl, ?_⟩
  dsimp only
  by_cases c : (q.1 - q.1 / 3 * 3) * 5 = x3
  · rw [if_pos c, if_pos c]; exact tr_pl hW hF (by omega) hx hr.2
  · rw [if_neg c, if_neg c]; exact hr.2
def pdR (F : fT) (pl x : Int32) (j : Nat) (Y : yT) : yT := passR F (pbR F pl x (nI j) Y)
def syR (F : fT) (Y : yT) : Int32 := itd (fun k s => s + yR Y k) 0 F.2.1 0
theorem tr_sy (hW : EW E N) (hF : F.2.1 = E.2.1) (h : TR E N n X Y) : syC E X = syR F Y ∧ 0 ≤ (syC E X).toInt := by
  have h12 := hW.2.1
  unfold syC syR
  rw [hF]
  have := itd_rel (f := fun k s => s + ryC X k) (g := fun k s => s + yR Y k) (R := fun j (a b : Int32) => a = b ∧ 0 ≤ a.toInt ∧ a.toInt ≤ 80 * (j : Int)) E.2.1 0 0 0 (fun k a b _ hk hr => by
    obtain ⟨e, r1, r2⟩ := hr
    subst e
    have hy := yl_eq CD_Ct h.1 (show k < E.2.1 by omega)
    rw [← hy.1, ti_add (by omega) (by omega)]
    exact ⟨rfl, by omega, by omega⟩) ⟨rfl, Int.le_refl _, Int.le_refl _⟩
  exact ⟨this.1, this.2.1⟩
/-- a plan's days -/
theorem tr_yp (hW : EW E N) (hF : F.2.1 = E.2.1) (hF1 : F.1 = E.1) (hw : 0 ≤ (N 66 0).toInt ∧ (N 66 0).toInt ≤ 40) (hx : 0 ≤ x1.toInt ∧ x1.toInt ≤ 2) (D : Nat) (hn : n + D < 900000) (h : TR E N n X Y) : TR E N (n + D) (itd (pdC E (N 65 0) (N 66 0) (N 67 0) x2 x1) 0 D X) (itd (pdR F x2 x1) 0 D Y) := by
  have := itd_rel (f := pdC E (N 65 0) (N 66 0) (N 67 0) x2 x1) (g := pdR F x2 x1) (R := fun j X Y => TR E N (n + j) X Y) D 0 X Y (fun j X Y _ hj hr => (tr_pass hW hF hF1 (by omega) hw (tr_pb hW hF hF1 hx hr)).2) h
  simp only [Nat.zero_add] at this
  exact this
theorem LI_w (h : LI E n Z N) : (0 ≤ (N 66 0).toInt ∧ (N 66 0).toInt ≤ 40) ∧ Z 0 65 0 = N 65 0 ∧ Z 0 66 0 = N 66 0 ∧ Z 0 67 0 = N 67 0 := by
  have e := fun c (hc : Ch c) => LI_ch (k := 0) h hc
  have := h.2.2.2.2.2.2.2.2.2.2.2.1
  rw [e 66 (by unfold Ch; decide)] at this
  exact ⟨this, e 65 (by unfold Ch; decide), e 66 (by unfold Ch; decide), e 67 (by unfold Ch; decide)⟩
theorem TS_LN (h : LI E n Z N) (hl : LN E Z N) : TS E N (Z 1) := by
  have e : ∀ c k, Ch c → Z 0 c k = N c k := fun c k hc => h.1 c hc k
  obtain ⟨h1, h2, h3, h4, h5, h6, h7, h8, h9, h10, h11⟩ := h
  refine ⟨fun k hk => (h8 k hk).2, fun k hk => ?_, fun i hi => ?_⟩
  · rw [← e 13 k (by unfold Ch; decide), ← e 14 k (by unfold Ch; decide)]; exact h10.1 k hk
  · rw [← e 32 i (by unfold Ch; decide), ← e 33 i (by unfold Ch; decide)]; exact h10.2 i hi
end
