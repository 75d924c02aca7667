/-! ===== a new field on a hill, whole ===== -/
section
variable {D T D2 : Nat → Prop} {S S' S0 S1 : sT} {a b q l k n m x y i j : Nat} {f : Nat → Nat} {G : Nat → Nat → Nat} {E : eT} {Y : yT}
theorem FRM.monoT {T2 : Nat → Prop} (h : FRM D T S S') (hT : ∀ y, s_K S y ≠ 0 → T y → T2 y) : FRM D T2 S S' := ⟨⟨h.1.1, h.1.2.1, fun y hy ht => h.1.2.2 y hy (fun z => ht (hT y hy z))⟩, fun y hy => ⟨(h.2 y hy).1, fun hd => by
  obtain ⟨a1, a2, a3, a4⟩ := (h.2 y hy).2 hd
  exact ⟨a1, a2, fun g hg => a3 g (fun z z2 => hg z (hT y hy z2)), a4⟩⟩⟩
/-- taking a field into a society's list -/
theorem s5_take {Q : sT → Prop} {mc ms : Nat} (hA : AL S) (hk : s_K S a = 7) (hr : s_R S 195 a = some l) (L : LST S l m f) (hm : m < 12) (h3 : ∀ j, j < m → s_K S (f j) = 3) (hq : s_K S q = 3) (hc : 1 ≤ mc) (hs : 15 ≤ ms)
    (hQ : ∀ S', FRM (ls_D S l) (fun y => 0 < m ∧ y = f (m - 1)) S S' → AL S' → LST S' l (m + 1) (fun j => if j = m then q else f j) → (0 < m → s_R S' 70 (f (m - 1)) = some q) → Q S') : wA_X5_take mc ms a q S Q := by
  have hl := L.1
  have tk : ∀ (kc ks : Nat) (S1 : sT), kc + 1 ≤ mc → ks + 15 ≤ ms → FRM no_ (fun y => 0 < m ∧ y = f (m - 1)) S S1 → s_R S1 1 l = s_R S 1 l → s_R S1 195 a = some l → AL S1 → LST S1 l m f → (0 < m → s_R S1 70 (f (m - 1)) = some q) → wA_X5_take_b33 mc ms kc ks a q S1 Q := by
    intro kc ks S1 hkc hks F hr1 hr2 A1 L1 h70
    have k1 : s_K S1 a = 7 := (F.2 a (by rw [hk]; decide)).1.trans hk
    have kq : s_K S1 q = 3 := (F.2 q (by rw [hq]; decide)).1.trans hq
    have k3 : ∀ j, j < m → s_K S1 (f j) = 3 := fun j hj => (F.2 _ (by rw [h3 j hj]; decide)).1.trans (h3 j hj)
    unfold wA_X5_take_b33
    refine ⟨k1, l, hr2, L1.1, 1, 15, hkc, hks, ls_add1 A1 L1 hm (fun _ j hj => k3 j hj) (Or.inl kq) (by decide) (by decide) (fun S2 F2 A2 L2 => ?_)⟩
    refine hQ S2 ((F.mono (fun _ _ z => False.elim z)).trans F2 (fun y hy z => ?_) (fun _ _ z => False.elim z)) A2 L2 (fun hp => ?_)
    · rcases z with z | z
      · exact Or.inl z
      · exact Or.inr (hr1.symm.trans z)
    · have k4 := k3 (m - 1) (by omega)
      exact ((F2.ob k4 (by decide) (ls_Dk A1 L1.1 k4 (by decide) (by decide) (by decide))).2.2 70).trans (h70 hp)
  unfold wA_X5_take wA_X5_take_b0
  refine ⟨hk, l, hr, hl, ?_⟩
  unfold w_Jx4a65c_isEmpty_aae02 w_Jx4a65c_isEmpty_aae02_b0
  refine ⟨hl, fun y ey => ⟨fun hy => ?_, fun hy => ?_⟩⟩
  · unfold w_Jx4a65c_isEmpty_aae02_b12
    refine ⟨Or.inl rfl, fun c => absurd rfl c, fun _ => ⟨hk, l, hr, l, hr, hl, us_size L (fun u eu => ?_)⟩⟩
    have hp : 0 < m := Nat.pos_of_ne_zero (fun z => hy (by rw [ey, L.2.1, z]; rfl))
    have eu2 : u = nI (m - 1) := by
      rw [eu, show m = (m - 1) + 1 by omega]
      exact nI_pred _
    subst eu2
    refine ⟨hl, us_get (b := f (m - 1)) L (ls_vp (by omega) (by omega)) (by rw [nI_cl (by omega)]) ?_⟩
    have k3 := h3 (m - 1) (by omega)
    refine ⟨k3, fun S1 e1 => ?_⟩
    have F1 : FRM no_ (fun y => 0 < m ∧ y = f (m - 1)) S S1 := by rw [e1]; exact FRM.refl.sR (Or.inr (Or.inr ⟨rfl, hp, rfl⟩)) (by decide) (by decide)
    have A1 : AL S1 := by rw [e1]; exact AL_sR hA (by decide) (by decide) (by decide)
    refine tk 0 0 S1 (by omega) (by omega) F1 (by rw [e1]; exact sR_o (fun z => absurd z.1 (by decide))) ?_ A1 (LST_0 L F1) (fun _ => by rw [e1]; exact sR_s)
    rw [e1]
    exact (sR_o (fun z => absurd z.1 (by decide))).trans hr
  · unfold w_Jx4a65c_isEmpty_aae02_b12
    have hm0 : m = 0 := by
      have h9 : (nI m).toInt = (0 : Int32).toInt := by rw [← L.2.1, ← ey, hy]
      rw [nI_toInt (by omega)] at h9
      have : (m : Int) = 0 := h9
      omega
    exact ⟨Or.inr rfl, fun _ => tk 0 0 S (by omega) (by omega) FRM.refl rfl hr hA L (fun z => absurd z (by omega)), fun c => absurd c (by decide)⟩
/-- what is touched when a field comes to society i of a hill -/
def fD (G : Nat → Nat → Nat) (i : Nat) (S : sT) (y : Nat) : Prop := ls_D S (G 2 0) y ∨ ls_D S (G 8 i) y
def fT_ (G : Nat → Nat → Nat) (E : eT) (i : Nat) (y : Nat) : Prop := 0 < (ce_mem E i).length ∧ y = G 5 (lastK E i)
theorem af_add {Q : Int32 → sT → Prop} {x1 x2 x3 : Int32} (hA : AL S) (h : HS G E S) (hv : vp_in x1 E.1) (h3 : E.1 ≤ 3) (hn : E.2.1 < 12) (hne : G 8 (Int32.toNatClampNeg x1) ≠ G 2 0) (hQ : ∀ S' q o c, FRM (fD G (Int32.toNatClampNeg x1) S) (fT_ G E (Int32.toNatClampNeg x1)) S S' → AL S' → s_K S q = 0 → s_K S o = 0 → s_K S c = 0 → s_K S' q = 3 → s_K S' o = 6 → s_K S' c = 2 → s_R S' 68 q = some o → s_R S' 69 q = some c → s_R S' 65 q = some (G 4 (Int32.toNatClampNeg x1)) → s_R S' 70 q = none → (∀ g, s_I S' g q = fld0 (nI E.2.1) x2 x3 g) → (∀ g, s_I S' g o = own0 g) → (∀ g, s_I S' g c = cro0 g) → LST S' (G 2 0) (E.2.1 + 1) (fun j => if j = E.2.1 then q else G 5 j) → LST S' (G 8 (Int32.toNatClampNeg x1)) ((ce_mem E (Int32.toNatClampNeg x1)).length + 1) (fun j => if j = (ce_mem E (Int32.toNatClampNeg x1)).length then q else G 5 ((ce_mem E (Int32.toNatClampNeg x1)).getD j 0)) → (0 < (ce_mem E (Int32.toNatClampNeg x1)).length → s_R S' 70 (G 5 (lastK E (Int32.toNatClampNeg x1))) = some q) → Q (nI E.2.1) S') : wA_X2_addField 5 58 (G 0 0) x1 x2 x3 S Q := by
  obtain ⟨⟨a1, a2, a3, a4, a5, a6, a7⟩, hs, hf⟩ := h
  have hi := vp_lt hv
  obtain ⟨b1, b2, b3, b4⟩ := hs _ hi
  generalize hei : Int32.toNatClampNeg x1 = i at *
  have hml : (ce_mem E i).length ≤ E.2.1 := mem_len E i
  unfold wA_X2_addField wA_X2_addField_b0
  refine ⟨fun c => absurd c (vp_nn hv), fun _ => ⟨a1, G 1 0, a2, a6.1, us_size a6 ⟨fun _ => ⟨a1, G 1 0, a2, a6.1, us_get (b := G 4 i) a6 hv (by rw [hei]) ⟨b1, by decide, by decide, fun q hq S1 e1 => ?_⟩⟩, fun c => absurd (q_lt hv (by omega)) c⟩⟩⟩
  have F1 : FRM no_ no_ S S1 := by rw [e1]; exact FRM.refl.nw hq
  have A1 : AL S1 := by rw [e1]; exact AL_nw hA hq
  have k1 : s_K S1 q = 3 := by rw [e1]; exact s_nw_K
  have v1 : ∀ g, s_I S1 g q = 0 := fun g => by rw [e1]; exact if_pos rfl
  have r1 : s_R S1 70 q = none := by rw [e1]; exact if_pos rfl
  clear e1
  have g1 := F1.ob a1 (by decide) (fun z => z)
  refine ⟨g1.1, G 2 0, (g1.2.2 97).trans a3, (F1.ob a7.1 (by decide) (fun z => z)).1, us_size (LST_0 a7 F1) ⟨2, 11, by decide, by decide, s1_init A1 k1 v1 r1 (by decide) (by decide) (fun S2 o c F2 A2 ko kc ko2 kc2 r68 r69 r65 r70 iq io ic => ?_)⟩⟩
  have F12 : FRM no_ no_ S S2 := F1.trans F2 (fun y hy z => hy (z ▸ hq.1)) (fun _ _ z => z)
  have kq2 : s_K S2 q = 3 := (F2.2 q (by rw [k1]; decide)).1.trans k1
  have s2 := F12.ob b1 (by decide) (fun z => z)
  have L2 := LST_0 b4 F12
  have k32 : ∀ j, j < (ce_mem E i).length → s_K S2 (G 5 ((ce_mem E i).getD j 0)) = 3 := fun j hj => by
    have := (mem_in.mp (mem_at hj)).1
    exact (F12.ob (hf _ this).1 (by decide) (fun z => z)).1
  refine ⟨s2.1, 1, 15, by decide, by decide, s5_take A2 s2.1 ((s2.2.2 195).trans b2) L2 (by omega) k32 kq2 (by decide) (by decide) (fun S3 F3 A3 L3 h70 => ?_)⟩
  have hl0 : s_K S (G 8 i) ≠ 0 := by rw [b4.1]; decide
  have h20 : s_K S (G 2 0) ≠ 0 := by rw [a7.1]; decide
  have F13 : FRM (ls_D S (G 8 i)) (fT_ G E i) S S3 := ((F12.mono (fun _ _ z => False.elim z)).monoT (fun _ _ z => False.elim z)).trans F3 (fun y hy z => F12.to_ls hl0 y z) (fun _ _ z => z)
  have a13 := F13.obT a1 (by decide) (ls_Dk hA b4.1 a1 (by decide) (by decide) (by decide))
  have L23 : LST S3 (G 2 0) E.2.1 (G 5) := LST_ls A2 L2.1 (LST_0 a7 F12) F3 (fun e => hne e.symm)
  have k33 : s_K S3 q = 3 := (F3.2 q (by rw [kq2]; decide)).1.trans kq2
  have k3f : ∀ j, j < E.2.1 → s_K S3 (G 5 j) = 3 := fun j hj => (F13.2 _ (by rw [(hf j hj).1]; decide)).1.trans (hf j hj).1
  refine ⟨a13.1, G 2 0, (a13.2.2 97 (fun z => absurd z (by decide))).trans a3, L23.1, 1, 15, by decide, by decide, ls_add1 A3 L23 hn (fun _ j hj => k3f j hj) (Or.inl k33) (by decide) (by decide) (fun S4 F4 A4 L4 => ?_)⟩
  have F14 : FRM (fD G i S) (fT_ G E i) S S4 := (F13.mono (fun _ _ z => Or.inr z)).trans F4 (fun y hy z => ?_) (fun _ _ z => False.elim z)
  rotate_left
  · rcases z with z | z
    · exact Or.inl (Or.inl z)
    · refine Or.inl (Or.inr ?_)
      rw [← z]
      exact (F13.obT a7.1 (by decide) (ls_Dl hA b4.1 a7.1 (fun e => hne e.symm))).2.2 1 (fun z => absurd z (by decide)) |>.symm
  have x3 : ∀ {y c : Nat}, s_K S2 y = c → c ≠ 0 → c ≠ 1 → c ≠ 12 → (c = 3 → s_K S y = 0) → s_K S4 y = c ∧ (∀ g, s_I S4 g y = s_I S2 g y) ∧ (∀ g, s_R S4 g y = s_R S2 g y) := by
    intro y c hy c0 c1 c2 c3
    have p1 := F3.obT hy c0 (ls_Dk A2 L2.1 hy c0 c1 c2)
    have p2 := F4.ob p1.1 c0 (ls_Dk A3 L23.1 p1.1 c0 c1 c2)
    refine ⟨p2.1, fun g => (p2.2.1 g).trans (p1.2.1 g), fun g => (p2.2.2 g).trans (p1.2.2 g (fun _ z => ?_))⟩
    have h1 := k32 ((ce_mem E i).length - 1) (by omega)
    have h2 : s_K S (G 5 ((ce_mem E i).getD ((ce_mem E i).length - 1) 0)) = 3 := (hf _ (mem_in.mp (mem_at (by omega))).1).1
    rw [← z.2] at h1 h2
    have h4 := c3 (hy.symm.trans h1)
    rw [h4] at h2
    cases h2
  have pq := x3 kq2 (by decide) (by decide) (by decide) (fun _ => hq.1)
  have po := x3 ko2 (by decide) (by decide) (by decide) (fun z => absurd z (by decide))
  have pc := x3 kc2 (by decide) (by decide) (by decide) (fun z => absurd z (by decide))
  refine ⟨pq.1, fun u eu => ?_⟩
  have eu2 : u = nI E.2.1 := by rw [eu, pq.2.1, iq]; rfl
  subst eu2
  refine hQ S4 q o c F14 A4 hq.1 (F1.fz ko) (F1.fz kc) pq.1 po.1 pc.1 ((pq.2.2 68).trans r68) ((pq.2.2 69).trans r69) ((pq.2.2 65).trans r65) ((pq.2.2 70).trans r70) (fun g => (pq.2.1 g).trans (iq g)) (fun g => (po.2.1 g).trans (io g)) (fun g => (pc.2.1 g).trans (ic g)) L4 (LST_ls A3 L23.1 L3 F4 hne) (fun hp => ?_)
  have k4 := k3f (lastK E i) (mem_in.mp (mem_at (by omega))).1
  exact ((F4.ob k4 (by decide) (ls_Dk A3 L23.1 k4 (by decide) (by decide) (by decide))).2.2 70).trans (h70 hp)
end
