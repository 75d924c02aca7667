/-! ===== what stays when new things are made; adding to a list ===== -/
/-- all that was stays, but for the lists and arrays in D and the next field of those in T -/
def FRM (D T : Nat → Prop) (S S' : sT) : Prop := (s_R S' 9998 0 = s_R S 9998 0 ∧ s_R S' 9999 0 = s_R S 9999 0 ∧ ∀ y : Nat, s_K S y ≠ 0 → ¬ T y → s_J S' y = s_J S y) ∧ ∀ y : Nat, s_K S y ≠ 0 → s_K S' y = s_K S y ∧ (¬ D y → s_N S' y = s_N S y ∧ (∀ g, s_I S' g y = s_I S g y) ∧ (∀ g, (g = 70 → ¬ T y) → s_R S' g y = s_R S g y) ∧ (∀ j, s_B S' y j = s_B S y j) ∧ (∀ j, s_P S' y j = s_P S y j) ∧ (∀ j, s_G S' y j = s_G S y j) ∧ (∀ j, s_D S' y j = s_D S y j))
section
variable {D T D2 : Nat → Prop} {S S' S0 S1 : sT} {a b q k n x y : Nat} {f : Nat → Nat}
theorem FRM.refl : FRM D T S S := ⟨⟨rfl, rfl, fun _ _ _ => rfl⟩, fun _ _ => ⟨rfl, fun _ => ⟨rfl, fun _ => rfl, fun _ _ => rfl, fun _ => rfl, fun _ => rfl, fun _ => rfl, fun _ => rfl⟩⟩⟩
theorem FRM.trans {T2 : Nat → Prop} (h : FRM D T S0 S1) (h2 : FRM D2 T2 S1 S') (hD : ∀ y, s_K S0 y ≠ 0 → D2 y → D y) (hT : ∀ y, s_K S0 y ≠ 0 → T2 y → T y) : FRM D T S0 S' := by
  refine ⟨⟨h2.1.1.trans h.1.1, h2.1.2.1.trans h.1.2.1, fun y hy ht => (h2.1.2.2 y (by rw [(h.2 y hy).1]; exact hy) (fun z => ht (hT y hy z))).trans (h.1.2.2 y hy ht)⟩, fun y hy => ?_⟩
  obtain ⟨e, h3⟩ := h.2 y hy
  obtain ⟨e2, h4⟩ := h2.2 y (by rw [e]; exact hy)
  refine ⟨e2.trans e, fun hd => ?_⟩
  obtain ⟨a1, a2, a3, a4, a5, a7, a8⟩ := h3 hd
  obtain ⟨b1, b2, b3, b4, b5, b7, b8⟩ := h4 (fun z => hd (hD y hy z))
  exact ⟨b1.trans a1, fun g => (b2 g).trans (a2 g), fun g hg => (b3 g (fun z z2 => hg z (hT y hy z2))).trans (a3 g hg), fun j => (b4 j).trans (a4 j), fun j => (b5 j).trans (a5 j), fun j => (b7 j).trans (a7 j), fun j => (b8 j).trans (a8 j)⟩
theorem FRM.sI {g : Nat} {v : Int32} (h : FRM D T S0 S) (ha : s_K S0 a = 0 ∨ D a) : FRM D T S0 (s_sI S g a v) := by
  refine ⟨h.1, fun y hy => ⟨(h.2 y hy).1, fun hd => ?_⟩⟩
  have hne : y ≠ a := fun z => ha.elim (fun z2 => hy (z ▸ z2)) (fun z2 => hd (z ▸ z2))
  obtain ⟨a1, a2, a3⟩ := (h.2 y hy).2 hd
  exact ⟨a1, fun g => (if_neg (fun z => hne z.2)).trans (a2 g), a3⟩
theorem FRM.sR {g : Nat} {v : Option Nat} (h : FRM D T S0 S) (ha : s_K S0 a = 0 ∨ D a ∨ (g = 70 ∧ T a)) (h8 : g ≠ 9998) (h9 : g ≠ 9999) : FRM D T S0 (s_sR S g a v) := by
  refine ⟨⟨(if_neg (fun z => h8 z.1.symm)).trans h.1.1, (if_neg (fun z => h9 z.1.symm)).trans h.1.2.1, h.1.2.2⟩, fun y hy => ⟨(h.2 y hy).1, fun hd => ?_⟩⟩
  obtain ⟨a1, a2, a3, a4⟩ := (h.2 y hy).2 hd
  refine ⟨a1, a2, fun g2 hg2 => (if_neg (fun z => ?_)).trans (a3 g2 hg2), a4⟩
  rcases ha with h1 | h1 | ⟨h1, h2⟩
  · exact hy (z.2 ▸ h1)
  · exact hd (z.2 ▸ h1)
  · exact hg2 (z.1.trans h1) (z.2 ▸ h2)
theorem FRM.sB {j : Nat} {v : Int32} (h : FRM D T S0 S) (ha : s_K S0 a = 0 ∨ D a) : FRM D T S0 (s_sB S a j v) := by
  refine ⟨h.1, fun y hy => ⟨(h.2 y hy).1, fun hd => ?_⟩⟩
  have hne : y ≠ a := fun z => ha.elim (fun z2 => hy (z ▸ z2)) (fun z2 => hd (z ▸ z2))
  obtain ⟨a1, a2, a3, a4, a5⟩ := (h.2 y hy).2 hd
  exact ⟨a1, a2, a3, fun j => (if_neg (fun z => hne z.1)).trans (a4 j), a5⟩
theorem FRM.sP {j : Nat} {v : Option Nat} (h : FRM D T S0 S) (ha : s_K S0 a = 0 ∨ D a) : FRM D T S0 (s_sP S a j v) := by
  refine ⟨h.1, fun y hy => ⟨(h.2 y hy).1, fun hd => ?_⟩⟩
  have hne : y ≠ a := fun z => ha.elim (fun z2 => hy (z ▸ z2)) (fun z2 => hd (z ▸ z2))
  obtain ⟨a1, a2, a3, a4, a5, a6⟩ := (h.2 y hy).2 hd
  exact ⟨a1, a2, a3, a4, fun j => (if_neg (fun z => hne z.1)).trans (a5 j), a6⟩
theorem FRM.sJ {v : Int64} (h : FRM D T S0 S) (ha : s_K S0 a = 0 ∨ T a) : FRM D T S0 (s_sJ S a v) := by
  refine ⟨⟨h.1.1, h.1.2.1, fun y hy ht => ?_⟩, h.2⟩
  have hne : y ≠ a := fun z => ha.elim (fun z2 => hy (z ▸ z2)) (fun z2 => ht (z ▸ z2))
  exact (if_neg hne).trans (h.1.2.2 y hy ht)
theorem FRM.cP {i j m : Nat} (h : FRM D T S0 S) (ha : s_K S0 b = 0 ∨ D b) : FRM D T S0 (s_cP S a b i j m) := by
  refine ⟨h.1, fun y hy => ⟨(h.2 y hy).1, fun hd => ?_⟩⟩
  have hne : y ≠ b := fun z => ha.elim (fun z2 => hy (z ▸ z2)) (fun z2 => hd (z ▸ z2))
  obtain ⟨a1, a2, a3, a4, a5, a6⟩ := (h.2 y hy).2 hd
  exact ⟨a1, a2, a3, a4, fun j => (congrFun (if_neg hne) j).trans (a5 j), a6⟩
theorem FRM.fr (h : FRM D T S0 S) (hq : s_fr S q) : s_K S0 q = 0 := by
  by_cases z : s_K S0 q = 0
  · exact z
  · exact absurd ((h.2 q z).1.symm.trans hq.1) z
theorem FRM.nw (h : FRM D T S0 S) (hq : s_fr S q) : FRM D T S0 (s_nw S q k n) := by
  have hq0 := h.fr hq
  have hn0 : ∀ y, s_K S0 y ≠ 0 → y ≠ q := fun y hy z => hy (z ▸ hq0)
  refine ⟨⟨(if_neg (fun z => hq.2.1 z.symm)).trans h.1.1, (if_neg (fun z => hq.2.1 z.symm)).trans h.1.2.1, fun y hy ht => (if_neg (hn0 y hy)).trans (h.1.2.2 y hy ht)⟩, fun y hy => ?_⟩
  have hne : y ≠ q := fun z => hy (z ▸ hq0)
  obtain ⟨e, h2⟩ := h.2 y hy
  refine ⟨(va_up_ne _ _ hne).trans e, fun hd => ?_⟩
  obtain ⟨a1, a2, a3, a4, a5, a6, a7⟩ := h2 hd
  exact ⟨(va_up_ne _ _ hne).trans a1, fun g => (if_neg hne).trans (a2 g), fun g hg => (if_neg hne).trans (a3 g hg), fun j => (if_neg hne).trans (a4 j), fun j => (if_neg hne).trans (a5 j), fun j => (if_neg hne).trans (a6 j), fun j => (if_neg hne).trans (a7 j)⟩
theorem sI_o {g h c : Nat} {v : Int32} (e : ¬ (h = g ∧ c = a)) : s_I (s_sI S g a v) h c = s_I S h c := if_neg e
theorem sI_s {g : Nat} {v : Int32} : s_I (s_sI S g a v) g a = v := if_pos ⟨rfl, rfl⟩
theorem fr_ne (hq : s_fr S q) (ha : s_K S a ≠ 0) : a ≠ q := fun z => ha (z ▸ hq.1)
theorem AL_nw (hA : AL S) (hq : s_fr S q) : AL (s_nw S q k n) := by
  obtain ⟨e0, e1, h0, h1, hK, h⟩ := hA
  have hne : e0 ≠ q := fun z => hq.2.2 (z ▸ h0)
  refine ⟨e0, e1, (if_neg (fun z => hq.2.1 z.symm)).trans h0, (if_neg (fun z => hq.2.1 z.symm)).trans h1, (va_up_ne _ _ hne).trans hK, fun a b ha hb => ?_⟩
  have haq : a ≠ q := fun z => by
    have : s_R (s_nw S q k n) 1 a = none := if_pos z
    rw [this] at hb; cases hb
  have ha2 : s_K S a = 1 := (va_up_ne _ _ haq).symm.trans ha
  have hb2 : s_R S 1 a = some b := (if_neg haq).symm.trans hb
  rcases h a b ha2 hb2 with z | ⟨z1, z2, z3⟩
  · exact Or.inl z
  · have hbq : b ≠ q := fun z => by rw [z, hq.1] at z1; cases z1
    refine Or.inr ⟨(va_up_ne _ _ hbq).trans z1, by rw [show s_N (s_nw S q k n) b = s_N S b from va_up_ne _ _ hbq]; exact z2, fun a' ha' hb' => ?_⟩
    have haq' : a' ≠ q := fun z => by
      have : s_R (s_nw S q k n) 1 a' = none := if_pos z
      rw [this] at hb'; cases hb'
    exact z3 a' ((va_up_ne _ _ haq').symm.trans ha') ((if_neg haq').symm.trans hb')
theorem AL_sR {g : Nat} {v : Option Nat} (hA : AL S) (h1 : g ≠ 1) (h8 : g ≠ 9998) (h9 : g ≠ 9999) : AL (s_sR S g a v) := by
  obtain ⟨e0, e1, h0, h2, hK, h⟩ := hA
  refine ⟨e0, e1, (if_neg (fun z => h8 z.1.symm)).trans h0, (if_neg (fun z => h9 z.1.symm)).trans h2, hK, fun a b ha hb => ?_⟩
  rcases h a b ha ((if_neg (fun z => h1 z.1.symm)).symm.trans hb) with z | ⟨z1, z2, z3⟩
  · exact Or.inl z
  · exact Or.inr ⟨z1, z2, fun a' ha' hb' => z3 a' ha' ((if_neg (fun z => h1 z.1.symm)).symm.trans hb')⟩
theorem sR_o {g h c : Nat} {v : Option Nat} (e : ¬ (h = g ∧ c = a)) : s_R (s_sR S g a v) h c = s_R S h c := if_neg e
theorem sR_s {g : Nat} {v : Option Nat} : s_R (s_sR S g a v) g a = v := if_pos ⟨rfl, rfl⟩
theorem sR_8 {v : Option Nat} : s_R (s_sR S 1 a v) 9998 0 = s_R S 9998 0 := sR_o (fun z => absurd z.1 (by decide))
theorem sR_9 {v : Option Nat} : s_R (s_sR S 1 a v) 9999 0 = s_R S 9999 0 := sR_o (fun z => absurd z.1 (by decide))
theorem AL_sR0 {e : Nat} (hA : AL S) (he : s_R S 9998 0 = some e) (hne : ∀ a' , s_K S a' = 1 → s_R S 1 a' = some e → True := fun _ _ _ => trivial) : AL (s_sR S 1 a (some e)) := by
  obtain ⟨e0, e1, h0, h2, hK, h⟩ := hA
  obtain rfl : e0 = e := Option.some.inj (h0.symm.trans he)
  refine ⟨e0, e1, sR_8.trans h0, sR_9.trans h2, hK, fun a1 b1 ha hb => ?_⟩
  by_cases z : a1 = a
  · exact Or.inl (Option.some.inj (((if_pos ⟨rfl, z⟩).symm.trans hb).symm))
  · rcases h a1 b1 ha ((if_neg (fun y => z y.2)).symm.trans hb) with z2 | ⟨z1, z2, z3⟩
    · exact Or.inl z2
    · refine Or.inr ⟨z1, z2, fun a' ha' hb' => ?_⟩
      by_cases y : a' = a
      · have e2 : e0 = b1 := Option.some.inj ((if_pos ⟨rfl, y⟩).symm.trans hb')
        have z1' : s_K S b1 = 12 := z1
        rw [← e2, hK] at z1'
        cases z1'
      · exact z3 a' ha' ((if_neg (fun z => y z.2)).symm.trans hb')
theorem AL_sRq (hA : AL S) (hq : s_K S q = 12) (hN : s_N S q = 10 ∨ s_N S q = 15) (hf : ∀ a', s_K S a' = 1 → s_R S 1 a' ≠ some q) : AL (s_sR S 1 a (some q)) := by
  obtain ⟨e0, e1, h0, h2, hK, h⟩ := hA
  refine ⟨e0, e1, sR_8.trans h0, sR_9.trans h2, hK, fun a1 b1 ha hb => ?_⟩
  by_cases z : a1 = a
  · have e2 : q = b1 := Option.some.inj ((if_pos ⟨rfl, z⟩).symm.trans hb)
    subst e2
    refine Or.inr ⟨hq, hN, fun a' ha' hb' => ?_⟩
    by_cases y : a' = a
    · exact y.trans z.symm
    · exact absurd ((if_neg (fun z => y z.2)).symm.trans hb') (hf a' ha')
  · have hb2 : s_R S 1 a1 = some b1 := (if_neg (fun y => z y.2)).symm.trans hb
    rcases h a1 b1 ha hb2 with z2 | ⟨z1, z2, z3⟩
    · exact Or.inl z2
    · refine Or.inr ⟨z1, z2, fun a' ha' hb' => ?_⟩
      by_cases y : a' = a
      · have e2 : q = b1 := Option.some.inj ((if_pos ⟨rfl, y⟩).symm.trans hb')
        exact absurd (e2 ▸ hb2) (hf a1 ha)
      · exact z3 a' ha' ((if_neg (fun z => y z.2)).symm.trans hb')
theorem ls_vp {m : Nat} (h : n < 2147483648) (hm : n < m) : vp_in (nI n) m := by
  unfold vp_in
  rw [nI_cl h, Int32.lt_iff_toInt_lt, nI_toInt h]
  have : (0 : Int32).toInt = 0 := rfl
  omega
/-- a list whose array has room -/
def LSB (S : sT) (a n : Nat) (f : Nat → Nat) (b : Nat) : Prop := s_K S a = 1 ∧ s_I S 2 a = nI n ∧ s_R S 1 a = some b ∧ s_K S b = 12 ∧ n < s_N S b ∧ (∀ j : Nat, j < n → s_P S b j = some (f j))
def ls_D (S : sT) (a : Nat) (y : Nat) : Prop := y = a ∨ s_R S 1 a = some y
theorem ls_put {Q : sT → Prop} (hS0 : FRM D T S0 S) (hDa : D a) (hDb : s_K S0 b = 0 ∨ D b) (hA : AL S) (L : LSB S a n f b) (hn : n < 12) (hx : s_K S x = 3 ∨ s_K S x = 7) (hQ : ∀ S', FRM D T S0 S' → AL S' → s_K S' x = s_K S x → s_I S' 192 x = s_I S 192 x → s_I S' 64 x = s_I S 64 x → LST S' a (n + 1) (fun j => if j = n then x else f j) → Q S') {mc ms kc ks : Nat} : wA_Jx4a65c_add_72be8_b11 mc ms kc ks a x b (nI n) S Q := by
  obtain ⟨hK, hI, hR, hKb, hNb, hP⟩ := L
  have hnn : Int32.toNatClampNeg (nI n) = n := nI_cl (by omega)
  unfold wA_Jx4a65c_add_72be8_b11
  refine ⟨hKb, ls_vp (by omega) hNb, hx, fun S1 e1 y ey => ⟨by subst e1; exact hK, fun S2 e2 => ?_⟩⟩
  subst e1 ey e2
  rw [hnn]
  refine hQ _ ((hS0.sP hDb).sI (Or.inr hDa)) hA rfl rfl rfl ⟨hK, (if_pos ⟨rfl, rfl⟩).trans ((nI_succ n).symm), by omega, b, hR, Or.inr ⟨hKb, hNb, fun j hj => ?_⟩⟩
  by_cases z : j = n
  · show _ = some (if j = n then x else f j)
    rw [if_pos z]; exact if_pos ⟨rfl, z⟩
  · show _ = some (if j = n then x else f j)
    rw [if_neg z]; exact (if_neg (fun y => z y.2)).trans (hP j (by omega))
theorem ls_free {m : Nat} (hA : AL S) (hq : s_fr S q) : ∀ a', s_K (s_nw S q 12 m) a' = 1 → s_R (s_nw S q 12 m) 1 a' ≠ some q := by
  intro a' ha hr
  obtain ⟨e0, e1, h0, h1, hK, h⟩ := hA
  by_cases z : a' = q
  · have : s_R (s_nw S q 12 m) 1 a' = none := if_pos z
    rw [this] at hr; cases hr
  · rcases h a' q ((va_up_ne _ _ z).symm.trans ha) ((if_neg z).symm.trans hr) with z2 | ⟨z2, -⟩
    · exact hq.2.2 (z2 ▸ h0)
    · rw [hq.1] at z2; cases z2
theorem FRM.ls (h : FRM D T S0 S) (hq : s_fr S q) {m : Nat} (hDa : D a) : FRM D T S0 (s_sR (s_nw S q 12 m) 1 a (some q)) := (h.nw hq).sR (Or.inr (Or.inl hDa)) (by decide) (by decide)
theorem ls_grow0 {x1 : Int32} {Q : Nat → sT → Prop} (hA : AL S) (ha : s_K S a = 1) (hr : s_R S 1 a = some b) (hb : s_R S 9998 0 = some b) (hx1 : x1 = 1) (hQ : ∀ q, s_fr S q → Q q (s_sR (s_nw S q 12 10) 1 a (some q))) : wA_Jx4a65c_grow_92f84 1 15 a x1 S Q := by
  have hb0 : s_K S b = 0 := by
    obtain ⟨e0, e1, h0, h1, hK, h⟩ := hA
    rw [Option.some.inj (hb.symm.trans h0)]; exact hK
  unfold wA_Jx4a65c_grow_92f84 wA_Jx4a65c_grow_92f84_b0
  refine ⟨ha, b, hr, Or.inr hb, fun y ey => ?_⟩
  rw [if_neg (by rw [hb0]; decide)] at ey
  subst ey hx1
  refine ⟨fun c => absurd c (by decide), fun _ => ⟨b, hr, b, hb, fun _ z ez => ?_, fun c => absurd rfl c⟩⟩
  have ez2 : z = 10 := by rw [ez]; decide
  subst ez2
  refine ⟨by decide, by decide, by decide, by decide, fun q hq S1 e1 => ?_⟩
  subst e1
  have haq : a ≠ q := fr_ne hq (by rw [ha]; decide)
  exact ⟨(va_up_ne _ _ haq).trans ha, fun S2 e2 => by subst e2; exact hQ q hq⟩
theorem ls_grow1 {x1 : Int32} {Q : Nat → sT → Prop} (hA : AL S) (ha : s_K S a = 1) (hr : s_R S 1 a = some b) (hb : s_K S b = 12) (hN : s_N S b = 10) (h3 : ∀ i : Nat, i < 10 → ∀ y : Nat, s_P S b i = some y → s_K S y = 3) (hx1 : x1 = 11) (hQ : ∀ q, s_fr S q → Q q (s_sR (s_cP (s_nw S q 12 15) b q 0 0 10) 1 a (some q))) : wA_Jx4a65c_grow_92f84 1 15 a x1 S Q := by
  obtain ⟨e0, e1, h0, h1, -, -⟩ := id hA
  unfold wA_Jx4a65c_grow_92f84 wA_Jx4a65c_grow_92f84_b0
  refine ⟨ha, b, hr, Or.inl hb, fun y ey => ?_⟩
  rw [if_pos hb, hN] at ey
  have ey2 : y = 10 := by rw [ey]; decide
  subst ey2 hx1
  refine ⟨fun _ => ?_, fun c => absurd (by decide) c⟩
  unfold wA_Jx4a65c_grow_92f84_b20
  intro u eu v ev
  have eu2 : u = 1 := by rw [eu]; decide
  have ev2 : v = 5 := by rw [ev]; decide
  subst eu2 ev2
  unfold w_J8_newLength_cabcc w_J8_newLength_cabcc_b0
  intro u2 eu2 v2 ev2
  have eu3 : u2 = 5 := by rw [eu2]; decide
  subst eu3
  have ev3 : v2 = 15 := by rw [ev2]; decide
  subst ev3
  refine ⟨fun c => absurd c (by decide), fun _ => ⟨fun c => absurd c (by decide), fun _ => ⟨ha, b, hr, 1, 15, by decide, by decide, ?_⟩⟩⟩
  unfold wA_J7_copyOf_1904c wA_J7_copyOf_1904c_b0
  refine ⟨hb, e1, h1, 1, 15, by decide, by decide, ?_⟩
  unfold wA_J7_copyOf_6403c wA_J7_copyOf_6403c_b0
  refine ⟨e1, h1, fun c => absurd rfl c, fun _ => ⟨by decide, by decide, by decide, by decide, fun q hq S1 eS => ?_⟩⟩
  subst eS
  have haq : a ≠ q := fr_ne hq (by rw [ha]; decide)
  have hbq : b ≠ q := fr_ne hq (by rw [hb]; decide)
  have kb : s_K (s_nw S q 12 (Int32.toNatClampNeg 15)) b = 12 := (va_up_ne _ _ hbq).trans hb
  have nb : s_N (s_nw S q 12 (Int32.toNatClampNeg 15)) b = 10 := (va_up_ne _ _ hbq).trans hN
  unfold wA_J7_copyOf_6403c_b24
  refine ⟨Or.inl kb, fun w ew w2 ew2 => ?_⟩
  rw [if_pos kb, nb] at ew
  have ew3 : w2 = 10 := by rw [ew2, ew]; decide
  subst ew3
  have t0 : Int32.toNatClampNeg (0 : Int32) = 0 := by decide
  have t10 : Int32.toNatClampNeg (10 : Int32) = 10 := by decide
  have t15 : Int32.toNatClampNeg (15 : Int32) = 15 := by decide
  refine ⟨kb, va_up_self _ _ _, by decide, by decide, by decide, by rw [nb, t0, t10]; decide, by rw [t0, t10, s_nw_N, t15]; decide, fun i hi y hy => ?_, fun S2 e2 => ?_⟩
  · rw [t10] at hi
    rw [t0, Nat.zero_add] at hy
    have hy2 : s_P S b i = some y := (if_neg hbq).symm.trans hy
    have hk := h3 i hi y hy2
    have hyq : y ≠ q := fr_ne hq (by rw [hk]; decide)
    exact (va_up_ne _ _ hyq).trans hk
  · subst e2
    exact ⟨(va_up_ne _ _ haq).trans ha, fun S3 e3 => by subst e3; exact hQ q hq⟩
theorem ls_add {Q : Int32 → sT → Prop} {mc ms : Nat} (hS0 : FRM D T S0 S) (hDa : D a) (hDb : ∀ b, s_R S 1 a = some b → s_K S0 b = 0 ∨ D b) (hA : AL S) (L : LST S a n f) (hn : n < 12) (h3 : n = 10 → ∀ j, j < n → s_K S (f j) = 3) (hx : s_K S x = 3 ∨ s_K S x = 7) (hc : 1 ≤ mc) (hs : 15 ≤ ms) (hQ : ∀ S', FRM D T S0 S' → AL S' → s_K S' x = s_K S x → s_I S' 192 x = s_I S 192 x → s_I S' 64 x = s_I S 64 x → LST S' a (n + 1) (fun j => if j = n then x else f j) → Q 1 S') : wA_Jx4a65c_add_9ea2d mc ms a x S Q := by
  unfold wA_Jx4a65c_add_9ea2d wA_Jx4a65c_add_9ea2d_b0
  refine ⟨L.1, fun u _ v _ S1 e1 => ?_⟩
  have L1 : LST S1 a n f := by rw [e1]; exact LST_sI (by decide) L
  have hA1 : AL S1 := by rw [e1]; exact hA
  have hF1 : FRM D T S0 S1 := by rw [e1]; exact hS0.sI (Or.inr hDa)
  have hR1 : s_R S1 = s_R S := by rw [e1]; rfl
  have hK1 : s_K S1 = s_K S := by rw [e1]; rfl
  have i1 : s_I S1 192 x = s_I S 192 x := by rw [e1]; exact sI_o (fun z => absurd z.1 (by decide))
  have i2 : s_I S1 64 x = s_I S 64 x := by rw [e1]; exact sI_o (fun z => absurd z.1 (by decide))
  clear e1
  obtain ⟨hK, hI, -, b, hR, hO⟩ := L1
  obtain ⟨e0, e1, h0, h1, hKe, hAL⟩ := id hA1
  refine ⟨b, hR, fun y ey => ⟨1, 15, by omega, by omega, ?_⟩⟩
  rw [hI] at ey
  subst ey
  have hDb1 : s_K S0 b = 0 ∨ D b := hDb b (by rw [← hR1]; exact hR)
  have hx1 : s_K S1 x = 3 ∨ s_K S1 x = 7 := by rw [hK1]; exact hx
  unfold wA_Jx4a65c_add_72be8 wA_Jx4a65c_add_72be8_b0
  have fin : ∀ (S2 : sT) (b2 : Nat), FRM D T S0 S2 → (s_K S0 b2 = 0 ∨ D b2) → AL S2 → LSB S2 a n f b2 → s_K S2 x = s_K S1 x → s_I S2 192 x = s_I S1 192 x → s_I S2 64 x = s_I S1 64 x → wA_Jx4a65c_add_72be8_b11 1 15 0 0 a x b2 (nI n) S2 (fun S' => Q 1 S') := fun S2 b2 g1 g2 g3 g4 g5 g6 g7 => ls_put g1 hDa g2 g3 g4 hn (by rw [g5]; exact hx1) (fun S' k1 k2 k3 k4 k5 k6 => hQ S' k1 k2 (by rw [k3, g5, hK1]) (by rw [k4, g6, i1]) (by rw [k5, g7, i2]) k6)
  have fin2 : ∀ (kc ks : Nat) (S2 : sT) (b2 : Nat), FRM D T S0 S2 → (s_K S0 b2 = 0 ∨ D b2) → AL S2 → LSB S2 a n f b2 → s_K S2 x = s_K S1 x → s_I S2 192 x = s_I S1 192 x → s_I S2 64 x = s_I S1 64 x → wA_Jx4a65c_add_72be8_b11 1 15 kc ks a x b2 (nI n) S2 (fun S' => Q 1 S') := fun _ _ S2 b2 g1 g2 g3 g4 g5 g6 g7 => ls_put g1 hDa g2 g3 g4 hn (by rw [g5]; exact hx1) (fun S' k1 k2 k3 k4 k5 k6 => hQ S' k1 k2 (by rw [k3, g5, hK1]) (by rw [k4, g6, i1]) (by rw [k5, g7, i2]) k6)
  have hxq : ∀ q, s_fr S1 q → x ≠ q := fun q hq => fr_ne hq (by rcases hx1 with h | h <;> rw [h] <;> decide)
  have haq : ∀ q, s_fr S1 q → a ≠ q := fun q hq => fr_ne hq (by rw [hK]; decide)
  rcases hO with ⟨hn0, hb0⟩ | ⟨hb, hN, hP⟩
  · have hbe : b = e0 := Option.some.inj (hb0.symm.trans h0)
    refine ⟨Or.inr hb0, fun y ey => ?_⟩
    rw [if_neg (by rw [hbe, hKe]; decide)] at ey
    refine ⟨fun c => absurd (by rw [ey, hn0]) c, fun _ => ⟨hK, 1, 15, by decide, by decide, ?_⟩⟩
    unfold wA_Jx4a65c_grow_d5877 wA_Jx4a65c_grow_d5877_b0
    refine ⟨hK, fun u eu v ev => ⟨1, 15, by decide, by decide, ?_⟩⟩
    refine ls_grow0 hA1 hK hR hb0 (by rw [ev, eu, hI, hn0]; decide) (fun q hq => ?_)
    refine fin2 _ _ _ q (hF1.ls hq hDa) (Or.inl (hF1.fr hq)) (AL_sRq (AL_nw hA1 hq) s_nw_K (Or.inl s_nw_N) (ls_free hA1 hq)) ⟨(va_up_ne _ _ (haq q hq)).trans hK, (if_neg (haq q hq)).trans hI, sR_s, s_nw_K (n := 10), ?_, fun j hj => absurd hj (by omega)⟩ (va_up_ne _ _ (hxq q hq)) (if_neg (hxq q hq)) (if_neg (hxq q hq))
    show n < s_N (s_nw S1 q 12 10) q
    rw [s_nw_N]; omega
  · refine ⟨Or.inl hb, fun y ey => ?_⟩
    rw [if_pos hb] at ey
    have hNv : s_N S1 b = 10 ∨ s_N S1 b = 15 := by
      rcases hAL a b hK hR with z | ⟨-, z, -⟩
      · rw [z, hKe] at hb; cases hb
      · exact z
    refine ⟨fun c => ?_, fun c => ⟨hK, 1, 15, by decide, by decide, ?_⟩⟩
    · refine fin S1 b hF1 hDb1 hA1 ⟨hK, hI, hR, hb, ?_, hP⟩ rfl rfl rfl
      have : n ≠ s_N S1 b := fun z => c (by rw [ey, ← z])
      omega
    · have hnN : n = s_N S1 b := by
        have h9 : (nI n).toInt = (nI (s_N S1 b)).toInt := by rw [c, ey]
        rw [nI_toInt (by omega), nI_toInt (by omega)] at h9
        omega
      have hN10 : s_N S1 b = 10 := by omega
      have hn10 : n = 10 := by omega
      unfold wA_Jx4a65c_grow_d5877 wA_Jx4a65c_grow_d5877_b0
      refine ⟨hK, fun u eu v ev => ⟨1, 15, by decide, by decide, ?_⟩⟩
      refine ls_grow1 hA1 hK hR hb hN10 (fun i hi y hy => ?_) (by rw [ev, eu, hI, hn10]; decide) (fun q hq => ?_)
      · rw [hP i (by omega)] at hy
        rw [← Option.some.inj hy, hK1]
        exact h3 hn10 i (by omega)
      · have hbq : b ≠ q := fr_ne hq (by rw [hb]; decide)
        refine fin2 _ _ _ q (((hF1.nw hq).cP (Or.inl (hF1.fr hq))).sR (Or.inr (Or.inl hDa)) (by decide) (by decide)) (Or.inl (hF1.fr hq)) (AL_sRq (S := s_cP (s_nw S1 q 12 15) b q 0 0 10) (AL_nw (k := 12) (n := 15) hA1 hq) (s_nw_K (n := 15)) (Or.inr (s_nw_N (k := 12))) (ls_free (m := 15) hA1 hq)) ⟨(va_up_ne _ _ (haq q hq)).trans hK, (if_neg (haq q hq)).trans hI, sR_s, s_nw_K (n := 15), ?_, fun j hj => ?_⟩ (va_up_ne _ _ (hxq q hq)) (if_neg (hxq q hq)) (if_neg (hxq q hq))
        · show n < s_N (s_nw S1 q 12 15) q
          rw [s_nw_N]; omega
        · show (if q = q then va_cpy (s_P (s_nw S1 q 12 15) b) (s_P (s_nw S1 q 12 15) q) 0 0 10 else s_P (s_nw S1 q 12 15) q) j = _
          rw [if_pos rfl, pk_cpy_in (Nat.zero_le j) (by omega)]
          rw [Nat.zero_add, Nat.sub_zero]
          exact (if_neg hbq).trans (hP j hj)
end
