/-- written within the columns' lengths only -/
def RG (E : eT) (X X' : yT) : Prop := ∀ c k : Nat, c_len E c ≤ k → X' c k = X c k
theorem RG_t {E : eT} {X Y W : yT} (h1 : RG E X Y) (h2 : RG E Y W) : RG E X W := fun c k hk => (h2 c k hk).trans (h1 c k hk)
theorem RG_r {E : eT} {X : yT} : RG E X X := fun _ _ _ => rfl
theorem RG_u {E : eT} {X Y : yT} {c k : Nat} {v : Int32} (h : RG E X Y) (hk : k < c_len E c) : RG E X (s_up2 Y c k v) := fun c' k' hk' => by
  rw [up_rd, if_neg (fun z => by rw [z.1, z.2] at hk'; omega)]
  exact h c' k' hk'
theorem RG_i {E : eT} {X : yT} {f : Nat → yT → yT} (d a : Nat) (h : ∀ k Y, a ≤ k → k < a + d → RG E X Y → RG E X (f k Y)) {Y : yT} (h0 : RG E X Y) : RG E X (itd f a d Y) :=
  itd_inv (R := fun _ Y => RG E X Y) d a Y (fun k Y h1 h2 h3 => h k Y h1 h2 h3) h0
theorem RG_l {E : eT} {X : yT} {f : yT → Nat → yT} : ∀ (l : List Nat) (Y : yT), (∀ k Y, k ∈ l → RG E X Y → RG E X (f Y k)) → RG E X Y → RG E X (l.foldl f Y) := by
  intro l
  induction l with
  | nil => intro Y _ h; exact h
  | cons a l ih => intro Y h h0; exact ih _ (fun k Y hk => h k Y (List.mem_cons_of_mem _ hk)) (h a Y List.mem_cons_self h0)
section
variable {E : eT} {F : fT} {n : Nat} {M M1 N M' N' X Y U V : yT} {Z : zT} {x1 x2 x3 : Int32} {k i w : Nat}
theorem cl_f {c : Nat} (h : c < 32) : c_len E c = E.2.1 := if_pos h
theorem cl_s {c : Nat} (h1 : 32 ≤ c) (h2 : c < 64) : c_len E c = E.1 := (if_neg (by omega)).trans (if_pos h2)
theorem cl_g {c : Nat} (h1 : 64 ≤ c) : c_len E c = 1 := (if_neg (by omega)).trans (if_neg (by omega))
theorem RG_f {c k : Nat} {v : Int32} (h : RG E X Y) (hc : c < 32) (hk : k < E.2.1) : RG E X (s_up2 Y c k v) := RG_u h (by rw [cl_f hc]; exact hk)
theorem RG_s {c k : Nat} {v : Int32} (h : RG E X Y) (hc : 32 ≤ c ∧ c < 64) (hk : k < E.1) : RG E X (s_up2 Y c k v) := RG_u h (by rw [cl_s hc.1 hc.2]; exact hk)
theorem RG_g {c : Nat} {v : Int32} (h : RG E X Y) (hc : 64 ≤ c) : RG E X (s_up2 Y c 0 v) := RG_u h (by rw [cl_g hc]; decide)
theorem RG_share {td : Int32} (hi : i < E.1) (h : RG E X Y) : RG E X (shareF E td i Y) := by
  unfold shareF
  rw [zeroL_f]
  have h1 : RG E X ((ce_mem E i).foldl (fun M k => s_up2 M 11 k 0) Y) := RG_l _ _ (fun k Y hk hy => RG_f hy (by decide) (mem_iff.mp hk).1) h
  generalize (ce_mem E i).foldl (fun M k => s_up2 M 11 k 0) Y = Y1 at h1 ⊢
  unfold shareB
  have h2 : RG E X (s_up2 (s_up2 Y1 70 0 (Y1 70 0 + sunkF Y1 i)) 37 i 0) := RG_s (RG_g h1 (by decide)) (by decide) hi
  generalize s_up2 (s_up2 Y1 70 0 (Y1 70 0 + sunkF Y1 i)) 37 i 0 = Y2 at h2 ⊢
  generalize thF Y1 i = th
  dsimp only
  have h3 : RG E X (s_up2 Y2 72 0 (Y2 72 0 + th)) := RG_g h2 (by decide)
  split
  · exact h3
  · split
    · unfold shareN
      split
      · rw [givL_f]
        refine RG_l _ _ (fun k Y hk hy => ?_) (RG_s h2 (by decide) hi)
        unfold givS
        split
        · exact hy
        · exact RG_s (RG_f hy (by decide) (mem_iff.mp hk).1) (by decide) hi
      · exact h3
    · unfold shareT
      cases hx : nxC E Y2 i with
      | none => exact h3
      | some a => exact RG_s (RG_f h2 (by decide) (nx_some hx).1) (by decide) hi
theorem RG_stand {r t : Int32} (hk : k < E.2.1) (h : RG E X Y) : RG E X (standM E r t k Y) := by
  have hp : ∀ (x : Int32) (U : yT), RG E X U → RG E X (pW E k r x U) := by
    intro x U hu
    unfold pW
    refine RG_g (RG_f ?_ (by decide) hk) (by decide)
    have h1 : RG E X (s_up2 (s_up2 U 1 k (wa3 r x U k)) 70 0 (U 70 0 + (sep r x U k - sep r x U k / 2))) := RG_g (RG_f hu (by decide) hk) (by decide)
    unfold sendM
    cases hn : ce_nxt E k with
    | none => exact RG_g h1 (by decide)
    | some j => exact RG_f h1 (by decide) (nxt_lt hn.symm j rfl)
  have hg : ∀ (x y : Int32) (U : yT), RG E X U → RG E X (growM k x y t U) := by
    intro x y U hu
    unfold growM
    have h1 : ∀ a b d, RG E X (s_up2 (s_up2 (s_up2 U 7 k a) 6 k b) 4 k d) := fun a b d => RG_f (RG_f (RG_f hu (by decide) hk) (by decide) hk) (by decide) hk
    split
    · exact hu
    · dsimp only
      split
      · exact h1 _ _ _
      · split
        · exact h1 _ _ _
        · exact RG_f (h1 _ _ _) (by decide) hk
  unfold standM
  dsimp only
  exact RG_f (hg _ _ _ (RG_f (RG_f (hp _ _ (RG_f h (by decide) hk)) (by decide) hk) (by decide) hk)) (by decide) hk
theorem RG_fly (h : RG E X Y) : RG E X (flyF E Y) := by
  unfold flyF
  refine RG_i _ _ (fun k Y _ hk hy => ?_) (RG_i _ _ (fun k Y _ hk hy => ?_) h)
  · unfold setS
    exact RG_f (RG_f hy (by decide) (by omega)) (by decide) (by omega)
  · have hm : ∀ (o : Option Nat) (U : yT), (∀ j, o = some j → j < E.2.1) → RG E X U → RG E X (flyM k o U) := by
      intro o U ho hu
      cases o with
      | none => exact hu
      | some j => exact RG_f (RG_f hu (by decide) (by omega)) (by decide) (ho j rfl)
    unfold flyS
    split
    · exact hy
    · exact hm _ _ (fun j hj => by have := up_lt _ _ _ hj; omega) (hm _ _ (fun j hj => by have := dn_lt _ _ hj; omega) hy)
theorem RG_pass {fl wa ra : Int32} (h : RG E X Y) : RG E X (passF E fl wa ra Y) := by
  unfold passF
  dsimp only
  refine RG_fly (RG_i _ _ (fun k Y _ hk hy => RG_stand (by omega) hy) (RG_i _ _ (fun k Y _ hk hy => RG_share (by omega) hy) ?_))
  have h1 : RG E X (headM E fl wa ra Y) := RG_g (RG_g (RG_g (RG_g (RG_g h (by decide)) (by decide)) (by decide)) (by decide)) (by decide)
  generalize headM E fl wa ra Y = U at h1 ⊢
  unfold splitM
  split
  · exact RG_i _ _ (fun k Y _ hk hy => RG_g (RG_s hy (by decide) (by omega)) (by decide)) (RG_g h1 (by decide))
  · exact RG_g h1 (by decide)
theorem RG_cp (h : RG E X Y) : RG E X (cpM E M Y) := by
  unfold cpM
  refine RG_i _ _ (fun k Y _ hk hy => RG_l _ _ (fun c Y hc hy => ?_) hy) (RG_i _ _ (fun k Y _ hk hy => RG_l _ _ (fun c Y hc hy => ?_) hy) (RG_g (RG_g h (by decide)) (by decide)))
  · refine RG_f hy ?_ (by omega)
    simp only [List.mem_cons, List.not_mem_nil, or_false] at hc
    omega
  · refine RG_s hy ?_ (by omega)
    simp only [List.mem_cons, List.not_mem_nil, or_false] at hc
    omega
theorem RG_pb (h : RG E X Y) : RG E X (pbC E x1 x2 x3 Y) := by
  unfold pbC
  refine itd_inv (R := fun _ (p : Int32 × yT) => RG E X p.2) E.1 0 (x1, Y) (fun i p _ hi hp => ?_) h
  unfold pbS
  dsimp only
  split
  · unfold plC
    refine RG_l _ _ (fun k Y hk hy => ?_) hp
    have hk := (mem_iff.mp hk).1
    unfold plK begS
    split
    · exact RG_f (RG_f (RG_f (RG_f (RG_f (RG_f (RG_f (RG_f hy (by decide) hk) (by decide) hk) (by decide) hk) (by decide) hk) (by decide) hk) (by decide) hk) (by decide) hk) (by decide) hk
    · exact hy
  · exact hp
theorem RG_yp {D : Nat} (h : RG E X Y) : RG E X (ypC E M Y x1 x2 D) := by
  unfold ypC
  exact RG_i _ _ (fun k Y _ _ hy => RG_pass (RG_pb hy)) (RG_cp h)
theorem RG_pF {fl wa ra : Int32} {D : Nat} (h : RG E X Y) : RG E X (pF E fl wa ra D Y) := RG_i _ _ (fun _ _ _ _ hy => RG_pass hy) h
theorem RG_ri {fl wa ra c : Int32} : ∀ (d j : Nat) (Y : yT), RG E X Y → RG E X (riC E fl wa ra c d j Y).2 := by
  intro d
  induction d with
  | zero => intro j Y h; exact h
  | succ d ih =>
    intro j Y h
    simp only [riC]
    split
    · exact ih _ _ (RG_pass h)
    · exact RG_pass h
theorem RG_pl {D P : Nat} {p : Int32 × Int32 × yT} (h : RG E X p.2.2) : RG E X (itd (plS2 E M x1 D) 0 P p).2.2 := by
  refine itd_inv (R := fun _ (p : Int32 × Int32 × yT) => RG E X p.2.2) P 0 p (fun j p _ _ hp => ?_) h
  unfold plS2
  dsimp only
  split <;> exact RG_yp hp
/-- a trial world's state between runs -/
def TL (E : eT) (N X : yT) : Prop := TS E N X ∧ ∀ c k : Nat, c_len E c ≤ k → X c k = N c k
theorem TL_of (hl : ∀ c k : Nat, c_len E c ≤ k → X c k = N c k) (hr : RG E X Y) (h : TR E N n Y U) : TL E N Y := ⟨TR_TS h, fun c k hk => (hr c k hk).trans (hl c k hk)⟩
theorem TR_0 (h : LI E n Z N) (ht : TL E N X) : TR E N n (cpM E (Z 0) X) (Nw N) := by
  have := tr0 (TS_LI h ht.1) (fun c k hk => by rw [zs_rd]; exact ht.2 c k hk)
  rw [zs_r0, zs_rd] at this
  exact this
/-! days tried -/
theorem tr_pF (hW : EW E N) (hF : F.2.1 = E.2.1) (hF1 : F.1 = E.1) (hw : 0 ≤ (N 66 0).toInt ∧ (N 66 0).toInt ≤ 40) (D : Nat) (hn : n + D < 900000) (h : TR E N n X Y) : TR E N (n + D) (pF E (N 65 0) (N 66 0) (N 67 0) D X) (itd (fun _ => passR F) 0 D Y) := by
  have := itd_rel (f := fun _ X => passF E (N 65 0) (N 66 0) (N 67 0) X) (g := fun _ => passR F) (R := fun j X Y => TR E N (n + j) X Y) D 0 X Y (fun j X Y _ hj hr => (tr_pass hW hF hF1 (by omega) hw hr).2) h
  simp only [Nat.zero_add] at this
  exact this
/-! ripe ones -/
theorem stays5 {fl wa ra : Int32} (h : X 4 k = 5) : passF E fl wa ra X 4 k = 5 := by
  unfold passF
  dsimp only
  rw [fr_flyF (by omega)]
  refine itd_inv (R := fun _ (Y : yT) => Y 4 k = 5) E.2.1 0 _ (fun j Y _ _ hy => ?_) ?_
  · unfold standM
    dsimp only
    have e : ∀ U : yT, U 4 k = 5 → ∀ a b, growM j a b wa U 4 k = 5 := by
      intro U hu a b
      by_cases c : k = j
      · subst c
        unfold growM
        rw [if_pos (by rw [hu]; decide)]
        exact hu
      · rw [gr_rd (Or.inr c)]; exact hu
    rw [up_rd, if_neg (by omega)]
    refine e _ ?_ _ _
    rw [up_rd, if_neg (by omega), up_rd, if_neg (by omega), fr_pW (by omega), up_rd, if_neg (by omega)]
    exact hy
  · rw [fr_itd (fun k X => fr_share (by omega)), fr_hs (by omega)]; exact h
def irR (F : fT) (Y : yT) : Int32 := itd (fun k s => s ||| (if Y 4 k = 5 then (1 : Int32) <<< (nI k &&& 31) else 0)) 0 F.2.1 0
theorem bit_k : ∀ k : Nat, k < 12 → ((1 : Int32) <<< (nI k &&& 31)).toBitVec = BitVec.twoPow 32 k := by decide
theorem ir_bit (hF : F.2.1 ≤ 12) (b : Nat) (hb : b < 32) : (irR F Y).toBitVec.getLsbD b = decide (b < F.2.1 ∧ Y 4 b = 5) := by
  unfold irR
  have := itd_inv (f := fun k (s : Int32) => s ||| (if Y 4 k = 5 then (1 : Int32) <<< (nI k &&& 31) else 0)) (R := fun j (s : Int32) => s.toBitVec.getLsbD b = decide (b < j ∧ Y 4 b = 5)) F.2.1 0 0 (fun k s _ hk hs => by
    rw [Int32.toBitVec_or, BitVec.getLsbD_or, hs]
    by_cases c : Y 4 k = 5
    · rw [if_pos c, bit_k k (by omega), BitVec.getLsbD_twoPow]
      by_cases e : k = b
      · subst e
        simp [c, hb]
      · have : b < k + 1 ↔ b < k := by omega
        simp [e, this]
    · rw [if_neg c]
      have e0 : (0 : Int32).toBitVec.getLsbD b = false := by
        show (0#32).getLsbD b = false
        exact BitVec.getLsbD_zero
      rw [e0, Bool.or_false]
      by_cases e : k = b
      · subst e; simp [c]
      · have : b < k + 1 ↔ b < k := by omega
        simp only [this]) (by
    have e0 : (0 : Int32).toBitVec.getLsbD b = false := by
      show (0#32).getLsbD b = false
      exact BitVec.getLsbD_zero
    rw [e0]; simp)
  simp only [Nat.zero_add] at this
  exact this
theorem ripe_iff (h12 : E.2.1 ≤ 12) (hF : F.2.1 = E.2.1) (e1 : ∀ k, k < E.2.1 → X 4 k = Y 4 k) (e2 : ∀ k, k < E.2.1 → M 4 k = N 4 k) (hm : ∀ k, k < E.2.1 → M 4 k = 5 → X 4 k = 5) : crC E X ≤ crC E M ↔ irR F Y = irR F N := by
  have l0 : (0 : Int32).toInt = 0 := rfl
  have l1 : (1 : Int32).toInt = 1 := rfl
  by_cases hd : ∃ k, k < E.2.1 ∧ X 4 k = 5 ∧ ¬ M 4 k = 5
  · obtain ⟨k, hk, k1, k2⟩ := hd
    have hc := itd_rel (f := fun k s => s + if X 4 k = 5 then 1 else 0) (g := fun k s => s + if M 4 k = 5 then 1 else 0) (R := fun j (a b : Int32) => 0 ≤ b.toInt ∧ b.toInt ≤ a.toInt ∧ a.toInt ≤ (j : Int) ∧ (k < j → b.toInt < a.toInt)) E.2.1 0 0 0 (fun j a b _ hj hr => by
      obtain ⟨r1, r2, r3, r4⟩ := hr
      have hmj := hm j (by omega)
      by_cases c : X 4 j = 5
      · by_cases c2 : M 4 j = 5
        · rw [if_pos c, if_pos c2, ti_add (by omega) (by omega), ti_add (by omega) (by omega), l1]
          refine ⟨by omega, by omega, by omega, fun z => ?_⟩
          have : k ≠ j := fun y => k2 (y ▸ c2)
          have := r4 (by omega)
          omega
        · rw [if_pos c, if_neg c2, Int32.add_zero, ti_add (by omega) (by omega), l1]
          exact ⟨by omega, by omega, by omega, fun z => by omega⟩
      · have c2 : ¬ M 4 j = 5 := fun z => c (hmj z)
        rw [if_neg c, if_neg c2, Int32.add_zero, Int32.add_zero]
        refine ⟨r1, r2, by omega, fun z => ?_⟩
        have : k ≠ j := fun y => c (y ▸ k1)
        exact r4 (by omega)) ⟨Int.le_refl _, Int.le_refl _, Int.le_refl _, fun z => by omega⟩
    simp only [Nat.zero_add] at hc
    have hlt : (crC E M).toInt < (crC E X).toInt := hc.2.2.2 hk
    constructor
    · intro z; rw [ti_le] at z; omega
    · intro z
      have b1 := ir_bit (F := F) (Y := Y) (by omega) k (by omega)
      have b2 := ir_bit (F := F) (Y := N) (by omega) k (by omega)
      rw [z, b2, ← e1 k hk, ← e2 k hk] at b1
      simp [k1, k2, hF, hk] at b1
  · have hall : ∀ k, k < E.2.1 → (X 4 k = 5 ↔ M 4 k = 5) := fun k hk => ⟨fun z => Decidable.byContradiction (fun y => hd ⟨k, hk, z, y⟩), hm k hk⟩
    have h1 : crC E X = crC E M := by
      unfold crC
      refine itd_rel (R := fun _ a b => a = b) E.2.1 0 0 0 (fun j a b _ hj e => ?_) rfl
      rw [e]
      by_cases c : M 4 j = 5
      · rw [if_pos c, if_pos ((hall j (by omega)).mpr c)]
      · rw [if_neg c, if_neg (fun z => c ((hall j (by omega)).mp z))]
    have h2 : irR F Y = irR F N := by
      unfold irR
      rw [hF]
      refine itd_rel (R := fun _ a b => a = b) E.2.1 0 0 0 (fun j a b _ hj e => ?_) rfl
      rw [e, ← e1 j (by omega), ← e2 j (by omega)]
      by_cases c : M 4 j = 5
      · rw [if_pos c, if_pos ((hall j (by omega)).mpr c)]
      · rw [if_neg c, if_neg (fun z => c ((hall j (by omega)).mp z))]
    rw [h1, h2, ti_le]
    exact ⟨fun _ => rfl, fun _ => Int.le_refl _⟩
def rrR (F : fT) (c : Int32) : Nat → Nat → yT → Int32
  | 0, _, _ => -1
  | d + 1, j, Y => if irR F (passR F Y) = c then rrR F c d (j + 1) (passR F Y) else nI j
theorem tr_ri (hW : EW E N) (hF : F.2.1 = E.2.1) (hF1 : F.1 = E.1) (hw : 0 ≤ (N 66 0).toInt ∧ (N 66 0).toInt ≤ 40) (e2 : ∀ k, k < E.2.1 → M 4 k = N 4 k) : ∀ (d j n : Nat) (X Y : yT), n + d < 900000 → (∀ k, k < E.2.1 → M 4 k = 5 → X 4 k = 5) → TR E N n X Y → (riC E (N 65 0) (N 66 0) (N 67 0) (crC E M) d j X).1 = rrR F (irR F N) d j Y ∧ ∃ (n' : Nat) (Y' : yT), TR E N n' (riC E (N 65 0) (N 66 0) (N 67 0) (crC E M) d j X).2 Y' := by
  intro d
  induction d with
  | zero => intro j n X Y _ _ h; exact ⟨rfl, n, Y, h⟩
  | succ d ih =>
    intro j n X Y hn hm h
    have hp := (tr_pass hW hF hF1 (by omega) hw h).2
    have hm2 : ∀ k, k < E.2.1 → M 4 k = 5 → passF E (N 65 0) (N 66 0) (N 67 0) X 4 k = 5 := fun k hk z => stays5 (hm k hk z)
    have hri := ripe_iff (M := M) (N := N) hW.2.1 hF (fun k _ => d_4 (k := k) CD_Ct hp.1) e2 hm2
    simp only [riC, rrR]
    by_cases c : crC E (passF E (N 65 0) (N 66 0) (N 67 0) X) ≤ crC E M
    · rw [if_pos c, if_pos (hri.mp c)]
      exact ih (j + 1) (n + 1) _ _ (by omega) hm2 hp
    · rw [if_neg c, if_neg (fun z => c (hri.mpr z))]
      exact ⟨rfl, n + 1, _, hp⟩
/-! plans -/
def ypR (F : fT) (N : yT) (pl x : Int32) (D : Nat) : yT := itd (pdR F pl x) 0 D (Nw N)
def plR2 (F : fT) (N : yT) (x : Int32) (D : Nat) (j : Nat) (p : Int32 × Int32) : Int32 × Int32 := if syR F (ypR F N (nI j) x D) ≤ p.2 then p else (nI j, syR F (ypR F N (nI j) x D))
def plnR (F : fT) (N : yT) (x : Int32) (D : Nat) : Int32 := (itd (plR2 F N x D) 0 (3 ^ F.1) (-1, -1)).1
theorem tr_plan (h : LI E n Z N) (hF : F.2.1 = E.2.1) (hF1 : F.1 = E.1) (hx : 0 ≤ x1.toInt ∧ x1.toInt ≤ 2) {D : Nat} (hn : n + D < 900000) (ht : TL E N X) : (plV E (Z 0) x1 D X).1 = plnR F N x1 D ∧ TL E N (plV E (Z 0) x1 D X).2.2 := by
  obtain ⟨hw, z65, z66, z67⟩ := LI_w h
  have hW := LJ_EW h
  have l1 : (-1 : Int32).toInt = -1 := by decide
  have := itd_rel (f := plS2 E (Z 0) x1 D) (g := plR2 F N x1 D) (R := fun j (p : Int32 × Int32 × yT) (q : Int32 × Int32) => p.2.1 = q.2 ∧ (j = 0 → p.2.1 = -1) ∧ (0 < j → p.1 = q.1 ∧ 0 ≤ p.2.1.toInt) ∧ TL E N p.2.2 ∧ (j = 0 → p.1 = 0)) (3 ^ E.1) 0 (0, -1, X) (-1, -1) (fun j p q _ hj hr => by
    obtain ⟨r1, r2, r3, r4, r5⟩ := hr
    have h0 := TR_0 h r4
    have hy := tr_yp (F := F) (x2 := nI j) hW hF hF1 hw hx D hn h0
    have hs := tr_sy hW hF hy
    have eY : itd (pdC E (N 65 0) (N 66 0) (N 67 0) (nI j) x1) 0 D (cpM E (Z 0) p.2.2) = ypC E (Z 0) p.2.2 (nI j) x1 D := by unfold ypC; rw [z65, z66, z67]
    rw [eY] at hs hy
    have hTL : TL E N (ypC E (Z 0) p.2.2 (nI j) x1 D) := TL_of r4.2 (RG_yp RG_r) hy
    have es : syC E (ypC E (Z 0) p.2.2 (nI j) x1 D) = syR F (ypR F N (nI j) x1 D) := hs.1
    unfold plS2 plR2
    dsimp only
    rw [← es, ← r1]
    by_cases c : syC E (ypC E (Z 0) p.2.2 (nI j) x1 D) ≤ p.2.1
    · rw [if_pos c, if_pos c]
      have hj0 : 0 < j := by
        refine Nat.pos_of_ne_zero (fun z => ?_)
        rw [r2 z, ti_le, l1] at c
        omega
      exact ⟨r1, fun z => by omega, fun _ => r3 hj0, hTL, fun z => by omega⟩
    · rw [if_neg c, if_neg c]
      exact ⟨rfl, fun z => by omega, fun _ => ⟨rfl, hs.2⟩, hTL, fun z => by omega⟩) ⟨rfl, fun _ => rfl, fun z => by omega, ht, fun _ => rfl⟩
  simp only [Nat.zero_add] at this
  obtain ⟨t1, t2, t3, t4, t5⟩ := this
  have hpos : 0 < 3 ^ E.1 := Nat.pow_pos (by decide)
  unfold plV plnR
  rw [hF1]
  exact ⟨(t3 hpos).1, t4⟩
end
