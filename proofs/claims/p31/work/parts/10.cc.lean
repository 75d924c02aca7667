/-! ===== numbers of both sides: what the store holds, by column and place ===== -/
abbrev zT : Type := Nat → Nat → Nat → Int32
abbrev yT : Type := Nat → Nat → Int32
def u3 (Z : zT) (w c k : Nat) (v : Int32) : zT := fun w' c' k' => if c' = c ∧ w' = w ∧ k' = k then v else Z w' c' k'
theorem vEx {α : Type} {X : α} {B : α → Prop} (h : ∀ z : α, z = X → B z) : ∃ z : α, z = X ∧ B z := ⟨X, rfl, h X rfl⟩
theorem optN {f : Nat → Nat} {r : Option Nat} (h : Option.map f r = none) : r = none := by cases r with
  | none => rfl
  | some a => cases h
theorem optS {f : Nat → Nat} {r : Option Nat} {a : Nat} (h : Option.map f r = some a) : ∃ k, r = some k ∧ a = f k := by cases r with
  | none => cases h
  | some k => exact ⟨k, rfl, (Option.some.inj h).symm⟩
theorem optM {f : Nat → Nat} {r : Option Nat} {k : Nat} (h : r = some k) : Option.map f r = some (f k) := by subst h; rfl
theorem optK {k n : Nat} (h : k < n) : ∀ j : Nat, some k = some j → j < n := fun _ z => Option.some.inj z ▸ h
theorem vp_lt {x : Int32} {n : Nat} (h : vp_in x n) : Int32.toNatClampNeg x < n := Nat.lt_of_not_le (fun z => h (Or.inr z))
theorem vp_nn {x : Int32} {n : Nat} (h : vp_in x n) : ¬ x < 0 := fun z => h (Or.inl z)
theorem vp_lk {x : Int32} {n a : Nat} (h : vp_in x n) (e : a = Int32.toNatClampNeg x) : a < n := e ▸ vp_lt h
theorem z02 : 0 < 2 := by decide
theorem z12 : 1 < 2 := by decide
theorem z01 : 0 < 1 := by decide
theorem q_nI {n : Nat} (h : n < 2147483648) : (nI n).toInt = n := nI_toInt (by omega)
theorem q_lt {x : Int32} {n : Nat} (h : vp_in x n) (hn : n < 2147483648) : x < nI n := by
  rw [Int32.lt_iff_toInt_lt, q_nI hn]
  have h1 : ¬ x.toInt < 0 := fun z => vp_nn h (Int32.lt_iff_toInt_lt.mpr z)
  have h2 := vp_lt h
  have h3 : x.toNatClampNeg = x.toInt.toNat := rfl
  omega
theorem q_vp {x : Int32} {n m : Nat} (h : vp_in x n) (hn : n ≤ m) : vp_in x m := fun z => z.elim (fun z => vp_nn h z) (fun z => absurd (vp_lt h) (by omega))
/-! ===== the system's side ===== -/
abbrev fT : Type := Nat × Nat × Prop
theorem q_lit0 : Int32.toNatClampNeg (0 : Int32) = 0 := by decide
theorem q_lit1 : Int32.toNatClampNeg (1 : Int32) = 1 := by decide
theorem q_lit2 : Int32.toNatClampNeg (2 : Int32) = 2 := by decide
theorem q_lit3 : Int32.toNatClampNeg (3 : Int32) = 3 := by decide
theorem q_lit4 : Int32.toNatClampNeg (4 : Int32) = 4 := by decide
theorem q_lit5 : Int32.toNatClampNeg (5 : Int32) = 5 := by decide
theorem q_lit6 : Int32.toNatClampNeg (6 : Int32) = 6 := by decide
theorem q_lit7 : Int32.toNatClampNeg (7 : Int32) = 7 := by decide
theorem q_lit8 : Int32.toNatClampNeg (8 : Int32) = 8 := by decide
theorem q_lit9 : Int32.toNatClampNeg (9 : Int32) = 9 := by decide
theorem q_lit10 : Int32.toNatClampNeg (10 : Int32) = 10 := by decide
theorem q_lit11 : Int32.toNatClampNeg (11 : Int32) = 11 := by decide
theorem q_lit12 : Int32.toNatClampNeg (12 : Int32) = 12 := by decide
theorem q_lit13 : Int32.toNatClampNeg (13 : Int32) = 13 := by decide
abbrev eT : Type := Nat × Nat × (Nat → Nat)
def ce_mem (E : eT) (i : Nat) : List Nat := (List.range E.2.1).filter (fun k => E.2.2 k == i)
def ce_nxt (E : eT) (k : Nat) : Option Nat := ((List.range E.2.1).filter (fun j => E.2.2 j == E.2.2 k && decide (k < j))).head?
theorem mem_lt {E : eT} {i a : Nat} {x : Int32} (hi : vp_in x (ce_mem E i).length) (e : a = (ce_mem E i).getD (Int32.toNatClampNeg x) 0) : a < E.2.1 := by
  have h := vp_lt hi
  have h1 : a ∈ ce_mem E i := by
    rw [e]
    unfold List.getD
    rw [List.getElem?_eq_getElem h]
    exact List.getElem_mem h
  exact List.mem_range.mp (List.mem_filter.mp h1).1
theorem nxt_lt {E : eT} {k : Nat} {r : Option Nat} (e : r = ce_nxt E k) : ∀ j : Nat, r = some j → j < E.2.1 := by
  intro j hj
  have h1 : j ∈ (List.range E.2.1).filter (fun j => E.2.2 j == E.2.2 k && decide (k < j)) := List.mem_of_head? (by rw [← hj, e]; rfl)
  exact List.mem_range.mp (List.mem_filter.mp h1).1

def c_g (c : Nat) : Nat := match c with
  | 1 => 73
  | 2 => 74
  | 3 => 75
  | 4 => 32
  | 5 => 33
  | 6 => 34
  | 7 => 35
  | 8 => 76
  | 9 => 36
  | 10 => 37
  | 11 => 78
  | 12 => 72
  | 13 => 66
  | 14 => 67
  | 15 => 71
  | 16 => 77
  | 17 => 160
  | 18 => 161
  | 19 => 162
  | 20 => 38
  | 21 => 39
  | 22 => 79
  | 23 => 80
  | 32 => 193
  | 33 => 194
  | 34 => 196
  | 35 => 197
  | 36 => 198
  | 37 => 199
  | 38 => 202
  | 39 => 203
  | 40 => 200
  | 41 => 201
  | 64 => 99
  | 65 => 103
  | 66 => 104
  | 67 => 105
  | 68 => 100
  | 69 => 128
  | 70 => 129
  | 71 => 130
  | 72 => 131
  | 73 => 101
  | 74 => 102
  | _ => 0
def c_f (c : Nat) : Nat := match c with
  | 1 => 5
  | 2 => 5
  | 3 => 5
  | 4 => 7
  | 5 => 7
  | 6 => 7
  | 7 => 7
  | 8 => 5
  | 9 => 7
  | 10 => 7
  | 11 => 5
  | 12 => 5
  | 13 => 5
  | 14 => 5
  | 15 => 5
  | 16 => 5
  | 17 => 6
  | 18 => 6
  | 19 => 6
  | 20 => 7
  | 21 => 7
  | 22 => 5
  | 23 => 5
  | 32 => 4
  | 33 => 4
  | 34 => 4
  | 35 => 4
  | 36 => 4
  | 37 => 4
  | 38 => 4
  | 39 => 4
  | 40 => 4
  | 41 => 4
  | 64 => 0
  | 65 => 0
  | 66 => 0
  | 67 => 0
  | 68 => 0
  | 69 => 3
  | 70 => 3
  | 71 => 3
  | 72 => 3
  | 73 => 0
  | 74 => 0
  | _ => 0
def c_v (c : Nat) : Bool := Nat.blt 0 (c_g c)
def c_len (E : eT) (c : Nat) : Nat := if c < 32 then E.2.1 else if c < 64 then E.1 else 1
theorem c_gi : ∀ c : Nat, c < 75 → ∀ d : Nat, d < 75 → c_v c = true → c_v d = true → c_g c = c_g d → c = d := by decide +kernel
theorem c_gn : ∀ c : Nat, c < 75 → c_v c = true → c_g c ≠ 2 ∧ c_g c ≠ 64 ∧ c_g c ≠ 192 ∧ c_g c < 288 := by decide +kernel
theorem c_fl : ∀ c : Nat, c < 75 → c_v c = true → 32 ≤ c → c < 64 → c_f c = 4 := by decide +kernel
theorem c_fk : ∀ c : Nat, c < 75 → c_v c = true → c < 32 → c_f c = 5 ∨ c_f c = 6 ∨ c_f c = 7 := by decide +kernel
theorem c_f0 : ∀ c : Nat, c < 75 → c_v c = true → 64 ≤ c → c_f c = 0 ∨ c_f c = 3 := by decide +kernel
def LST (S : sT) (a n : Nat) (f : Nat → Nat) : Prop := s_K S a = 1 ∧ s_I S 2 a = nI n ∧ n ≤ 12 ∧ ∃ b : Nat, s_R S 1 a = some b ∧ ((n = 0 ∧ s_R S 9998 0 = some b) ∨ (s_K S b = 12 ∧ n ≤ s_N S b ∧ ∀ j : Nat, j < n → s_P S b j = some (f j)))
theorem us_size {S : sT} {a n : Nat} {f : Nat → Nat} {Q : Int32 → sT → Prop} (L : LST S a n f) (h : Q (nI n) S) : w_Jx4a65c_size_8abf5 a S Q := by
  unfold w_Jx4a65c_size_8abf5 w_Jx4a65c_size_8abf5_b0
  exact ⟨L.1, fun x e => by rw [e, L.2.1]; exact h⟩
theorem us_get {S : sT} {a n b : Nat} {f : Nat → Nat} {x : Int32} {Q : Nat → sT → Prop} (L : LST S a n f) (hi : vp_in x n) (e : b = f (Int32.toNatClampNeg x)) (h : Q b S) : w_Jx4a65c_get_915e3 a x S Q := by
  obtain ⟨hK, hI, hn, y, hR, hO⟩ := L
  have hn0 : n ≠ 0 := fun z => by
    have h1 := vp_lt hi
    omega
  obtain ⟨hy, hN, hP⟩ := hO.resolve_left (fun z => hn0 z.1)
  unfold w_Jx4a65c_get_915e3 w_Jx4a65c_get_915e3_b0
  refine ⟨hK, fun z ez => ?_⟩
  unfold w_J15_checkIndex_7cf53 w_J15_checkIndex_7cf53_b0 w_J3_checkIndex_8e157 w_J3_checkIndex_8e157_b0
  refine ⟨fun c => absurd c (vp_nn hi), fun _ => ⟨fun _ => ?_, fun c => absurd (by rw [ez, hI]; exact q_lt hi (by omega)) c⟩⟩
  refine ⟨hK, ?_⟩
  unfold w_Jx4a65c_elementData_915e3 w_Jx4a65c_elementData_915e3_b0
  exact ⟨hK, y, hR, hy, q_vp hi hN, b, by rw [hP _ (vp_lt hi), e], h⟩
/-- the shape: the two hills' objects, at the addresses H w family number -/
def CS (H : Nat → Nat → Nat → Nat) (E : eT) (S : sT) : Prop :=
  (E.1 ≤ 3 ∧ E.2.1 ≤ 12 ∧ ∀ k : Nat, k < E.2.1 → E.2.2 k < E.1) ∧
  (s_K S (H 0 9 0) = 8 ∧ s_R S 224 (H 0 9 0) = some (H 0 0 0) ∧ s_R S 225 (H 0 9 0) = some (H 1 0 0)) ∧
  ∀ w : Nat, w < 2 → (s_K S (H w 0 0) = 4 ∧ s_R S 96 (H w 0 0) = some (H w 1 0) ∧ s_R S 97 (H w 0 0) = some (H w 2 0) ∧ s_R S 98 (H w 0 0) = some (H w 3 0) ∧ s_K S (H w 3 0) = 5 ∧ LST S (H w 1 0) E.1 (H w 4) ∧ LST S (H w 2 0) E.2.1 (H w 5)) ∧
   (∀ i : Nat, i < E.1 → s_K S (H w 4 i) = 7 ∧ s_R S 195 (H w 4 i) = some (H w 8 i) ∧ s_I S 192 (H w 4 i) = nI i ∧ LST S (H w 8 i) (ce_mem E i).length (fun j => H w 5 ((ce_mem E i).getD j 0))) ∧
   (∀ k : Nat, k < E.2.1 → s_K S (H w 5 k) = 3 ∧ s_R S 65 (H w 5 k) = some (H w 4 (E.2.2 k)) ∧ s_R S 68 (H w 5 k) = some (H w 6 k) ∧ s_R S 69 (H w 5 k) = some (H w 7 k) ∧ s_R S 70 (H w 5 k) = Option.map (H w 5) (ce_nxt E k) ∧ s_I S 64 (H w 5 k) = nI k ∧ s_K S (H w 6 k) = 6 ∧ s_K S (H w 7 k) = 2)
def c_inj (H : Nat → Nat → Nat → Nat) (E : eT) : Prop := ∀ w : Nat, w < 2 → ∀ v : Nat, v < 2 → ∀ c : Nat, c < 75 → c_v c = true → ∀ k : Nat, k < c_len E c → ∀ j : Nat, j < c_len E c → H w (c_f c) k = H v (c_f c) j → w = v ∧ k = j
def CC (H : Nat → Nat → Nat → Nat) (E : eT) (S : sT) (Z : zT) : Prop := CS H E S ∧ c_inj H E ∧ ∀ w : Nat, w < 2 → ∀ c : Nat, c < 75 → c_v c = true → ∀ k : Nat, k < c_len E c → s_I S (c_g c) (H w (c_f c) k) = Z w c k
def cSt (P : sT → Prop) : Prop := ∀ (S : sT) (g a : Nat) (v : Int32), g < 288 → P S → P (s_sI S g a v)
theorem LST_sI {S : sT} {a n : Nat} {f : Nat → Nat} {g b : Nat} {v : Int32} (hg : g ≠ 2) (L : LST S a n f) : LST (s_sI S g b v) a n f := by
  obtain ⟨hK, hI, hn, y, hR, hO⟩ := L
  exact ⟨hK, (if_neg (fun z => hg z.1.symm)).trans hI, hn, y, hR, hO⟩
theorem CS_sI {H : Nat → Nat → Nat → Nat} {E : eT} {S : sT} {g b : Nat} {v : Int32} (h2 : g ≠ 2) (h64 : g ≠ 64) (h192 : g ≠ 192) (h : CS H E S) : CS H E (s_sI S g b v) := by
  obtain ⟨h1, hx, hw⟩ := h
  refine ⟨h1, hx, fun w hw2 => ?_⟩
  obtain ⟨⟨a1, a2, a3, a4, a5, a6, a7⟩, hs, hf⟩ := hw w hw2
  refine ⟨⟨a1, a2, a3, a4, a5, LST_sI h2 a6, LST_sI h2 a7⟩, fun i hi => ?_, fun k hk => ?_⟩
  · obtain ⟨b1, b2, b3, b4⟩ := hs i hi
    exact ⟨b1, b2, (if_neg (fun z => h192 z.1.symm)).trans b3, LST_sI h2 b4⟩
  · obtain ⟨b1, b2, b3, b4, b5, b6, b7, b8⟩ := hf k hk
    exact ⟨b1, b2, b3, b4, b5, (if_neg (fun z => h64 z.1.symm)).trans b6, b7, b8⟩
theorem wI {H : Nat → Nat → Nat → Nat} {E : eT} {S S1 : sT} {Z Z1 : zT} {w : Nat} (c : Nat) {k : Nat} {v : Int32} (hc : c < 75) (hv : c_v c = true) (hC : CC H E S Z) (hw : w < 2) (hk : k < c_len E c) (eS : S1 = s_sI S (c_g c) (H w (c_f c) k) v) (eZ : Z1 = u3 Z w c k v) : CC H E S1 Z1 := by
  subst eS eZ
  obtain ⟨n2, n64, n192, -⟩ := c_gn c hc hv
  refine ⟨CS_sI n2 n64 n192 hC.1, hC.2.1, fun w1 hw1 c1 hc1 hv1 k1 hk1 => ?_⟩
  by_cases e : c1 = c
  · subst e
    by_cases e1 : w1 = w ∧ k1 = k
    · obtain ⟨e1, e2⟩ := e1
      subst e1 e2
      exact (if_pos ⟨rfl, rfl⟩).trans (if_pos ⟨rfl, rfl, rfl⟩).symm
    · refine (if_neg (fun z => e1 (hC.2.1 w1 hw1 w hw c1 hc hv k1 hk1 k hk z.2))).trans ?_
      exact (hC.2.2 w1 hw1 c1 hc hv k1 hk1).trans (if_neg (fun z => e1 z.2)).symm
  · refine (if_neg (fun z => e (c_gi c1 hc1 c hc hv1 hv z.1))).trans ?_
    exact (hC.2.2 w1 hw1 c1 hc1 hv1 k1 hk1).trans (if_neg (fun z => e z.1)).symm
section
variable {H : Nat → Nat → Nat → Nat} {E : eT} {S S1 : sT} {Z Z1 : zT} {w k i : Nat} {v : Int32}
theorem of_lt (hC : CC H E S Z) (hk : k < E.2.1) : E.2.2 k < E.1 := hC.1.1.2.2 k hk
theorem rK_Sub (hC : CC H E S Z) : s_K S (H 0 9 0) = 8 := hC.1.2.1.1
theorem rF_224 (hC : CC H E S Z) : s_R S 224 (H 0 9 0) = some (H 0 0 0) := hC.1.2.1.2.1
theorem rF_225 (hC : CC H E S Z) : s_R S 225 (H 0 9 0) = some (H 1 0 0) := hC.1.2.1.2.2
theorem rK_Hill (hC : CC H E S Z) (hw : w < 2) : s_K S (H w 0 0) = 4 := (hC.1.2.2 w hw).1.1
theorem rF_96 (hC : CC H E S Z) (hw : w < 2) : s_R S 96 (H w 0 0) = some (H w 1 0) := (hC.1.2.2 w hw).1.2.1
theorem rF_97 (hC : CC H E S Z) (hw : w < 2) : s_R S 97 (H w 0 0) = some (H w 2 0) := (hC.1.2.2 w hw).1.2.2.1
theorem rF_98 (hC : CC H E S Z) (hw : w < 2) : s_R S 98 (H w 0 0) = some (H w 3 0) := (hC.1.2.2 w hw).1.2.2.2.1
theorem rK_Led (hC : CC H E S Z) (hw : w < 2) : s_K S (H w 3 0) = 5 := (hC.1.2.2 w hw).1.2.2.2.2.1
theorem rL_LS (hC : CC H E S Z) (hw : w < 2) : LST S (H w 1 0) E.1 (H w 4) := (hC.1.2.2 w hw).1.2.2.2.2.2.1
theorem rL_LF (hC : CC H E S Z) (hw : w < 2) : LST S (H w 2 0) E.2.1 (H w 5) := (hC.1.2.2 w hw).1.2.2.2.2.2.2
theorem rK_LS (hC : CC H E S Z) (hw : w < 2) : s_K S (H w 1 0) = 1 := (rL_LS hC hw).1
theorem rK_LF (hC : CC H E S Z) (hw : w < 2) : s_K S (H w 2 0) = 1 := (rL_LF hC hw).1
theorem rK_Soc (hC : CC H E S Z) (hw : w < 2) (hi : i < E.1) : s_K S (H w 4 i) = 7 := ((hC.1.2.2 w hw).2.1 i hi).1
theorem rF_195 (hC : CC H E S Z) (hw : w < 2) (hi : i < E.1) : s_R S 195 (H w 4 i) = some (H w 8 i) := ((hC.1.2.2 w hw).2.1 i hi).2.1
theorem rG_192 (hC : CC H E S Z) (hw : w < 2) (hi : i < E.1) : s_I S 192 (H w 4 i) = nI i := ((hC.1.2.2 w hw).2.1 i hi).2.2.1
theorem rL_LM (hC : CC H E S Z) (hw : w < 2) (hi : i < E.1) : LST S (H w 8 i) (ce_mem E i).length (fun j => H w 5 ((ce_mem E i).getD j 0)) := ((hC.1.2.2 w hw).2.1 i hi).2.2.2
theorem rK_LM (hC : CC H E S Z) (hw : w < 2) (hi : i < E.1) : s_K S (H w 8 i) = 1 := (rL_LM hC hw hi).1
theorem rK_Fld (hC : CC H E S Z) (hw : w < 2) (hk : k < E.2.1) : s_K S (H w 5 k) = 3 := ((hC.1.2.2 w hw).2.2 k hk).1
theorem rF_65 (hC : CC H E S Z) (hw : w < 2) (hk : k < E.2.1) : s_R S 65 (H w 5 k) = some (H w 4 (E.2.2 k)) := ((hC.1.2.2 w hw).2.2 k hk).2.1
theorem rF_68 (hC : CC H E S Z) (hw : w < 2) (hk : k < E.2.1) : s_R S 68 (H w 5 k) = some (H w 6 k) := ((hC.1.2.2 w hw).2.2 k hk).2.2.1
theorem rF_69 (hC : CC H E S Z) (hw : w < 2) (hk : k < E.2.1) : s_R S 69 (H w 5 k) = some (H w 7 k) := ((hC.1.2.2 w hw).2.2 k hk).2.2.2.1
theorem rF_70 (hC : CC H E S Z) (hw : w < 2) (hk : k < E.2.1) : s_R S 70 (H w 5 k) = Option.map (H w 5) (ce_nxt E k) := ((hC.1.2.2 w hw).2.2 k hk).2.2.2.2.1
theorem rG_64 (hC : CC H E S Z) (hw : w < 2) (hk : k < E.2.1) : s_I S 64 (H w 5 k) = nI k := ((hC.1.2.2 w hw).2.2 k hk).2.2.2.2.2.1
theorem rK_Own (hC : CC H E S Z) (hw : w < 2) (hk : k < E.2.1) : s_K S (H w 6 k) = 6 := ((hC.1.2.2 w hw).2.2 k hk).2.2.2.2.2.2.1
theorem rK_Crp (hC : CC H E S Z) (hw : w < 2) (hk : k < E.2.1) : s_K S (H w 7 k) = 2 := ((hC.1.2.2 w hw).2.2 k hk).2.2.2.2.2.2.2
theorem rI_1 (hC : CC H E S Z) (hw : w < 2) (hk : k < E.2.1) : s_I S 73 (H w 5 k) = Z w 1 k := hC.2.2 w hw 1 (by decide) rfl k hk
theorem wI_1 (hC : CC H E S Z) (hw : w < 2) (hk : k < E.2.1) (eS : S1 = s_sI S 73 (H w 5 k) v) (eZ : Z1 = u3 Z w 1 k v) : CC H E S1 Z1 := wI 1 (by decide) rfl hC hw hk eS eZ
theorem rI_2 (hC : CC H E S Z) (hw : w < 2) (hk : k < E.2.1) : s_I S 74 (H w 5 k) = Z w 2 k := hC.2.2 w hw 2 (by decide) rfl k hk
theorem wI_2 (hC : CC H E S Z) (hw : w < 2) (hk : k < E.2.1) (eS : S1 = s_sI S 74 (H w 5 k) v) (eZ : Z1 = u3 Z w 2 k v) : CC H E S1 Z1 := wI 2 (by decide) rfl hC hw hk eS eZ
theorem rI_3 (hC : CC H E S Z) (hw : w < 2) (hk : k < E.2.1) : s_I S 75 (H w 5 k) = Z w 3 k := hC.2.2 w hw 3 (by decide) rfl k hk
theorem wI_3 (hC : CC H E S Z) (hw : w < 2) (hk : k < E.2.1) (eS : S1 = s_sI S 75 (H w 5 k) v) (eZ : Z1 = u3 Z w 3 k v) : CC H E S1 Z1 := wI 3 (by decide) rfl hC hw hk eS eZ
theorem rI_4 (hC : CC H E S Z) (hw : w < 2) (hk : k < E.2.1) : s_I S 32 (H w 7 k) = Z w 4 k := hC.2.2 w hw 4 (by decide) rfl k hk
theorem wI_4 (hC : CC H E S Z) (hw : w < 2) (hk : k < E.2.1) (eS : S1 = s_sI S 32 (H w 7 k) v) (eZ : Z1 = u3 Z w 4 k v) : CC H E S1 Z1 := wI 4 (by decide) rfl hC hw hk eS eZ
theorem rI_5 (hC : CC H E S Z) (hw : w < 2) (hk : k < E.2.1) : s_I S 33 (H w 7 k) = Z w 5 k := hC.2.2 w hw 5 (by decide) rfl k hk
theorem wI_5 (hC : CC H E S Z) (hw : w < 2) (hk : k < E.2.1) (eS : S1 = s_sI S 33 (H w 7 k) v) (eZ : Z1 = u3 Z w 5 k v) : CC H E S1 Z1 := wI 5 (by decide) rfl hC hw hk eS eZ
theorem rI_6 (hC : CC H E S Z) (hw : w < 2) (hk : k < E.2.1) : s_I S 34 (H w 7 k) = Z w 6 k := hC.2.2 w hw 6 (by decide) rfl k hk
theorem wI_6 (hC : CC H E S Z) (hw : w < 2) (hk : k < E.2.1) (eS : S1 = s_sI S 34 (H w 7 k) v) (eZ : Z1 = u3 Z w 6 k v) : CC H E S1 Z1 := wI 6 (by decide) rfl hC hw hk eS eZ
theorem rI_7 (hC : CC H E S Z) (hw : w < 2) (hk : k < E.2.1) : s_I S 35 (H w 7 k) = Z w 7 k := hC.2.2 w hw 7 (by decide) rfl k hk
theorem wI_7 (hC : CC H E S Z) (hw : w < 2) (hk : k < E.2.1) (eS : S1 = s_sI S 35 (H w 7 k) v) (eZ : Z1 = u3 Z w 7 k v) : CC H E S1 Z1 := wI 7 (by decide) rfl hC hw hk eS eZ
theorem rI_8 (hC : CC H E S Z) (hw : w < 2) (hk : k < E.2.1) : s_I S 76 (H w 5 k) = Z w 8 k := hC.2.2 w hw 8 (by decide) rfl k hk
theorem wI_8 (hC : CC H E S Z) (hw : w < 2) (hk : k < E.2.1) (eS : S1 = s_sI S 76 (H w 5 k) v) (eZ : Z1 = u3 Z w 8 k v) : CC H E S1 Z1 := wI 8 (by decide) rfl hC hw hk eS eZ
theorem rI_9 (hC : CC H E S Z) (hw : w < 2) (hk : k < E.2.1) : s_I S 36 (H w 7 k) = Z w 9 k := hC.2.2 w hw 9 (by decide) rfl k hk
theorem wI_9 (hC : CC H E S Z) (hw : w < 2) (hk : k < E.2.1) (eS : S1 = s_sI S 36 (H w 7 k) v) (eZ : Z1 = u3 Z w 9 k v) : CC H E S1 Z1 := wI 9 (by decide) rfl hC hw hk eS eZ
theorem rI_10 (hC : CC H E S Z) (hw : w < 2) (hk : k < E.2.1) : s_I S 37 (H w 7 k) = Z w 10 k := hC.2.2 w hw 10 (by decide) rfl k hk
theorem wI_10 (hC : CC H E S Z) (hw : w < 2) (hk : k < E.2.1) (eS : S1 = s_sI S 37 (H w 7 k) v) (eZ : Z1 = u3 Z w 10 k v) : CC H E S1 Z1 := wI 10 (by decide) rfl hC hw hk eS eZ
theorem rI_11 (hC : CC H E S Z) (hw : w < 2) (hk : k < E.2.1) : s_I S 78 (H w 5 k) = Z w 11 k := hC.2.2 w hw 11 (by decide) rfl k hk
theorem wI_11 (hC : CC H E S Z) (hw : w < 2) (hk : k < E.2.1) (eS : S1 = s_sI S 78 (H w 5 k) v) (eZ : Z1 = u3 Z w 11 k v) : CC H E S1 Z1 := wI 11 (by decide) rfl hC hw hk eS eZ
theorem rI_12 (hC : CC H E S Z) (hw : w < 2) (hk : k < E.2.1) : s_I S 72 (H w 5 k) = Z w 12 k := hC.2.2 w hw 12 (by decide) rfl k hk
theorem wI_12 (hC : CC H E S Z) (hw : w < 2) (hk : k < E.2.1) (eS : S1 = s_sI S 72 (H w 5 k) v) (eZ : Z1 = u3 Z w 12 k v) : CC H E S1 Z1 := wI 12 (by decide) rfl hC hw hk eS eZ
theorem rI_13 (hC : CC H E S Z) (hw : w < 2) (hk : k < E.2.1) : s_I S 66 (H w 5 k) = Z w 13 k := hC.2.2 w hw 13 (by decide) rfl k hk
theorem wI_13 (hC : CC H E S Z) (hw : w < 2) (hk : k < E.2.1) (eS : S1 = s_sI S 66 (H w 5 k) v) (eZ : Z1 = u3 Z w 13 k v) : CC H E S1 Z1 := wI 13 (by decide) rfl hC hw hk eS eZ
theorem rI_14 (hC : CC H E S Z) (hw : w < 2) (hk : k < E.2.1) : s_I S 67 (H w 5 k) = Z w 14 k := hC.2.2 w hw 14 (by decide) rfl k hk
theorem wI_14 (hC : CC H E S Z) (hw : w < 2) (hk : k < E.2.1) (eS : S1 = s_sI S 67 (H w 5 k) v) (eZ : Z1 = u3 Z w 14 k v) : CC H E S1 Z1 := wI 14 (by decide) rfl hC hw hk eS eZ
theorem rI_15 (hC : CC H E S Z) (hw : w < 2) (hk : k < E.2.1) : s_I S 71 (H w 5 k) = Z w 15 k := hC.2.2 w hw 15 (by decide) rfl k hk
theorem wI_15 (hC : CC H E S Z) (hw : w < 2) (hk : k < E.2.1) (eS : S1 = s_sI S 71 (H w 5 k) v) (eZ : Z1 = u3 Z w 15 k v) : CC H E S1 Z1 := wI 15 (by decide) rfl hC hw hk eS eZ
theorem rI_16 (hC : CC H E S Z) (hw : w < 2) (hk : k < E.2.1) : s_I S 77 (H w 5 k) = Z w 16 k := hC.2.2 w hw 16 (by decide) rfl k hk
theorem wI_16 (hC : CC H E S Z) (hw : w < 2) (hk : k < E.2.1) (eS : S1 = s_sI S 77 (H w 5 k) v) (eZ : Z1 = u3 Z w 16 k v) : CC H E S1 Z1 := wI 16 (by decide) rfl hC hw hk eS eZ
theorem rI_17 (hC : CC H E S Z) (hw : w < 2) (hk : k < E.2.1) : s_I S 160 (H w 6 k) = Z w 17 k := hC.2.2 w hw 17 (by decide) rfl k hk
theorem wI_17 (hC : CC H E S Z) (hw : w < 2) (hk : k < E.2.1) (eS : S1 = s_sI S 160 (H w 6 k) v) (eZ : Z1 = u3 Z w 17 k v) : CC H E S1 Z1 := wI 17 (by decide) rfl hC hw hk eS eZ
theorem rI_18 (hC : CC H E S Z) (hw : w < 2) (hk : k < E.2.1) : s_I S 161 (H w 6 k) = Z w 18 k := hC.2.2 w hw 18 (by decide) rfl k hk
theorem wI_18 (hC : CC H E S Z) (hw : w < 2) (hk : k < E.2.1) (eS : S1 = s_sI S 161 (H w 6 k) v) (eZ : Z1 = u3 Z w 18 k v) : CC H E S1 Z1 := wI 18 (by decide) rfl hC hw hk eS eZ
theorem rI_19 (hC : CC H E S Z) (hw : w < 2) (hk : k < E.2.1) : s_I S 162 (H w 6 k) = Z w 19 k := hC.2.2 w hw 19 (by decide) rfl k hk
theorem wI_19 (hC : CC H E S Z) (hw : w < 2) (hk : k < E.2.1) (eS : S1 = s_sI S 162 (H w 6 k) v) (eZ : Z1 = u3 Z w 19 k v) : CC H E S1 Z1 := wI 19 (by decide) rfl hC hw hk eS eZ
theorem rI_20 (hC : CC H E S Z) (hw : w < 2) (hk : k < E.2.1) : s_I S 38 (H w 7 k) = Z w 20 k := hC.2.2 w hw 20 (by decide) rfl k hk
theorem wI_20 (hC : CC H E S Z) (hw : w < 2) (hk : k < E.2.1) (eS : S1 = s_sI S 38 (H w 7 k) v) (eZ : Z1 = u3 Z w 20 k v) : CC H E S1 Z1 := wI 20 (by decide) rfl hC hw hk eS eZ
theorem rI_21 (hC : CC H E S Z) (hw : w < 2) (hk : k < E.2.1) : s_I S 39 (H w 7 k) = Z w 21 k := hC.2.2 w hw 21 (by decide) rfl k hk
theorem wI_21 (hC : CC H E S Z) (hw : w < 2) (hk : k < E.2.1) (eS : S1 = s_sI S 39 (H w 7 k) v) (eZ : Z1 = u3 Z w 21 k v) : CC H E S1 Z1 := wI 21 (by decide) rfl hC hw hk eS eZ
theorem rI_22 (hC : CC H E S Z) (hw : w < 2) (hk : k < E.2.1) : s_I S 79 (H w 5 k) = Z w 22 k := hC.2.2 w hw 22 (by decide) rfl k hk
theorem wI_22 (hC : CC H E S Z) (hw : w < 2) (hk : k < E.2.1) (eS : S1 = s_sI S 79 (H w 5 k) v) (eZ : Z1 = u3 Z w 22 k v) : CC H E S1 Z1 := wI 22 (by decide) rfl hC hw hk eS eZ
theorem rI_23 (hC : CC H E S Z) (hw : w < 2) (hk : k < E.2.1) : s_I S 80 (H w 5 k) = Z w 23 k := hC.2.2 w hw 23 (by decide) rfl k hk
theorem wI_23 (hC : CC H E S Z) (hw : w < 2) (hk : k < E.2.1) (eS : S1 = s_sI S 80 (H w 5 k) v) (eZ : Z1 = u3 Z w 23 k v) : CC H E S1 Z1 := wI 23 (by decide) rfl hC hw hk eS eZ
theorem rI_32 (hC : CC H E S Z) (hw : w < 2) (hk : k < E.1) : s_I S 193 (H w 4 k) = Z w 32 k := hC.2.2 w hw 32 (by decide) rfl k hk
theorem wI_32 (hC : CC H E S Z) (hw : w < 2) (hk : k < E.1) (eS : S1 = s_sI S 193 (H w 4 k) v) (eZ : Z1 = u3 Z w 32 k v) : CC H E S1 Z1 := wI 32 (by decide) rfl hC hw hk eS eZ
theorem rI_33 (hC : CC H E S Z) (hw : w < 2) (hk : k < E.1) : s_I S 194 (H w 4 k) = Z w 33 k := hC.2.2 w hw 33 (by decide) rfl k hk
theorem wI_33 (hC : CC H E S Z) (hw : w < 2) (hk : k < E.1) (eS : S1 = s_sI S 194 (H w 4 k) v) (eZ : Z1 = u3 Z w 33 k v) : CC H E S1 Z1 := wI 33 (by decide) rfl hC hw hk eS eZ
theorem rI_34 (hC : CC H E S Z) (hw : w < 2) (hk : k < E.1) : s_I S 196 (H w 4 k) = Z w 34 k := hC.2.2 w hw 34 (by decide) rfl k hk
theorem wI_34 (hC : CC H E S Z) (hw : w < 2) (hk : k < E.1) (eS : S1 = s_sI S 196 (H w 4 k) v) (eZ : Z1 = u3 Z w 34 k v) : CC H E S1 Z1 := wI 34 (by decide) rfl hC hw hk eS eZ
theorem rI_35 (hC : CC H E S Z) (hw : w < 2) (hk : k < E.1) : s_I S 197 (H w 4 k) = Z w 35 k := hC.2.2 w hw 35 (by decide) rfl k hk
theorem wI_35 (hC : CC H E S Z) (hw : w < 2) (hk : k < E.1) (eS : S1 = s_sI S 197 (H w 4 k) v) (eZ : Z1 = u3 Z w 35 k v) : CC H E S1 Z1 := wI 35 (by decide) rfl hC hw hk eS eZ
theorem rI_36 (hC : CC H E S Z) (hw : w < 2) (hk : k < E.1) : s_I S 198 (H w 4 k) = Z w 36 k := hC.2.2 w hw 36 (by decide) rfl k hk
theorem wI_36 (hC : CC H E S Z) (hw : w < 2) (hk : k < E.1) (eS : S1 = s_sI S 198 (H w 4 k) v) (eZ : Z1 = u3 Z w 36 k v) : CC H E S1 Z1 := wI 36 (by decide) rfl hC hw hk eS eZ
theorem rI_37 (hC : CC H E S Z) (hw : w < 2) (hk : k < E.1) : s_I S 199 (H w 4 k) = Z w 37 k := hC.2.2 w hw 37 (by decide) rfl k hk
theorem wI_37 (hC : CC H E S Z) (hw : w < 2) (hk : k < E.1) (eS : S1 = s_sI S 199 (H w 4 k) v) (eZ : Z1 = u3 Z w 37 k v) : CC H E S1 Z1 := wI 37 (by decide) rfl hC hw hk eS eZ
theorem rI_38 (hC : CC H E S Z) (hw : w < 2) (hk : k < E.1) : s_I S 202 (H w 4 k) = Z w 38 k := hC.2.2 w hw 38 (by decide) rfl k hk
theorem wI_38 (hC : CC H E S Z) (hw : w < 2) (hk : k < E.1) (eS : S1 = s_sI S 202 (H w 4 k) v) (eZ : Z1 = u3 Z w 38 k v) : CC H E S1 Z1 := wI 38 (by decide) rfl hC hw hk eS eZ
theorem rI_39 (hC : CC H E S Z) (hw : w < 2) (hk : k < E.1) : s_I S 203 (H w 4 k) = Z w 39 k := hC.2.2 w hw 39 (by decide) rfl k hk
theorem wI_39 (hC : CC H E S Z) (hw : w < 2) (hk : k < E.1) (eS : S1 = s_sI S 203 (H w 4 k) v) (eZ : Z1 = u3 Z w 39 k v) : CC H E S1 Z1 := wI 39 (by decide) rfl hC hw hk eS eZ
theorem rI_40 (hC : CC H E S Z) (hw : w < 2) (hk : k < E.1) : s_I S 200 (H w 4 k) = Z w 40 k := hC.2.2 w hw 40 (by decide) rfl k hk
theorem wI_40 (hC : CC H E S Z) (hw : w < 2) (hk : k < E.1) (eS : S1 = s_sI S 200 (H w 4 k) v) (eZ : Z1 = u3 Z w 40 k v) : CC H E S1 Z1 := wI 40 (by decide) rfl hC hw hk eS eZ
theorem rI_41 (hC : CC H E S Z) (hw : w < 2) (hk : k < E.1) : s_I S 201 (H w 4 k) = Z w 41 k := hC.2.2 w hw 41 (by decide) rfl k hk
theorem wI_41 (hC : CC H E S Z) (hw : w < 2) (hk : k < E.1) (eS : S1 = s_sI S 201 (H w 4 k) v) (eZ : Z1 = u3 Z w 41 k v) : CC H E S1 Z1 := wI 41 (by decide) rfl hC hw hk eS eZ
theorem rI_64 (hC : CC H E S Z) (hw : w < 2) (hk : 0 < 1) : s_I S 99 (H w 0 0) = Z w 64 0 := hC.2.2 w hw 64 (by decide) rfl 0 hk
theorem wI_64 (hC : CC H E S Z) (hw : w < 2) (hk : 0 < 1) (eS : S1 = s_sI S 99 (H w 0 0) v) (eZ : Z1 = u3 Z w 64 0 v) : CC H E S1 Z1 := wI 64 (by decide) rfl hC hw hk eS eZ
theorem rI_65 (hC : CC H E S Z) (hw : w < 2) (hk : 0 < 1) : s_I S 103 (H w 0 0) = Z w 65 0 := hC.2.2 w hw 65 (by decide) rfl 0 hk
theorem wI_65 (hC : CC H E S Z) (hw : w < 2) (hk : 0 < 1) (eS : S1 = s_sI S 103 (H w 0 0) v) (eZ : Z1 = u3 Z w 65 0 v) : CC H E S1 Z1 := wI 65 (by decide) rfl hC hw hk eS eZ
theorem rI_66 (hC : CC H E S Z) (hw : w < 2) (hk : 0 < 1) : s_I S 104 (H w 0 0) = Z w 66 0 := hC.2.2 w hw 66 (by decide) rfl 0 hk
theorem wI_66 (hC : CC H E S Z) (hw : w < 2) (hk : 0 < 1) (eS : S1 = s_sI S 104 (H w 0 0) v) (eZ : Z1 = u3 Z w 66 0 v) : CC H E S1 Z1 := wI 66 (by decide) rfl hC hw hk eS eZ
theorem rI_67 (hC : CC H E S Z) (hw : w < 2) (hk : 0 < 1) : s_I S 105 (H w 0 0) = Z w 67 0 := hC.2.2 w hw 67 (by decide) rfl 0 hk
theorem wI_67 (hC : CC H E S Z) (hw : w < 2) (hk : 0 < 1) (eS : S1 = s_sI S 105 (H w 0 0) v) (eZ : Z1 = u3 Z w 67 0 v) : CC H E S1 Z1 := wI 67 (by decide) rfl hC hw hk eS eZ
theorem rI_68 (hC : CC H E S Z) (hw : w < 2) (hk : 0 < 1) : s_I S 100 (H w 0 0) = Z w 68 0 := hC.2.2 w hw 68 (by decide) rfl 0 hk
theorem wI_68 (hC : CC H E S Z) (hw : w < 2) (hk : 0 < 1) (eS : S1 = s_sI S 100 (H w 0 0) v) (eZ : Z1 = u3 Z w 68 0 v) : CC H E S1 Z1 := wI 68 (by decide) rfl hC hw hk eS eZ
theorem rI_69 (hC : CC H E S Z) (hw : w < 2) (hk : 0 < 1) : s_I S 128 (H w 3 0) = Z w 69 0 := hC.2.2 w hw 69 (by decide) rfl 0 hk
theorem wI_69 (hC : CC H E S Z) (hw : w < 2) (hk : 0 < 1) (eS : S1 = s_sI S 128 (H w 3 0) v) (eZ : Z1 = u3 Z w 69 0 v) : CC H E S1 Z1 := wI 69 (by decide) rfl hC hw hk eS eZ
theorem rI_70 (hC : CC H E S Z) (hw : w < 2) (hk : 0 < 1) : s_I S 129 (H w 3 0) = Z w 70 0 := hC.2.2 w hw 70 (by decide) rfl 0 hk
theorem wI_70 (hC : CC H E S Z) (hw : w < 2) (hk : 0 < 1) (eS : S1 = s_sI S 129 (H w 3 0) v) (eZ : Z1 = u3 Z w 70 0 v) : CC H E S1 Z1 := wI 70 (by decide) rfl hC hw hk eS eZ
theorem rI_71 (hC : CC H E S Z) (hw : w < 2) (hk : 0 < 1) : s_I S 130 (H w 3 0) = Z w 71 0 := hC.2.2 w hw 71 (by decide) rfl 0 hk
theorem wI_71 (hC : CC H E S Z) (hw : w < 2) (hk : 0 < 1) (eS : S1 = s_sI S 130 (H w 3 0) v) (eZ : Z1 = u3 Z w 71 0 v) : CC H E S1 Z1 := wI 71 (by decide) rfl hC hw hk eS eZ
theorem rI_72 (hC : CC H E S Z) (hw : w < 2) (hk : 0 < 1) : s_I S 131 (H w 3 0) = Z w 72 0 := hC.2.2 w hw 72 (by decide) rfl 0 hk
theorem wI_72 (hC : CC H E S Z) (hw : w < 2) (hk : 0 < 1) (eS : S1 = s_sI S 131 (H w 3 0) v) (eZ : Z1 = u3 Z w 72 0 v) : CC H E S1 Z1 := wI 72 (by decide) rfl hC hw hk eS eZ
theorem rI_73 (hC : CC H E S Z) (hw : w < 2) (hk : 0 < 1) : s_I S 101 (H w 0 0) = Z w 73 0 := hC.2.2 w hw 73 (by decide) rfl 0 hk
theorem wI_73 (hC : CC H E S Z) (hw : w < 2) (hk : 0 < 1) (eS : S1 = s_sI S 101 (H w 0 0) v) (eZ : Z1 = u3 Z w 73 0 v) : CC H E S1 Z1 := wI 73 (by decide) rfl hC hw hk eS eZ
theorem rI_74 (hC : CC H E S Z) (hw : w < 2) (hk : 0 < 1) : s_I S 102 (H w 0 0) = Z w 74 0 := hC.2.2 w hw 74 (by decide) rfl 0 hk
theorem wI_74 (hC : CC H E S Z) (hw : w < 2) (hk : 0 < 1) (eS : S1 = s_sI S 102 (H w 0 0) v) (eZ : Z1 = u3 Z w 74 0 v) : CC H E S1 Z1 := wI 74 (by decide) rfl hC hw hk eS eZ
end
