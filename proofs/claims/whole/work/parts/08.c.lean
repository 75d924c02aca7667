section
variable {p : Program} {l : Launch} {e : Env} {s : State} {m : MethodId} {args : Array Value} {below : List Frame} {meth : Method} {c : Code} {gg : sG}
def wA_X7_init_b0 (mc ms kc ks : Nat) (x0 : Nat) (x1 : Int32) (x2 : Int32) (S : sT)  (Q : sT → Prop) : Prop :=
(kc + 1) ≤ mc ∧ (ks + 11) ≤ ms ∧
    ∀ q101 : Nat, s_fr S q101 →
    ∀ S102 : sT, S102 = s_nw S q101 11 11 →
    s_K S102 x0 = 9 ∧
    ∀ S103 : sT, S103 = s_sR S102 258 x0 (some q101) →
    ((kc + 1) + 1) ≤ mc ∧ ((ks + 11) + 12) ≤ ms ∧
    ∀ q104 : Nat, s_fr S103 q104 →
    ∀ S105 : sT, S105 = s_nw S103 q104 11 12 →
    s_K S105 x0 = 9 ∧
    ∀ S106 : sT, S106 = s_sR S105 259 x0 (some q104) →
    (((kc + 1) + 1) + 1) ≤ mc ∧ (((ks + 11) + 12) + 12) ≤ ms ∧
    ∀ q107 : Nat, s_fr S106 q107 →
    ∀ S108 : sT, S108 = s_nw S106 q107 11 12 →
    s_K S108 x0 = 9 ∧
    ∀ S109 : sT, S109 = s_sR S108 260 x0 (some q107) →
    ∀ N110 : Nat, N110 = Int32.toNatClampNeg x1 →
    ¬ x1 < 0 ∧ N110 * 4 ≤ 536870912 ∧
    (((kc + 1) + 1) + 1) + (1 + N110) ≤ mc ∧ (((ks + 11) + 12) + 12) + (N110 + N110 * 10) ≤ ms ∧
    ∀ (q113 : Nat) (rr114 : Nat → Nat), (∀ i j : Nat, i < N110 → j < N110 → rr114 i = rr114 j → i = j) → s_fr S109 q113 → (∀ i : Nat, i < N110 → s_fr S109 (rr114 i) ∧ rr114 i ≠ q113) →
    ∀ S115 : sT, S115 = s_mna S109 q113 rr114 N110 10 →
    s_K S115 x0 = 9 ∧
    ∀ S116 : sT, S116 = s_sR S115 256 x0 (some q113) →
    ∀ N117 : Nat, N117 = Int32.toNatClampNeg x2 →
    ¬ x2 < 0 ∧ N117 * 4 ≤ 536870912 ∧
    ((((kc + 1) + 1) + 1) + 1 + N110) + (1 + N117) ≤ mc ∧ ((((ks + 11) + 12) + 12) + N110 + N110 * 10) + (N117 + N117 * 22) ≤ ms ∧
    ∀ (q120 : Nat) (rr121 : Nat → Nat), (∀ i j : Nat, i < N117 → j < N117 → rr121 i = rr121 j → i = j) → s_fr S116 q120 → (∀ i : Nat, i < N117 → s_fr S116 (rr121 i) ∧ rr121 i ≠ q120) →
    ∀ S122 : sT, S122 = s_mna S116 q120 rr121 N117 22 →
    s_K S122 x0 = 9 ∧
    ∀ S123 : sT, S123 = s_sR S122 257 x0 (some q120) →
    Q S123
def wA_X7_init (mc ms : Nat) (x0 : Nat) (x1 : Int32) (x2 : Int32) (S : sT) (Q : sT → Prop) : Prop := wA_X7_init_b0 mc ms 0 0 x0 x1 x2 S Q
def rA_X7_init (mc ms : Nat) : Room := x_rm 1 20 mc ms
theorem b_X7_init : x_BI yX7_init cX7_init 3 2 := ⟨q_3_11, q_3_10, q_3_7, rfl, by decide +kernel⟩
set_option maxHeartbeats 4000000 in
theorem tA_X7_init_b0 {Q : sT → Prop} (C : x_C p s m args c cX7_init RX7 gg) (hml : c.maxLocals = 3) (hr : meth.sig.returnType = none) (hlocks : meth.locks = false) (hin : meth.name = "<init>") {mc ms kc ks : Nat} (hk : kc ≤ mc ∧ ks ≤ ms) {x0 : Nat} {x1 : Int32} {x2 : Int32}  {S : sT}  (h : wA_X7_init_b0 mc ms kc ks x0 x1 x2 S  Q) : x_X p l e (rA_X7_init mc ms) s m args below meth c gg 3 kc ks (MQ below (va_Qv Q (fun S1 t => s_Rep gg S1 t.heap) (s_A gg)) args s mc ms (s_A gg)) 0 [(0, .ref x0), (1, .int x1), (2, .int x2)] [] S := by
  unfold wA_X7_init_b0 at h
  obtain ⟨hx, hb, -⟩ := id C
  intro H locs ls hR hS hl
  refine lv_aload_n hx hb dX7_init_0 rfl (lv_at hl 0 rfl) ?_
  refine W.objInit hx hb C.2.2.2.1 (C.2.2.1 _ q_3_12) (C.2.2.1 _ q_1_12) (C.2.2.1 _ q_1_13) rfl (by rw [hml]; exact hl.1) rfl dX7_init_1 (Nat.le_of_ble_eq_true rfl) (Nat.le_of_ble_eq_true rfl) ?_
  refine W.eq (g2 := F0 m 4 ls []) rfl ?_
  refine lv_aload_n hx hb dX7_init_4 rfl (lv_at hl 0 rfl) ?_
  refine lv_bipush (v := 11) hx hb dX7_init_5 (by decide) ?_
  obtain ⟨hk1, hk2, h⟩ := h
  refine x_newi (N1 := 11) C hR hS q_3_13 (by decide) (by decide) (by decide) hk1 hk2 dX7_init_7 (fun q101 H hq9 hq hR hS => ?_)
  replace h := h q101 hq
  have hk : (kc + 1) ≤ mc ∧ (ks + 11) ≤ ms := ⟨hk1, hk2⟩
  obtain ⟨S102, eS102⟩ : ∃ z : sT, z = s_nw S q101 11 11 := ⟨_, rfl⟩
  rw [← eS102] at hR
  replace h := h S102 eS102
  have hK_q101 : s_K S102 q101 = 11 := by rw [eS102]; exact s_nw_K
  obtain ⟨hK_x0, h⟩ := h
  refine x_p_258 (v := (some q101)) C hR hK_x0 hS hin rfl q_3_14 dX7_init_9 (fun H locs hR hS => ?_)
  obtain ⟨S103, eS103⟩ : ∃ z : sT, z = s_sR S102 258 x0 (some q101) := ⟨_, rfl⟩
  rw [← eS103] at hR
  replace h := h S103 eS103
  have hK_q101 : s_K S103 q101 = 11 := by rw [eS103]; exact hK_q101
  have hK_x0 : s_K S103 x0 = 9 := by rw [eS103]; exact hK_x0
  refine lv_aload_n hx hb dX7_init_12 rfl (lv_at hl 0 rfl) ?_
  refine lv_bipush (v := 12) hx hb dX7_init_13 (by decide) ?_
  obtain ⟨hk1, hk2, h⟩ := h
  refine x_newi (N1 := 12) C hR hS q_3_13 (by decide) (by decide) (by decide) hk1 hk2 dX7_init_15 (fun q104 H hq9 hq hR hS => ?_)
  replace h := h q104 hq
  have hk : ((kc + 1) + 1) ≤ mc ∧ ((ks + 11) + 12) ≤ ms := ⟨hk1, hk2⟩
  obtain ⟨S105, eS105⟩ : ∃ z : sT, z = s_nw S103 q104 11 12 := ⟨_, rfl⟩
  rw [← eS105] at hR
  replace h := h S105 eS105
  have hK_q104 : s_K S105 q104 = 11 := by rw [eS105]; exact s_nw_K
  obtain ⟨hK_x0, h⟩ := h
  refine x_p_259 (v := (some q104)) C hR hK_x0 hS hin rfl q_3_15 dX7_init_17 (fun H locs hR hS => ?_)
  obtain ⟨S106, eS106⟩ : ∃ z : sT, z = s_sR S105 259 x0 (some q104) := ⟨_, rfl⟩
  rw [← eS106] at hR
  replace h := h S106 eS106
  have hK_q104 : s_K S106 q104 = 11 := by rw [eS106]; exact hK_q104
  have hK_x0 : s_K S106 x0 = 9 := by rw [eS106]; exact hK_x0
  refine lv_aload_n hx hb dX7_init_20 rfl (lv_at hl 0 rfl) ?_
  refine lv_bipush (v := 12) hx hb dX7_init_21 (by decide) ?_
  obtain ⟨hk1, hk2, h⟩ := h
  refine x_newi (N1 := 12) C hR hS q_3_13 (by decide) (by decide) (by decide) hk1 hk2 dX7_init_23 (fun q107 H hq9 hq hR hS => ?_)
  replace h := h q107 hq
  have hk : (((kc + 1) + 1) + 1) ≤ mc ∧ (((ks + 11) + 12) + 12) ≤ ms := ⟨hk1, hk2⟩
  obtain ⟨S108, eS108⟩ : ∃ z : sT, z = s_nw S106 q107 11 12 := ⟨_, rfl⟩
  rw [← eS108] at hR
  replace h := h S108 eS108
  have hK_q107 : s_K S108 q107 = 11 := by rw [eS108]; exact s_nw_K
  obtain ⟨hK_x0, h⟩ := h
  refine x_p_260 (v := (some q107)) C hR hK_x0 hS hin rfl q_3_16 dX7_init_25 (fun H locs hR hS => ?_)
  obtain ⟨S109, eS109⟩ : ∃ z : sT, z = s_sR S108 260 x0 (some q107) := ⟨_, rfl⟩
  rw [← eS109] at hR
  replace h := h S109 eS109
  have hK_q107 : s_K S109 q107 = 11 := by rw [eS109]; exact hK_q107
  have hK_x0 : s_K S109 x0 = 9 := by rw [eS109]; exact hK_x0
  refine lv_aload_n hx hb dX7_init_28 rfl (lv_at hl 0 rfl) ?_
  refine lv_iload_n hx hb dX7_init_29 rfl (lv_at hl 1 rfl) ?_
  refine lv_bipush (v := 10) hx hb dX7_init_30 (by decide) ?_
  obtain ⟨N110, eN110⟩ : ∃ z : Nat, z = Int32.toNatClampNeg x1 := ⟨_, rfl⟩
  obtain ⟨hn111, hn112, hk1, hk2, h⟩ := h N110 eN110
  refine x_mna (N1 := N110) (K1 := 10) C hR hS q_3_17 q_3_13 hn111 (by decide) eN110.symm (by decide) hn112 (by decide) hk1 hk2 dX7_init_32 (fun q113 rr114 H hq7 hq hq8 hR hS => ?_)
  replace h := h q113 rr114 hq7 hq hq8
  have hk : ((((kc + 1) + 1) + 1) + 1 + N110) ≤ mc ∧ ((((ks + 11) + 12) + 12) + N110 + N110 * 10) ≤ ms := ⟨by omega, by rw [Nat.add_assoc]; exact hk2⟩
  obtain ⟨S115, eS115⟩ : ∃ z : sT, z = s_mna S109 q113 rr114 N110 10 := ⟨_, rfl⟩
  rw [← eS115] at hR
  replace h := h S115 eS115
  have hK_q113 : s_K S115 q113 = 13 := by rw [eS115]; exact if_pos rfl
  obtain ⟨hK_x0, h⟩ := h
  refine x_p_256 (v := (some q113)) C hR hK_x0 hS hin rfl q_3_18 dX7_init_36 (fun H locs hR hS => ?_)
  obtain ⟨S116, eS116⟩ : ∃ z : sT, z = s_sR S115 256 x0 (some q113) := ⟨_, rfl⟩
  rw [← eS116] at hR
  replace h := h S116 eS116
  have hK_q113 : s_K S116 q113 = 13 := by rw [eS116]; exact hK_q113
  have hK_x0 : s_K S116 x0 = 9 := by rw [eS116]; exact hK_x0
  refine lv_aload_n hx hb dX7_init_39 rfl (lv_at hl 0 rfl) ?_
  refine lv_iload_n hx hb dX7_init_40 rfl (lv_at hl 2 rfl) ?_
  refine lv_bipush (v := 22) hx hb dX7_init_41 (by decide) ?_
  obtain ⟨N117, eN117⟩ : ∃ z : Nat, z = Int32.toNatClampNeg x2 := ⟨_, rfl⟩
  obtain ⟨hn118, hn119, hk1, hk2, h⟩ := h N117 eN117
  refine x_mna (N1 := N117) (K1 := 22) C hR hS q_3_17 q_3_13 hn118 (by decide) eN117.symm (by decide) hn119 (by decide) hk1 hk2 dX7_init_43 (fun q120 rr121 H hq7 hq hq8 hR hS => ?_)
  replace h := h q120 rr121 hq7 hq hq8
  have hk : (((((kc + 1) + 1) + 1) + 1 + N110) + 1 + N117) ≤ mc ∧ (((((ks + 11) + 12) + 12) + N110 + N110 * 10) + N117 + N117 * 22) ≤ ms := ⟨by omega, by rw [Nat.add_assoc]; exact hk2⟩
  obtain ⟨S122, eS122⟩ : ∃ z : sT, z = s_mna S116 q120 rr121 N117 22 := ⟨_, rfl⟩
  rw [← eS122] at hR
  replace h := h S122 eS122
  have hK_q120 : s_K S122 q120 = 13 := by rw [eS122]; exact if_pos rfl
  obtain ⟨hK_x0, h⟩ := h
  refine x_p_257 (v := (some q120)) C hR hK_x0 hS hin rfl q_3_19 dX7_init_47 (fun H locs hR hS => ?_)
  obtain ⟨S123, eS123⟩ : ∃ z : sT, z = s_sR S122 257 x0 (some q120) := ⟨_, rfl⟩
  rw [← eS123] at hR
  replace h := h S123 eS123
  have hK_q120 : s_K S123 q120 = 13 := by rw [eS123]; exact hK_q120
  have hK_x0 : s_K S123 x0 = 9 := by rw [eS123]; exact hK_x0
  refine W.widen (k := mc) (n := ms) hk.1 hk.2 ?_
  exact W.vret hx hb hr (fun t ht hW => ⟨⟨S123, rfl, h, x_rt ht hR⟩, hS.F ht⟩) hS.2.2 dX7_init_50
theorem mA_X7_init (l : Launch) (gg : sG) (mc ms : Nat) (x0 : Nat) (x1 : Int32) (x2 : Int32) (S : sT) {Q : sT → Prop} (h : wA_X7_init mc ms x0 x1 x2 S Q) : x_Mv l gg yX7_init (x_ws yX7_init cX7_init 3 none) (rA_X7_init mc ms) [.ref x0, .int x1, .int x2] S Q mc ms := by
  refine x_ofW (cc := cX7_init) (own := RX7) (by decide +kernel) rfl (Nat.le_of_ble_eq_true rfl) ?_
  intro p e s m args below meth c C hml hr hlocks hin ht H locs ls hR hS hl
  exact tA_X7_init_b0 C hml hr hlocks (hin rfl) ⟨Nat.zero_le _, Nat.zero_le _⟩ h H locs ls hR hS (lv_sub (l' := [(0, .ref x0), (1, .int x1), (2, .int x2)]) hl [0, 1, 2] rfl)
def wA_X7_with_b65 (mc ms : Nat)  (Q : Nat → sT → Prop) : Nat → Nat → Nat → Nat → Nat → Int32 → sT → Prop
  | 0 => fun _ _ _ _ _ _ => False
  | n + 1 => fun kc ks x0 x3 x4 S =>
s_K S x0 = 9 ∧
    ∃ a101 : Nat, s_R S 257 x0 = some a101 ∧
    s_K S a101 = 13 ∧
    ∀ x102 : Int32, x102 = nI (s_N S a101) →
    ((x102 ≤ x4 → ∃ a104 : Nat, s_R S 258 x0 = some a104 ∧
    s_K S x3 = 9 ∧
    ∃ a105 : Nat, s_R S 258 x3 = some a105 ∧
    s_K S a104 = 11 ∧
    s_K S a105 = 11 ∧
    ¬ (0 : Int32) < 0 ∧ ¬ (0 : Int32) < 0 ∧ ¬ (11 : Int32) < 0 ∧ Int32.toNatClampNeg (0 : Int32) + Int32.toNatClampNeg (11 : Int32) ≤ s_N S a104 ∧ Int32.toNatClampNeg (0 : Int32) + Int32.toNatClampNeg (11 : Int32) ≤ s_N S a105 ∧
    ∀ S111 : sT, S111 = s_cB S a104 a105 (Int32.toNatClampNeg (0 : Int32)) (Int32.toNatClampNeg (0 : Int32)) (Int32.toNatClampNeg (11 : Int32)) →
    Q x3 S111) ∧
    (¬ x102 ≤ x4 → ∃ a112 : Nat, s_R S 257 x0 = some a112 ∧
    s_K S a112 = 13 ∧
    vp_in x4 (s_N S a112) ∧
    ∃ a114 : Nat, s_P S a112 (Int32.toNatClampNeg x4) = some a114 ∧
    s_K S x3 = 9 ∧
    ∃ a115 : Nat, s_R S 257 x3 = some a115 ∧
    s_K S a115 = 13 ∧
    vp_in x4 (s_N S a115) ∧
    ∃ a117 : Nat, s_P S a115 (Int32.toNatClampNeg x4) = some a117 ∧
    s_K S a114 = 11 ∧
    s_K S a117 = 11 ∧
    ¬ (0 : Int32) < 0 ∧ ¬ (0 : Int32) < 0 ∧ ¬ (22 : Int32) < 0 ∧ Int32.toNatClampNeg (0 : Int32) + Int32.toNatClampNeg (22 : Int32) ≤ s_N S a114 ∧ Int32.toNatClampNeg (0 : Int32) + Int32.toNatClampNeg (22 : Int32) ≤ s_N S a117 ∧
    ∀ S123 : sT, S123 = s_cB S a114 a117 (Int32.toNatClampNeg (0 : Int32)) (Int32.toNatClampNeg (0 : Int32)) (Int32.toNatClampNeg (22 : Int32)) →
    ∀ x124 : Int32, x124 = x4 + 1 →
    wA_X7_with_b65 mc ms  Q n kc ks x0 x3 x124 S123))
def wA_X7_with_b25 (mc ms : Nat)  (Q : Nat → sT → Prop) : Nat → Nat → Nat → Nat → Nat → Int32 → sT → Prop
  | 0 => fun _ _ _ _ _ _ => False
  | n + 1 => fun kc ks x0 x3 x4 S =>
s_K S x0 = 9 ∧
    ∃ a101 : Nat, s_R S 256 x0 = some a101 ∧
    s_K S a101 = 13 ∧
    ∀ x102 : Int32, x102 = nI (s_N S a101) →
    ((x102 ≤ x4 → ∃ n9 : Nat, wA_X7_with_b65 mc ms  Q n9 kc ks x0 x3 (0 : Int32) S) ∧
    (¬ x102 ≤ x4 → ∃ a104 : Nat, s_R S 256 x0 = some a104 ∧
    s_K S a104 = 13 ∧
    vp_in x4 (s_N S a104) ∧
    ∃ a106 : Nat, s_P S a104 (Int32.toNatClampNeg x4) = some a106 ∧
    s_K S x3 = 9 ∧
    ∃ a107 : Nat, s_R S 256 x3 = some a107 ∧
    s_K S a107 = 13 ∧
    vp_in x4 (s_N S a107) ∧
    ∃ a109 : Nat, s_P S a107 (Int32.toNatClampNeg x4) = some a109 ∧
    s_K S a106 = 11 ∧
    s_K S a109 = 11 ∧
    ¬ (0 : Int32) < 0 ∧ ¬ (0 : Int32) < 0 ∧ ¬ (10 : Int32) < 0 ∧ Int32.toNatClampNeg (0 : Int32) + Int32.toNatClampNeg (10 : Int32) ≤ s_N S a106 ∧ Int32.toNatClampNeg (0 : Int32) + Int32.toNatClampNeg (10 : Int32) ≤ s_N S a109 ∧
    ∀ S115 : sT, S115 = s_cB S a106 a109 (Int32.toNatClampNeg (0 : Int32)) (Int32.toNatClampNeg (0 : Int32)) (Int32.toNatClampNeg (10 : Int32)) →
    ∀ x116 : Int32, x116 = x4 + 1 →
    wA_X7_with_b25 mc ms  Q n kc ks x0 x3 x116 S115))
def wA_X7_with_b0 (mc ms kc ks : Nat) (x0 : Nat) (x1 : Int32) (x2 : Int32) (S : sT)  (Q : Nat → sT → Prop) : Prop :=
(kc + 1) ≤ mc ∧ (ks + 5) ≤ ms ∧
    ∀ q101 : Nat, s_fr S q101 →
    ∀ S102 : sT, S102 = s_nw S q101 9 0 →
    s_K S102 x0 = 9 ∧
    ∃ a103 : Nat, s_R S102 256 x0 = some a103 ∧
    s_K S102 a103 = 13 ∧
    ∀ x104 : Int32, x104 = nI (s_N S102 a103) →
    ∀ x105 : Int32, x105 = x104 + x1 →
    ∃ a106 : Nat, s_R S102 257 x0 = some a106 ∧
    s_K S102 a106 = 13 ∧
    ∀ x107 : Int32, x107 = nI (s_N S102 a106) →
    ∀ x108 : Int32, x108 = x107 + x2 →
    ∃ c109 d110 : Nat, (kc + 1) + c109 ≤ mc ∧ (ks + 5) + d110 ≤ ms ∧
    wA_X7_init c109 d110 q101 x105 x108 S102 (fun S111 =>
    ∃ n9 : Nat, wA_X7_with_b25 mc ms  Q n9 ((kc + 1) + c109) ((ks + 5) + d110) x0 q101 (0 : Int32) S111)
def wA_X7_with (mc ms : Nat) (x0 : Nat) (x1 : Int32) (x2 : Int32) (S : sT) (Q : Nat → sT → Prop) : Prop := wA_X7_with_b0 mc ms 0 0 x0 x1 x2 S Q
def rA_X7_with (mc ms : Nat) : Room := x_rm 2 60 mc ms
theorem b_X7_with : x_BV yX7_with cX7_with 5 (some (.object "SubakhallModel$World")) 2 := ⟨q_8_12, q_8_10, q_8_11, q_3_7, by decide +kernel⟩
set_option maxHeartbeats 4000000 in
theorem tA_X7_with_b65 {Q : Nat → sT → Prop} (C : x_C p s m args c cX7_with RX7 gg) (hml : c.maxLocals = 5) (hr : meth.sig.returnType = (some (.object "SubakhallModel$World"))) (hlocks : meth.locks = false) {mc ms : Nat}   : ∀ (n : Nat) (kc ks : Nat) (x0 : Nat) (x3 : Nat) (x4 : Int32) (S : sT), kc ≤ mc ∧ ks ≤ ms → wA_X7_with_b65 mc ms  Q n kc ks x0 x3 x4 S → x_X p l e (rA_X7_with mc ms) s m args below meth c gg 5 kc ks (MQ below (va_Qq (fun r S1 => ∃ b : Nat, r = some b ∧ Q b S1) (fun S1 t => s_Rep gg S1 t.heap) (s_A gg)) args s mc ms (s_A gg)) 65 [(0, .ref x0), (3, .ref x3), (4, .int x4)] [] S := by
  obtain ⟨hx, hb, -⟩ := id C
  intro n
  induction n with
  | zero => intro kc ks x0 x3 x4 S hk h; exact absurd h id
  | succ n ih =>
    intro kc ks x0 x3 x4 S hk h H locs ls hR hS hl
    unfold wA_X7_with_b65 at h
    refine lv_iload hx hb dX7_with_65 (lv_at hl 2 rfl) ?_
    refine lv_aload_n hx hb dX7_with_67 rfl (lv_at hl 0 rfl) ?_
    obtain ⟨hK_x0, h⟩ := h
    refine x_g_257 C hR hK_x0 q_3_19 dX7_with_68 ?_
    obtain ⟨a101, ea101, h⟩ := h
    refine x_some ea101 ?_
    obtain ⟨hK_a101, h⟩ := h
    refine x_alen13 C hR hK_a101 dX7_with_71 ?_
    refine lv_topi (fun x102 ex102 => ?_)
    replace h := h x102 ex102
    refine lv_icmp_ge (tgt := 102) hx hb dX7_with_72 (by decide) (fun hc103 => ?_) (fun hc103 => ?_)
    · replace h := h.1 hc103
      refine lv_aload_n hx hb dX7_with_102 rfl (lv_at hl 0 rfl) ?_
      refine x_g_258 C hR hK_x0 q_3_14 dX7_with_103 ?_
      obtain ⟨a104, ea104, h⟩ := h
      refine x_some ea104 ?_
      refine lv_iconst (v := 0) hx hb dX7_with_106 (by decide) ?_
      refine lv_aload_n hx hb dX7_with_107 rfl (lv_at hl 1 rfl) ?_
      obtain ⟨hK_x3, h⟩ := h
      refine x_g_258 C hR hK_x3 q_3_14 dX7_with_108 ?_
      obtain ⟨a105, ea105, h⟩ := h
      refine x_some ea105 ?_
      refine lv_iconst (v := 0) hx hb dX7_with_111 (by decide) ?_
      refine lv_bipush (v := 11) hx hb dX7_with_112 (by decide) ?_
      obtain ⟨hK_a104, h⟩ := h
      obtain ⟨hK_a105, h⟩ := h
      obtain ⟨hy106, hy107, hy108, hy109, hy110, h⟩ := h
      refine x_copyi C (by rw [hml]; exact hl.1.symm) hR hK_a104 hK_a105 hS q_8_14 q_7_18 q_7_19 q_7_20 hy106 hy107 hy108 hy109 hy110 (Nat.le_of_ble_eq_true rfl) (Nat.le_of_ble_eq_true rfl) dX7_with_114 (fun H locs hR hS => ?_)
      obtain ⟨S111, eS111⟩ : ∃ z : sT, z = s_cB S a104 a105 (Int32.toNatClampNeg (0 : Int32)) (Int32.toNatClampNeg (0 : Int32)) (Int32.toNatClampNeg (11 : Int32)) := ⟨_, rfl⟩
      rw [← eS111] at hR
      replace h := h S111 eS111
      have hK_x0 : s_K S111 x0 = 9 := by rw [eS111]; exact hK_x0
      have hK_a101 : s_K S111 a101 = 13 := by rw [eS111]; exact hK_a101
      have hK_x3 : s_K S111 x3 = 9 := by rw [eS111]; exact hK_x3
      have hK_a104 : s_K S111 a104 = 11 := by rw [eS111]; exact hK_a104
      have hK_a105 : s_K S111 a105 = 11 := by rw [eS111]; exact hK_a105
      refine lv_aload_n hx hb dX7_with_117 rfl (lv_at hl 1 rfl) ?_
      refine W.widen (k := mc) (n := ms) hk.1 hk.2 ?_
      exact W.aret (v := .ref x3) hx hb hr (Or.inl ⟨_, rfl⟩) (Or.inr ⟨_, rfl⟩) (fun t ht hW => ⟨⟨some x3, S111, rfl, ⟨_, rfl, h⟩, x_rt ht hR⟩, hS.F ht⟩) hS.2.2 dX7_with_118
    · replace h := h.2 hc103
      refine lv_aload_n hx hb dX7_with_75 rfl (lv_at hl 0 rfl) ?_
      refine x_g_257 C hR hK_x0 q_3_19 dX7_with_76 ?_
      obtain ⟨a112, ea112, h⟩ := h
      refine x_some ea112 ?_
      refine lv_iload hx hb dX7_with_79 (lv_at hl 2 rfl) ?_
      obtain ⟨hK_a112, h⟩ := h
      obtain ⟨hi113, a114, ea114, h⟩ := h
      refine x_aald13 C hR hK_a112 hi113 dX7_with_81 ?_
      refine x_some ea114 ?_
      refine lv_iconst (v := 0) hx hb dX7_with_82 (by decide) ?_
      refine lv_aload_n hx hb dX7_with_83 rfl (lv_at hl 1 rfl) ?_
      obtain ⟨hK_x3, h⟩ := h
      refine x_g_257 C hR hK_x3 q_3_19 dX7_with_84 ?_
      obtain ⟨a115, ea115, h⟩ := h
      refine x_some ea115 ?_
      refine lv_iload hx hb dX7_with_87 (lv_at hl 2 rfl) ?_
      obtain ⟨hK_a115, h⟩ := h
      obtain ⟨hi116, a117, ea117, h⟩ := h
      refine x_aald13 C hR hK_a115 hi116 dX7_with_89 ?_
      refine x_some ea117 ?_
      refine lv_iconst (v := 0) hx hb dX7_with_90 (by decide) ?_
      refine lv_bipush (v := 22) hx hb dX7_with_91 (by decide) ?_
      obtain ⟨hK_a114, h⟩ := h
      obtain ⟨hK_a117, h⟩ := h
      obtain ⟨hy118, hy119, hy120, hy121, hy122, h⟩ := h
      refine x_copyi C (by rw [hml]; exact hl.1.symm) hR hK_a114 hK_a117 hS q_8_14 q_7_18 q_7_19 q_7_20 hy118 hy119 hy120 hy121 hy122 (Nat.le_of_ble_eq_true rfl) (Nat.le_of_ble_eq_true rfl) dX7_with_93 (fun H locs hR hS => ?_)
      obtain ⟨S123, eS123⟩ : ∃ z : sT, z = s_cB S a114 a117 (Int32.toNatClampNeg (0 : Int32)) (Int32.toNatClampNeg (0 : Int32)) (Int32.toNatClampNeg (22 : Int32)) := ⟨_, rfl⟩
      rw [← eS123] at hR
      replace h := h S123 eS123
      have hK_x0 : s_K S123 x0 = 9 := by rw [eS123]; exact hK_x0
      have hK_a101 : s_K S123 a101 = 13 := by rw [eS123]; exact hK_a101
      have hK_a112 : s_K S123 a112 = 13 := by rw [eS123]; exact hK_a112
      have hK_x3 : s_K S123 x3 = 9 := by rw [eS123]; exact hK_x3
      have hK_a115 : s_K S123 a115 = 13 := by rw [eS123]; exact hK_a115
      have hK_a114 : s_K S123 a114 = 11 := by rw [eS123]; exact hK_a114
      have hK_a117 : s_K S123 a117 = 11 := by rw [eS123]; exact hK_a117
      obtain ⟨x124, ex124⟩ : ∃ z : Int32, z = x4 + 1 := ⟨_, rfl⟩
      replace h := h x124 ex124
      refine lv_iinc (v := x124) (lv' := [(4, .int x124), (0, .ref x0), (3, .ref x3)]) hx hb dX7_with_96 hl (k := 2) rfl (by rw [ex124]; rfl) (by decide) rfl (fun ls hl => ?_)
      refine lv_goto (tgt := 65) hx hb dX7_with_99 (by decide) ?_
      exact ih kc ks x0 x3 x124 S123 hk h H locs ls hR hS (lv_sub (l' := [(0, .ref x0), (3, .ref x3), (4, .int x124)]) hl [1, 2, 0] rfl)
set_option maxHeartbeats 4000000 in
theorem tA_X7_with_b25 {Q : Nat → sT → Prop} (C : x_C p s m args c cX7_with RX7 gg) (hml : c.maxLocals = 5) (hr : meth.sig.returnType = (some (.object "SubakhallModel$World"))) (hlocks : meth.locks = false) {mc ms : Nat}   : ∀ (n : Nat) (kc ks : Nat) (x0 : Nat) (x3 : Nat) (x4 : Int32) (S : sT), kc ≤ mc ∧ ks ≤ ms → wA_X7_with_b25 mc ms  Q n kc ks x0 x3 x4 S → x_X p l e (rA_X7_with mc ms) s m args below meth c gg 5 kc ks (MQ below (va_Qq (fun r S1 => ∃ b : Nat, r = some b ∧ Q b S1) (fun S1 t => s_Rep gg S1 t.heap) (s_A gg)) args s mc ms (s_A gg)) 25 [(0, .ref x0), (3, .ref x3), (4, .int x4)] [] S := by
  obtain ⟨hx, hb, -⟩ := id C
  intro n
  induction n with
  | zero => intro kc ks x0 x3 x4 S hk h; exact absurd h id
  | succ n ih =>
    intro kc ks x0 x3 x4 S hk h H locs ls hR hS hl
    unfold wA_X7_with_b25 at h
    refine lv_iload hx hb dX7_with_25 (lv_at hl 2 rfl) ?_
    refine lv_aload_n hx hb dX7_with_27 rfl (lv_at hl 0 rfl) ?_
    obtain ⟨hK_x0, h⟩ := h
    refine x_g_256 C hR hK_x0 q_3_18 dX7_with_28 ?_
    obtain ⟨a101, ea101, h⟩ := h
    refine x_some ea101 ?_
    obtain ⟨hK_a101, h⟩ := h
    refine x_alen13 C hR hK_a101 dX7_with_31 ?_
    refine lv_topi (fun x102 ex102 => ?_)
    replace h := h x102 ex102
    refine lv_icmp_ge (tgt := 62) hx hb dX7_with_32 (by decide) (fun hc103 => ?_) (fun hc103 => ?_)
    · replace h := h.1 hc103
      refine lv_iconst (v := 0) hx hb dX7_with_62 (by decide) ?_
      refine lv_istore (lv' := [(4, .int (0 : Int32)), (0, .ref x0), (3, .ref x3)]) hx hb dX7_with_63 hl (by decide) rfl (fun ls hl => ?_)
      obtain ⟨n9, h⟩ := h
      exact tA_X7_with_b65 C hml hr hlocks  n9 kc ks x0 x3 (0 : Int32) S hk h H locs ls hR hS (lv_sub (l' := [(0, .ref x0), (3, .ref x3), (4, .int (0 : Int32))]) hl [1, 2, 0] rfl)
    · replace h := h.2 hc103
      refine lv_aload_n hx hb dX7_with_35 rfl (lv_at hl 0 rfl) ?_
      refine x_g_256 C hR hK_x0 q_3_18 dX7_with_36 ?_
      obtain ⟨a104, ea104, h⟩ := h
      refine x_some ea104 ?_
      refine lv_iload hx hb dX7_with_39 (lv_at hl 2 rfl) ?_
      obtain ⟨hK_a104, h⟩ := h
      obtain ⟨hi105, a106, ea106, h⟩ := h
      refine x_aald13 C hR hK_a104 hi105 dX7_with_41 ?_
      refine x_some ea106 ?_
      refine lv_iconst (v := 0) hx hb dX7_with_42 (by decide) ?_
      refine lv_aload_n hx hb dX7_with_43 rfl (lv_at hl 1 rfl) ?_
      obtain ⟨hK_x3, h⟩ := h
      refine x_g_256 C hR hK_x3 q_3_18 dX7_with_44 ?_
      obtain ⟨a107, ea107, h⟩ := h
      refine x_some ea107 ?_
      refine lv_iload hx hb dX7_with_47 (lv_at hl 2 rfl) ?_
      obtain ⟨hK_a107, h⟩ := h
      obtain ⟨hi108, a109, ea109, h⟩ := h
      refine x_aald13 C hR hK_a107 hi108 dX7_with_49 ?_
      refine x_some ea109 ?_
      refine lv_iconst (v := 0) hx hb dX7_with_50 (by decide) ?_
      refine lv_bipush (v := 10) hx hb dX7_with_51 (by decide) ?_
      obtain ⟨hK_a106, h⟩ := h
      obtain ⟨hK_a109, h⟩ := h
      obtain ⟨hy110, hy111, hy112, hy113, hy114, h⟩ := h
      refine x_copyi C (by rw [hml]; exact hl.1.symm) hR hK_a106 hK_a109 hS q_8_14 q_7_18 q_7_19 q_7_20 hy110 hy111 hy112 hy113 hy114 (Nat.le_of_ble_eq_true rfl) (Nat.le_of_ble_eq_true rfl) dX7_with_53 (fun H locs hR hS => ?_)
      obtain ⟨S115, eS115⟩ : ∃ z : sT, z = s_cB S a106 a109 (Int32.toNatClampNeg (0 : Int32)) (Int32.toNatClampNeg (0 : Int32)) (Int32.toNatClampNeg (10 : Int32)) := ⟨_, rfl⟩
      rw [← eS115] at hR
      replace h := h S115 eS115
      have hK_x0 : s_K S115 x0 = 9 := by rw [eS115]; exact hK_x0
      have hK_a101 : s_K S115 a101 = 13 := by rw [eS115]; exact hK_a101
      have hK_a104 : s_K S115 a104 = 13 := by rw [eS115]; exact hK_a104
      have hK_x3 : s_K S115 x3 = 9 := by rw [eS115]; exact hK_x3
      have hK_a107 : s_K S115 a107 = 13 := by rw [eS115]; exact hK_a107
      have hK_a106 : s_K S115 a106 = 11 := by rw [eS115]; exact hK_a106
      have hK_a109 : s_K S115 a109 = 11 := by rw [eS115]; exact hK_a109
      obtain ⟨x116, ex116⟩ : ∃ z : Int32, z = x4 + 1 := ⟨_, rfl⟩
      replace h := h x116 ex116
      refine lv_iinc (v := x116) (lv' := [(4, .int x116), (0, .ref x0), (3, .ref x3)]) hx hb dX7_with_56 hl (k := 2) rfl (by rw [ex116]; rfl) (by decide) rfl (fun ls hl => ?_)
      refine lv_goto (tgt := 25) hx hb dX7_with_59 (by decide) ?_
      exact ih kc ks x0 x3 x116 S115 hk h H locs ls hR hS (lv_sub (l' := [(0, .ref x0), (3, .ref x3), (4, .int x116)]) hl [1, 2, 0] rfl)
set_option maxHeartbeats 4000000 in
theorem tA_X7_with_b0 {Q : Nat → sT → Prop} (C : x_C p s m args c cX7_with RX7 gg) (hml : c.maxLocals = 5) (hr : meth.sig.returnType = (some (.object "SubakhallModel$World"))) (hlocks : meth.locks = false) {mc ms kc ks : Nat} (hk : kc ≤ mc ∧ ks ≤ ms) {x0 : Nat} {x1 : Int32} {x2 : Int32}  {S : sT}  (h : wA_X7_with_b0 mc ms kc ks x0 x1 x2 S  Q) : x_X p l e (rA_X7_with mc ms) s m args below meth c gg 5 kc ks (MQ below (va_Qq (fun r S1 => ∃ b : Nat, r = some b ∧ Q b S1) (fun S1 t => s_Rep gg S1 t.heap) (s_A gg)) args s mc ms (s_A gg)) 0 [(0, .ref x0), (1, .int x1), (2, .int x2)] [] S := by
  unfold wA_X7_with_b0 at h
  obtain ⟨hx, hb, -⟩ := id C
  intro H locs ls hR hS hl
  obtain ⟨hk1, hk2, h⟩ := h
  refine x_nw_8 (a := 0) C hR hS q_8_13 q_3_6 q_3_7 hk1 hk2 dX7_with_0 (fun q101 H hq9 hq hR hS => ?_)
  replace h := h q101 hq
  have hk : (kc + 1) ≤ mc ∧ (ks + 5) ≤ ms := ⟨hk1, hk2⟩
  obtain ⟨S102, eS102⟩ : ∃ z : sT, z = s_nw S q101 9 0 := ⟨_, rfl⟩
  rw [← eS102] at hR
  replace h := h S102 eS102
  have hK_q101 : s_K S102 q101 = 9 := by rw [eS102]; exact s_nw_K
  refine lv_dup hx hb dX7_with_3 rfl ?_
  refine lv_aload_n hx hb dX7_with_4 rfl (lv_at hl 0 rfl) ?_
  obtain ⟨hK_x0, h⟩ := h
  refine x_g_256 C hR hK_x0 q_3_18 dX7_with_5 ?_
  obtain ⟨a103, ea103, h⟩ := h
  refine x_some ea103 ?_
  obtain ⟨hK_a103, h⟩ := h
  refine x_alen13 C hR hK_a103 dX7_with_8 ?_
  refine lv_topi (fun x104 ex104 => ?_)
  replace h := h x104 ex104
  refine lv_iload_n hx hb dX7_with_9 rfl (lv_at hl 1 rfl) ?_
  refine lv_iadd hx hb dX7_with_10 ?_
  refine lv_topi (fun x105 ex105 => ?_)
  replace h := h x105 ex105
  refine lv_aload_n hx hb dX7_with_11 rfl (lv_at hl 0 rfl) ?_
  refine x_g_257 C hR hK_x0 q_3_19 dX7_with_12 ?_
  obtain ⟨a106, ea106, h⟩ := h
  refine x_some ea106 ?_
  obtain ⟨hK_a106, h⟩ := h
  refine x_alen13 C hR hK_a106 dX7_with_15 ?_
  refine lv_topi (fun x107 ex107 => ?_)
  replace h := h x107 ex107
  refine lv_iload_n hx hb dX7_with_16 rfl (lv_at hl 2 rfl) ?_
  refine lv_iadd hx hb dX7_with_17 ?_
  refine lv_topi (fun x108 ex108 => ?_)
  replace h := h x108 ex108
  obtain ⟨c109, d110, hk1, hk2, h⟩ := h
  refine x_kv (x_runI (As := [.int x105, .int x108]) (rest := [.ref q101]) C hml hR hS (mA_X7_init l gg c109 d110 q101 x105 x108 S102 h) b_X7_init q_8_15 rfl rfl ⟨Nat.le_of_ble_eq_true rfl, Nat.le_of_ble_eq_true rfl⟩ rfl hl.1 (Nat.le_of_ble_eq_true rfl) dX7_with_18 ⟨hk1, hk2⟩) hS (fun S111 H locs hn hR hS => ?_)
  replace h := hn
  clear hn
  have hk : ((kc + 1) + c109) ≤ mc ∧ ((ks + 5) + d110) ≤ ms := ⟨hk1, hk2⟩
  refine lv_astore_n (lv' := [(3, .ref q101), (0, .ref x0), (1, .int x1), (2, .int x2)]) hx hb dX7_with_21 rfl hl (by decide) rfl (fun ls hl => ?_)
  refine lv_iconst (v := 0) hx hb dX7_with_22 (by decide) ?_
  refine lv_istore (lv' := [(4, .int (0 : Int32)), (3, .ref q101), (0, .ref x0), (1, .int x1), (2, .int x2)]) hx hb dX7_with_23 hl (by decide) rfl (fun ls hl => ?_)
  obtain ⟨n9, h⟩ := h
  exact tA_X7_with_b25 C hml hr hlocks  n9 ((kc + 1) + c109) ((ks + 5) + d110) x0 q101 (0 : Int32) S111 hk h H locs ls hR hS (lv_sub (l' := [(0, .ref x0), (3, .ref q101), (4, .int (0 : Int32))]) hl [2, 1, 0] rfl)
theorem mA_X7_with (l : Launch) (gg : sG) (mc ms : Nat) (x0 : Nat) (x1 : Int32) (x2 : Int32) (S : sT) {Q : Nat → sT → Prop} (h : wA_X7_with mc ms x0 x1 x2 S Q) : x_Mq l gg yX7_with (x_ws yX7_with cX7_with 5 (some (.object "SubakhallModel$World"))) (rA_X7_with mc ms) [.ref x0, .int x1, .int x2] S (fun r S1 => ∃ b : Nat, r = some b ∧ Q b S1) mc ms := by
  refine x_ofW (cc := cX7_with) (own := RX7) (by decide +kernel) rfl (Nat.le_of_ble_eq_true rfl) ?_
  intro p e s m args below meth c C hml hr hlocks hin ht H locs ls hR hS hl
  exact tA_X7_with_b0 C hml hr hlocks ⟨Nat.zero_le _, Nat.zero_le _⟩ h H locs ls hR hS (lv_sub (l' := [(0, .ref x0), (1, .int x1), (2, .int x2)]) hl [0, 1, 2] rfl)
def wA_X8_init_b0 (mc ms kc ks : Nat) (x0 : Nat) (S : sT)  (Q : sT → Prop) : Prop :=
(kc + 1) ≤ mc ∧ (ks + 5) ≤ ms ∧
    ∀ q101 : Nat, s_fr S q101 →
    ∀ S102 : sT, S102 = s_nw S q101 9 0 →
    ∃ c103 d104 : Nat, (kc + 1) + c103 ≤ mc ∧ (ks + 5) + d104 ≤ ms ∧
    wA_X7_init c103 d104 q101 (0 : Int32) (0 : Int32) S102 (fun S105 =>
    s_K S105 x0 = 10 ∧
    ∀ S106 : sT, S106 = s_sR S105 289 x0 (some q101) →
    Q S106)
def wA_X8_init (mc ms : Nat) (x0 : Nat) (S : sT) (Q : sT → Prop) : Prop := wA_X8_init_b0 mc ms 0 0 x0 S Q
def rA_X8_init (mc ms : Nat) : Room := x_rm 2 42 mc ms
theorem b_X8_init : x_BI yX8_init cX8_init 1 0 := ⟨q_3_3, q_3_2, q_1_5, rfl, by decide +kernel⟩
set_option maxHeartbeats 4000000 in
theorem tA_X8_init_b0 {Q : sT → Prop} (C : x_C p s m args c cX8_init RX8 gg) (hml : c.maxLocals = 1) (hr : meth.sig.returnType = none) (hlocks : meth.locks = false) (hin : meth.name = "<init>") {mc ms kc ks : Nat} (hk : kc ≤ mc ∧ ks ≤ ms) {x0 : Nat}  {S : sT}  (h : wA_X8_init_b0 mc ms kc ks x0 S  Q) : x_X p l e (rA_X8_init mc ms) s m args below meth c gg 1 kc ks (MQ below (va_Qv Q (fun S1 t => s_Rep gg S1 t.heap) (s_A gg)) args s mc ms (s_A gg)) 0 [(0, .ref x0)] [] S := by
  unfold wA_X8_init_b0 at h
  obtain ⟨hx, hb, -⟩ := id C
  intro H locs ls hR hS hl
  refine lv_aload_n hx hb dX8_init_0 rfl (lv_at hl 0 rfl) ?_
  refine W.objInit hx hb C.2.2.2.1 (C.2.2.1 _ q_3_4) (C.2.2.1 _ q_1_12) (C.2.2.1 _ q_1_13) rfl (by rw [hml]; exact hl.1) rfl dX8_init_1 (Nat.le_of_ble_eq_true rfl) (Nat.le_of_ble_eq_true rfl) ?_
  refine W.eq (g2 := F0 m 4 ls []) rfl ?_
  refine lv_aload_n hx hb dX8_init_4 rfl (lv_at hl 0 rfl) ?_
  obtain ⟨hk1, hk2, h⟩ := h
  refine x_nw_8 (a := 0) C hR hS q_3_5 q_3_6 q_3_7 hk1 hk2 dX8_init_5 (fun q101 H hq9 hq hR hS => ?_)
  replace h := h q101 hq
  have hk : (kc + 1) ≤ mc ∧ (ks + 5) ≤ ms := ⟨hk1, hk2⟩
  obtain ⟨S102, eS102⟩ : ∃ z : sT, z = s_nw S q101 9 0 := ⟨_, rfl⟩
  rw [← eS102] at hR
  replace h := h S102 eS102
  have hK_q101 : s_K S102 q101 = 9 := by rw [eS102]; exact s_nw_K
  refine lv_dup hx hb dX8_init_8 rfl ?_
  refine lv_iconst (v := 0) hx hb dX8_init_9 (by decide) ?_
  refine lv_iconst (v := 0) hx hb dX8_init_10 (by decide) ?_
  obtain ⟨c103, d104, hk1, hk2, h⟩ := h
  refine x_kv (x_runI (As := [.int (0 : Int32), .int (0 : Int32)]) (rest := [.ref q101, .ref x0]) C hml hR hS (mA_X7_init l gg c103 d104 q101 (0 : Int32) (0 : Int32) S102 h) b_X7_init q_3_9 rfl rfl ⟨Nat.le_of_ble_eq_true rfl, Nat.le_of_ble_eq_true rfl⟩ rfl hl.1 (Nat.le_of_ble_eq_true rfl) dX8_init_11 ⟨hk1, hk2⟩) hS (fun S105 H locs hn hR hS => ?_)
  replace h := hn
  clear hn
  have hk : ((kc + 1) + c103) ≤ mc ∧ ((ks + 5) + d104) ≤ ms := ⟨hk1, hk2⟩
  obtain ⟨hK_x0, h⟩ := h
  refine x_p_289 (v := (some q101)) C hR hK_x0 hS q_3_8 dX8_init_14 (fun H locs hR hS => ?_)
  obtain ⟨S106, eS106⟩ : ∃ z : sT, z = s_sR S105 289 x0 (some q101) := ⟨_, rfl⟩
  rw [← eS106] at hR
  replace h := h S106 eS106
  have hK_x0 : s_K S106 x0 = 10 := by rw [eS106]; exact hK_x0
  refine W.widen (k := mc) (n := ms) hk.1 hk.2 ?_
  exact W.vret hx hb hr (fun t ht hW => ⟨⟨S106, rfl, h, x_rt ht hR⟩, hS.F ht⟩) hS.2.2 dX8_init_17
theorem mA_X8_init (l : Launch) (gg : sG) (mc ms : Nat) (x0 : Nat) (S : sT) {Q : sT → Prop} (h : wA_X8_init mc ms x0 S Q) : x_Mv l gg yX8_init (x_ws yX8_init cX8_init 1 none) (rA_X8_init mc ms) [.ref x0] S Q mc ms := by
  refine x_ofW (cc := cX8_init) (own := RX8) (by decide +kernel) rfl (Nat.le_of_ble_eq_true rfl) ?_
  intro p e s m args below meth c C hml hr hlocks hin ht H locs ls hR hS hl
  exact tA_X8_init_b0 C hml hr hlocks (hin rfl) ⟨Nat.zero_le _, Nat.zero_le _⟩ h H locs ls hR hS (lv_sub (l' := [(0, .ref x0)]) hl [0] rfl)
def wA_X8_society_b48 (mc ms kc ks : Nat) (x0 : Nat) (S : sT)  (Q : Int32 → sT → Prop) : Prop :=
s_K S x0 = 10 ∧
    w_X8_refuse x0 (1 : Int32) S (fun x102 S101 =>
    Q x102 S101)
def wA_X8_society_b0 (mc ms kc ks : Nat) (x0 : Nat) (x1 : Int32) (x2 : Int32) (x3 : Int32) (x4 : Int32) (S : sT)  (Q : Int32 → sT → Prop) : Prop :=
s_K S x0 = 10 ∧
    ∀ S101 : sT, S101 = s_sI S 288 x0 (0 : Int32) →
    w_X8_is x1 (1 : Int32) (9 : Int32) S101 (fun x103 S102 =>
    ((x103 = 0 → wA_X8_society_b48 mc ms kc ks x0 S102  Q) ∧
    (¬ x103 = 0 → w_X8_is x2 (0 : Int32) (50 : Int32) S102 (fun x106 S105 =>
    ((x106 = 0 → wA_X8_society_b48 mc ms kc ks x0 S105  Q) ∧
    (¬ x106 = 0 → w_X8_is x3 (0 : Int32) (209 : Int32) S105 (fun x109 S108 =>
    ((x109 = 0 → wA_X8_society_b48 mc ms kc ks x0 S108  Q) ∧
    (¬ x109 = 0 → w_X8_is x4 (1 : Int32) (210 : Int32) S108 (fun x112 S111 =>
    ((¬ x112 = 0 → s_K S111 x0 = 10 ∧
    ∃ a114 : Nat, s_R S111 289 x0 = some a114 ∧
    s_K S111 a114 = 9 ∧
    ∃ a115 : Nat, s_R S111 256 a114 = some a115 ∧
    s_K S111 a115 = 13 ∧
    ∀ x116 : Int32, x116 = nI (s_N S111 a115) →
    ((¬ x116 = (3 : Int32) → ∃ a118 : Nat, s_R S111 289 x0 = some a118 ∧
    s_K S111 a118 = 9 ∧
    ∃ c119 d120 : Nat, kc + c119 ≤ mc ∧ ks + d120 ≤ ms ∧
    wA_X7_with c119 d120 a118 (1 : Int32) (0 : Int32) S111 (fun a122 S121 =>
    s_K S121 x0 = 10 ∧
    ∀ S123 : sT, S123 = s_sR S121 289 x0 (some a122) →
    ∃ a124 : Nat, s_R S123 289 x0 = some a124 ∧
    s_K S123 a124 = 9 ∧
    ∃ a125 : Nat, s_R S123 256 a124 = some a125 ∧
    ∃ a126 : Nat, s_R S123 289 x0 = some a126 ∧
    s_K S123 a126 = 9 ∧
    ∃ a127 : Nat, s_R S123 256 a126 = some a127 ∧
    s_K S123 a127 = 13 ∧
    ∀ x128 : Int32, x128 = nI (s_N S123 a127) →
    ∀ x129 : Int32, x129 = x128 - (1 : Int32) →
    s_K S123 a125 = 13 ∧
    vp_in x129 (s_N S123 a125) ∧
    ∃ a131 : Nat, s_P S123 a125 (Int32.toNatClampNeg x129) = some a131 ∧
    s_K S123 a131 = 11 ∧
    vp_in (0 : Int32) (s_N S123 a131) ∧
    ∀ S133 : sT, S133 = s_sB S123 a131 (Int32.toNatClampNeg (0 : Int32)) x1 →
    vp_in (1 : Int32) (s_N S133 a131) ∧
    ∀ S135 : sT, S135 = s_sB S133 a131 (Int32.toNatClampNeg (1 : Int32)) x2 →
    vp_in (2 : Int32) (s_N S135 a131) ∧
    ∀ S137 : sT, S137 = s_sB S135 a131 (Int32.toNatClampNeg (2 : Int32)) x3 →
    vp_in (3 : Int32) (s_N S137 a131) ∧
    ∀ S139 : sT, S139 = s_sB S137 a131 (Int32.toNatClampNeg (3 : Int32)) x4 →
    vp_in (7 : Int32) (s_N S139 a131) ∧
    ∀ S141 : sT, S141 = s_sB S139 a131 (Int32.toNatClampNeg (7 : Int32)) (-1 : Int32) →
    ∃ a142 : Nat, s_R S141 289 x0 = some a142 ∧
    s_K S141 a142 = 9 ∧
    ∃ a143 : Nat, s_R S141 256 a142 = some a143 ∧
    s_K S141 a143 = 13 ∧
    ∀ x144 : Int32, x144 = nI (s_N S141 a143) →
    ∀ x145 : Int32, x145 = x144 - (1 : Int32) →
    Q x145 S141)) ∧
    (x116 = (3 : Int32) → w_X8_refuse x0 (2 : Int32) S111 (fun x147 S146 =>
    Q x147 S146)))) ∧
    (x112 = 0 → wA_X8_society_b48 mc ms kc ks x0 S111  Q))))))))))))
def wA_X8_society (mc ms : Nat) (x0 : Nat) (x1 : Int32) (x2 : Int32) (x3 : Int32) (x4 : Int32) (S : sT) (Q : Int32 → sT → Prop) : Prop := wA_X8_society_b0 mc ms 0 0 x0 x1 x2 x3 x4 S Q
def rA_X8_society (mc ms : Nat) : Room := x_rm 3 84 mc ms
theorem b_X8_society : x_BV yX8_society cX8_society 6 (some .int) 4 := ⟨q_8_0, q_7_22, q_7_23, q_1_5, by decide +kernel⟩
set_option maxHeartbeats 4000000 in
theorem tA_X8_society_b48 {Q : Int32 → sT → Prop} (C : x_C p s m args c cX8_society RX8 gg) (hml : c.maxLocals = 6) (hr : meth.sig.returnType = (some .int)) (hlocks : meth.locks = false) {mc ms kc ks : Nat} (hk : kc ≤ mc ∧ ks ≤ ms) {x0 : Nat}  {S : sT}  (h : wA_X8_society_b48 mc ms kc ks x0 S  Q) : x_X p l e (rA_X8_society mc ms) s m args below meth c gg 6 kc ks (MQ below (va_Qi Q (fun S1 t => s_Rep gg S1 t.heap) (s_A gg)) args s mc ms (s_A gg)) 48 [(0, .ref x0)] [] S := by
  unfold wA_X8_society_b48 at h
  obtain ⟨hx, hb, -⟩ := id C
  intro H locs ls hR hS hl
  refine lv_aload_n hx hb dX8_society_48 rfl (lv_at hl 0 rfl) ?_
  refine lv_iconst (v := 1) hx hb dX8_society_49 (by decide) ?_
  obtain ⟨hK_x0, h⟩ := h
  refine x_ki (x_runV (As := [.int (1 : Int32)]) (rest := []) C hml hR hS (m_X8_refuse l gg x0 (1 : Int32) S h) b_X8_refuse q_8_5 (by rw [hK_x0]; decide) (s_E_9 hK_x0) rfl rfl rfl rfl ⟨Nat.le_of_ble_eq_true rfl, Nat.le_of_ble_eq_true rfl⟩ rfl hl.1 (Nat.le_of_ble_eq_true rfl) dX8_society_50 ⟨hk.1, hk.2⟩) hS (fun x102 S101 H locs hn hR hS => ?_)
  replace h := hn
  clear hn
  refine W.widen (k := mc) (n := ms) hk.1 hk.2 ?_
  exact W.iret (v := x102) hx hb hr (fun t ht hW => ⟨⟨x102, S101, rfl, h, x_rt ht hR⟩, hS.F ht⟩) hS.2.2 dX8_society_53
set_option maxHeartbeats 4000000 in
theorem tA_X8_society_b0 {Q : Int32 → sT → Prop} (C : x_C p s m args c cX8_society RX8 gg) (hml : c.maxLocals = 6) (hr : meth.sig.returnType = (some .int)) (hlocks : meth.locks = false) {mc ms kc ks : Nat} (hk : kc ≤ mc ∧ ks ≤ ms) {x0 : Nat} {x1 : Int32} {x2 : Int32} {x3 : Int32} {x4 : Int32}  {S : sT}  (h : wA_X8_society_b0 mc ms kc ks x0 x1 x2 x3 x4 S  Q) : x_X p l e (rA_X8_society mc ms) s m args below meth c gg 6 kc ks (MQ below (va_Qi Q (fun S1 t => s_Rep gg S1 t.heap) (s_A gg)) args s mc ms (s_A gg)) 0 [(0, .ref x0), (1, .int x1), (2, .int x2), (3, .int x3), (4, .int x4)] [] S := by
  unfold wA_X8_society_b0 at h
  obtain ⟨hx, hb, -⟩ := id C
  intro H locs ls hR hS hl
  refine lv_aload_n hx hb dX8_society_0 rfl (lv_at hl 0 rfl) ?_
  refine lv_iconst (v := 0) hx hb dX8_society_1 (by decide) ?_
  obtain ⟨hK_x0, h⟩ := h
  refine x_p_288 (v := (0 : Int32)) C hR hK_x0 hS q_8_1 dX8_society_2 (fun H locs hR hS => ?_)
  obtain ⟨S101, eS101⟩ : ∃ z : sT, z = s_sI S 288 x0 (0 : Int32) := ⟨_, rfl⟩
  rw [← eS101] at hR
  replace h := h S101 eS101
  have hK_x0 : s_K S101 x0 = 10 := by rw [eS101]; exact hK_x0
  refine lv_iload_n hx hb dX8_society_5 rfl (lv_at hl 1 rfl) ?_
  refine lv_iconst (v := 1) hx hb dX8_society_6 (by decide) ?_
  refine lv_bipush (v := 9) hx hb dX8_society_7 (by decide) ?_
  refine x_ki (x_runS (As := [.int x1, .int (1 : Int32), .int (9 : Int32)]) (rest := []) C hml hR hS (m_X8_is l gg x1 (1 : Int32) (9 : Int32) S101 h) b_X8_is q_8_2 rfl rfl ⟨Nat.le_of_ble_eq_true rfl, Nat.le_of_ble_eq_true rfl⟩ rfl hl.1 (Nat.le_of_ble_eq_true rfl) dX8_society_9 ⟨hk.1, hk.2⟩) hS (fun x103 S102 H locs hn hR hS => ?_)
  replace h := hn
  clear hn
  refine lv_if_eq (tgt := 48) hx hb dX8_society_12 (by decide) (fun hc104 => ?_) (fun hc104 => ?_)
  · replace h := h.1 hc104
    exact tA_X8_society_b48 C hml hr hlocks hk  h H locs ls hR hS (lv_sub (l' := [(0, .ref x0)]) hl [0] rfl)
  · replace h := h.2 hc104
    refine lv_iload_n hx hb dX8_society_15 rfl (lv_at hl 2 rfl) ?_
    refine lv_iconst (v := 0) hx hb dX8_society_16 (by decide) ?_
    refine lv_bipush (v := 50) hx hb dX8_society_17 (by decide) ?_
    refine x_ki (x_runS (As := [.int x2, .int (0 : Int32), .int (50 : Int32)]) (rest := []) C hml hR hS (m_X8_is l gg x2 (0 : Int32) (50 : Int32) S102 h) b_X8_is q_8_2 rfl rfl ⟨Nat.le_of_ble_eq_true rfl, Nat.le_of_ble_eq_true rfl⟩ rfl hl.1 (Nat.le_of_ble_eq_true rfl) dX8_society_19 ⟨hk.1, hk.2⟩) hS (fun x106 S105 H locs hn hR hS => ?_)
    replace h := hn
    clear hn
    refine lv_if_eq (tgt := 48) hx hb dX8_society_22 (by decide) (fun hc107 => ?_) (fun hc107 => ?_)
    · replace h := h.1 hc107
      exact tA_X8_society_b48 C hml hr hlocks hk  h H locs ls hR hS (lv_sub (l' := [(0, .ref x0)]) hl [0] rfl)
    · replace h := h.2 hc107
      refine lv_iload_n hx hb dX8_society_25 rfl (lv_at hl 3 rfl) ?_
      refine lv_iconst (v := 0) hx hb dX8_society_26 (by decide) ?_
      refine lv_sipush (v := 209) hx hb dX8_society_27 (by decide) ?_
      refine x_ki (x_runS (As := [.int x3, .int (0 : Int32), .int (209 : Int32)]) (rest := []) C hml hR hS (m_X8_is l gg x3 (0 : Int32) (209 : Int32) S105 h) b_X8_is q_8_2 rfl rfl ⟨Nat.le_of_ble_eq_true rfl, Nat.le_of_ble_eq_true rfl⟩ rfl hl.1 (Nat.le_of_ble_eq_true rfl) dX8_society_30 ⟨hk.1, hk.2⟩) hS (fun x109 S108 H locs hn hR hS => ?_)
      replace h := hn
      clear hn
      refine lv_if_eq (tgt := 48) hx hb dX8_society_33 (by decide) (fun hc110 => ?_) (fun hc110 => ?_)
      · replace h := h.1 hc110
        exact tA_X8_society_b48 C hml hr hlocks hk  h H locs ls hR hS (lv_sub (l' := [(0, .ref x0)]) hl [0] rfl)
      · replace h := h.2 hc110
        refine lv_iload hx hb dX8_society_36 (lv_at hl 4 rfl) ?_
        refine lv_iconst (v := 1) hx hb dX8_society_38 (by decide) ?_
        refine lv_sipush (v := 210) hx hb dX8_society_39 (by decide) ?_
        refine x_ki (x_runS (As := [.int x4, .int (1 : Int32), .int (210 : Int32)]) (rest := []) C hml hR hS (m_X8_is l gg x4 (1 : Int32) (210 : Int32) S108 h) b_X8_is q_8_2 rfl rfl ⟨Nat.le_of_ble_eq_true rfl, Nat.le_of_ble_eq_true rfl⟩ rfl hl.1 (Nat.le_of_ble_eq_true rfl) dX8_society_42 ⟨hk.1, hk.2⟩) hS (fun x112 S111 H locs hn hR hS => ?_)
        replace h := hn
        clear hn
        refine lv_if_ne (tgt := 54) hx hb dX8_society_45 (by decide) (fun hc113 => ?_) (fun hc113 => ?_)
        · replace h := h.1 hc113
          refine lv_aload_n hx hb dX8_society_54 rfl (lv_at hl 0 rfl) ?_
          obtain ⟨hK_x0, h⟩ := h
          refine x_g_289 C hR hK_x0 q_3_8 dX8_society_55 ?_
          obtain ⟨a114, ea114, h⟩ := h
          refine x_some ea114 ?_
          obtain ⟨hK_a114, h⟩ := h
          refine x_gN_256 C hR hK_a114 (xn_2 C) dX8_society_58 ?_
          obtain ⟨a115, ea115, h⟩ := h
          refine x_some ea115 ?_
          obtain ⟨hK_a115, h⟩ := h
          refine x_alen13 C hR hK_a115 dX8_society_61 ?_
          refine lv_topi (fun x116 ex116 => ?_)
          replace h := h x116 ex116
          refine lv_iconst (v := 3) hx hb dX8_society_62 (by decide) ?_
          refine lv_icmp_ne (tgt := 72) hx hb dX8_society_63 (by decide) (fun hc117 => ?_) (fun hc117 => ?_)
          · replace h := h.1 hc117
            refine lv_aload_n hx hb dX8_society_72 rfl (lv_at hl 0 rfl) ?_
            refine lv_aload_n hx hb dX8_society_73 rfl (lv_at hl 0 rfl) ?_
            refine x_g_289 C hR hK_x0 q_3_8 dX8_society_74 ?_
            obtain ⟨a118, ea118, h⟩ := h
            refine x_some ea118 ?_
            refine lv_iconst (v := 1) hx hb dX8_society_77 (by decide) ?_
            refine lv_iconst (v := 0) hx hb dX8_society_78 (by decide) ?_
            obtain ⟨hK_a118, h⟩ := h
            obtain ⟨c119, d120, hk1, hk2, h⟩ := h
            refine x_kq (x_runV (As := [.int (1 : Int32), .int (0 : Int32)]) (rest := [.ref x0]) C hml hR hS (mA_X7_with l gg c119 d120 a118 (1 : Int32) (0 : Int32) S111 h) b_X7_with q_8_9 (by rw [hK_a118]; decide) (s_E_8 hK_a118) rfl rfl rfl rfl ⟨Nat.le_of_ble_eq_true rfl, Nat.le_of_ble_eq_true rfl⟩ rfl hl.1 (Nat.le_of_ble_eq_true rfl) dX8_society_79 ⟨hk1, hk2⟩) hS (fun ra122 S121 H locs hn hR hS => ?_)
            replace h := hn
            clear hn
            have hk : (kc + c119) ≤ mc ∧ (ks + d120) ≤ ms := ⟨hk1, hk2⟩
            obtain ⟨a122, za122, h⟩ := h
            refine x_some za122 ?_
            obtain ⟨hK_x0, h⟩ := h
            refine x_p_289 (v := (some a122)) C hR hK_x0 hS q_3_8 dX8_society_82 (fun H locs hR hS => ?_)
            obtain ⟨S123, eS123⟩ : ∃ z : sT, z = s_sR S121 289 x0 (some a122) := ⟨_, rfl⟩
            rw [← eS123] at hR
            replace h := h S123 eS123
            have hK_x0 : s_K S123 x0 = 10 := by rw [eS123]; exact hK_x0
            refine lv_aload_n hx hb dX8_society_85 rfl (lv_at hl 0 rfl) ?_
            refine x_g_289 C hR hK_x0 q_3_8 dX8_society_86 ?_
            obtain ⟨a124, ea124, h⟩ := h
            refine x_some ea124 ?_
            obtain ⟨hK_a124, h⟩ := h
            refine x_gN_256 C hR hK_a124 (xn_2 C) dX8_society_89 ?_
            obtain ⟨a125, ea125, h⟩ := h
            refine x_some ea125 ?_
            refine lv_aload_n hx hb dX8_society_92 rfl (lv_at hl 0 rfl) ?_
            refine x_g_289 C hR hK_x0 q_3_8 dX8_society_93 ?_
            obtain ⟨a126, ea126, h⟩ := h
            refine x_some ea126 ?_
            obtain ⟨hK_a126, h⟩ := h
            refine x_gN_256 C hR hK_a126 (xn_2 C) dX8_society_96 ?_
            obtain ⟨a127, ea127, h⟩ := h
            refine x_some ea127 ?_
            obtain ⟨hK_a127, h⟩ := h
            refine x_alen13 C hR hK_a127 dX8_society_99 ?_
            refine lv_topi (fun x128 ex128 => ?_)
            replace h := h x128 ex128
            refine lv_iconst (v := 1) hx hb dX8_society_100 (by decide) ?_
            refine lv_isub hx hb dX8_society_101 ?_
            refine lv_topi (fun x129 ex129 => ?_)
            replace h := h x129 ex129
            obtain ⟨hK_a125, h⟩ := h
            obtain ⟨hi130, a131, ea131, h⟩ := h
            refine x_aald13 C hR hK_a125 hi130 dX8_society_102 ?_
            refine x_some ea131 ?_
            refine lv_astore (lv' := [(5, .ref a131), (0, .ref x0), (1, .int x1), (2, .int x2), (3, .int x3), (4, .int x4)]) hx hb dX8_society_103 hl (by decide) rfl (fun ls hl => ?_)
            refine lv_aload hx hb dX8_society_105 (lv_at hl 0 rfl) ?_
            refine lv_iconst (v := 0) hx hb dX8_society_107 (by decide) ?_
            refine lv_iload_n hx hb dX8_society_108 rfl (lv_at hl 2 rfl) ?_
            obtain ⟨hK_a131, h⟩ := h
            obtain ⟨hi132, h⟩ := h
            refine x_iast C hR hK_a131 hS hi132 dX8_society_109 (fun H locs hR hS => ?_)
            obtain ⟨S133, eS133⟩ : ∃ z : sT, z = s_sB S123 a131 (Int32.toNatClampNeg (0 : Int32)) x1 := ⟨_, rfl⟩
            rw [← eS133] at hR
            replace h := h S133 eS133
            have hK_x0 : s_K S133 x0 = 10 := by rw [eS133]; exact hK_x0
            have hK_a124 : s_K S133 a124 = 9 := by rw [eS133]; exact hK_a124
            have hK_a126 : s_K S133 a126 = 9 := by rw [eS133]; exact hK_a126
            have hK_a127 : s_K S133 a127 = 13 := by rw [eS133]; exact hK_a127
            have hK_a125 : s_K S133 a125 = 13 := by rw [eS133]; exact hK_a125
            have hK_a131 : s_K S133 a131 = 11 := by rw [eS133]; exact hK_a131
            refine lv_aload hx hb dX8_society_110 (lv_at hl 0 rfl) ?_
            refine lv_iconst (v := 1) hx hb dX8_society_112 (by decide) ?_
            refine lv_iload_n hx hb dX8_society_113 rfl (lv_at hl 3 rfl) ?_
            obtain ⟨hi134, h⟩ := h
            refine x_iast C hR hK_a131 hS hi134 dX8_society_114 (fun H locs hR hS => ?_)
            obtain ⟨S135, eS135⟩ : ∃ z : sT, z = s_sB S133 a131 (Int32.toNatClampNeg (1 : Int32)) x2 := ⟨_, rfl⟩
            rw [← eS135] at hR
            replace h := h S135 eS135
            have hK_x0 : s_K S135 x0 = 10 := by rw [eS135]; exact hK_x0
            have hK_a124 : s_K S135 a124 = 9 := by rw [eS135]; exact hK_a124
            have hK_a126 : s_K S135 a126 = 9 := by rw [eS135]; exact hK_a126
            have hK_a127 : s_K S135 a127 = 13 := by rw [eS135]; exact hK_a127
            have hK_a125 : s_K S135 a125 = 13 := by rw [eS135]; exact hK_a125
            have hK_a131 : s_K S135 a131 = 11 := by rw [eS135]; exact hK_a131
            refine lv_aload hx hb dX8_society_115 (lv_at hl 0 rfl) ?_
            refine lv_iconst (v := 2) hx hb dX8_society_117 (by decide) ?_
            refine lv_iload_n hx hb dX8_society_118 rfl (lv_at hl 4 rfl) ?_
            obtain ⟨hi136, h⟩ := h
            refine x_iast C hR hK_a131 hS hi136 dX8_society_119 (fun H locs hR hS => ?_)
            obtain ⟨S137, eS137⟩ : ∃ z : sT, z = s_sB S135 a131 (Int32.toNatClampNeg (2 : Int32)) x3 := ⟨_, rfl⟩
            rw [← eS137] at hR
            replace h := h S137 eS137
            have hK_x0 : s_K S137 x0 = 10 := by rw [eS137]; exact hK_x0
            have hK_a124 : s_K S137 a124 = 9 := by rw [eS137]; exact hK_a124
            have hK_a126 : s_K S137 a126 = 9 := by rw [eS137]; exact hK_a126
            have hK_a127 : s_K S137 a127 = 13 := by rw [eS137]; exact hK_a127
            have hK_a125 : s_K S137 a125 = 13 := by rw [eS137]; exact hK_a125
            have hK_a131 : s_K S137 a131 = 11 := by rw [eS137]; exact hK_a131
            refine lv_aload hx hb dX8_society_120 (lv_at hl 0 rfl) ?_
            refine lv_iconst (v := 3) hx hb dX8_society_122 (by decide) ?_
            refine lv_iload hx hb dX8_society_123 (lv_at hl 5 rfl) ?_
            obtain ⟨hi138, h⟩ := h
            refine x_iast C hR hK_a131 hS hi138 dX8_society_125 (fun H locs hR hS => ?_)
            obtain ⟨S139, eS139⟩ : ∃ z : sT, z = s_sB S137 a131 (Int32.toNatClampNeg (3 : Int32)) x4 := ⟨_, rfl⟩
            rw [← eS139] at hR
            replace h := h S139 eS139
            have hK_x0 : s_K S139 x0 = 10 := by rw [eS139]; exact hK_x0
            have hK_a124 : s_K S139 a124 = 9 := by rw [eS139]; exact hK_a124
            have hK_a126 : s_K S139 a126 = 9 := by rw [eS139]; exact hK_a126
            have hK_a127 : s_K S139 a127 = 13 := by rw [eS139]; exact hK_a127
            have hK_a125 : s_K S139 a125 = 13 := by rw [eS139]; exact hK_a125
            have hK_a131 : s_K S139 a131 = 11 := by rw [eS139]; exact hK_a131
            refine lv_aload hx hb dX8_society_126 (lv_at hl 0 rfl) ?_
            refine lv_bipush (v := 7) hx hb dX8_society_128 (by decide) ?_
            refine lv_iconst (v := (-1)) hx hb dX8_society_130 (by decide) ?_
            obtain ⟨hi140, h⟩ := h
            refine x_iast C hR hK_a131 hS hi140 dX8_society_131 (fun H locs hR hS => ?_)
            obtain ⟨S141, eS141⟩ : ∃ z : sT, z = s_sB S139 a131 (Int32.toNatClampNeg (7 : Int32)) (-1 : Int32) := ⟨_, rfl⟩
            rw [← eS141] at hR
            replace h := h S141 eS141
            have hK_x0 : s_K S141 x0 = 10 := by rw [eS141]; exact hK_x0
            have hK_a124 : s_K S141 a124 = 9 := by rw [eS141]; exact hK_a124
            have hK_a126 : s_K S141 a126 = 9 := by rw [eS141]; exact hK_a126
            have hK_a127 : s_K S141 a127 = 13 := by rw [eS141]; exact hK_a127
            have hK_a125 : s_K S141 a125 = 13 := by rw [eS141]; exact hK_a125
            have hK_a131 : s_K S141 a131 = 11 := by rw [eS141]; exact hK_a131
            refine lv_aload_n hx hb dX8_society_132 rfl (lv_at hl 1 rfl) ?_
            refine x_g_289 C hR hK_x0 q_3_8 dX8_society_133 ?_
            obtain ⟨a142, ea142, h⟩ := h
            refine x_some ea142 ?_
            obtain ⟨hK_a142, h⟩ := h
            refine x_gN_256 C hR hK_a142 (xn_2 C) dX8_society_136 ?_
            obtain ⟨a143, ea143, h⟩ := h
            refine x_some ea143 ?_
            obtain ⟨hK_a143, h⟩ := h
            refine x_alen13 C hR hK_a143 dX8_society_139 ?_
            refine lv_topi (fun x144 ex144 => ?_)
            replace h := h x144 ex144
            refine lv_iconst (v := 1) hx hb dX8_society_140 (by decide) ?_
            refine lv_isub hx hb dX8_society_141 ?_
            refine lv_topi (fun x145 ex145 => ?_)
            replace h := h x145 ex145
            refine W.widen (k := mc) (n := ms) hk.1 hk.2 ?_
            exact W.iret (v := x145) hx hb hr (fun t ht hW => ⟨⟨x145, S141, rfl, h, x_rt ht hR⟩, hS.F ht⟩) hS.2.2 dX8_society_142
          · replace h := h.2 hc117
            refine lv_aload_n hx hb dX8_society_66 rfl (lv_at hl 0 rfl) ?_
            refine lv_iconst (v := 2) hx hb dX8_society_67 (by decide) ?_
            refine x_ki (x_runV (As := [.int (2 : Int32)]) (rest := []) C hml hR hS (m_X8_refuse l gg x0 (2 : Int32) S111 h) b_X8_refuse q_8_5 (by rw [hK_x0]; decide) (s_E_9 hK_x0) rfl rfl rfl rfl ⟨Nat.le_of_ble_eq_true rfl, Nat.le_of_ble_eq_true rfl⟩ rfl hl.1 (Nat.le_of_ble_eq_true rfl) dX8_society_68 ⟨hk.1, hk.2⟩) hS (fun x147 S146 H locs hn hR hS => ?_)
            replace h := hn
            clear hn
            refine W.widen (k := mc) (n := ms) hk.1 hk.2 ?_
            exact W.iret (v := x147) hx hb hr (fun t ht hW => ⟨⟨x147, S146, rfl, h, x_rt ht hR⟩, hS.F ht⟩) hS.2.2 dX8_society_71
        · replace h := h.2 hc113
          exact tA_X8_society_b48 C hml hr hlocks hk  h H locs ls hR hS (lv_sub (l' := [(0, .ref x0)]) hl [0] rfl)
theorem mA_X8_society (l : Launch) (gg : sG) (mc ms : Nat) (x0 : Nat) (x1 : Int32) (x2 : Int32) (x3 : Int32) (x4 : Int32) (S : sT) {Q : Int32 → sT → Prop} (h : wA_X8_society mc ms x0 x1 x2 x3 x4 S Q) : x_Mi l gg yX8_society (x_ws yX8_society cX8_society 6 (some .int)) (rA_X8_society mc ms) [.ref x0, .int x1, .int x2, .int x3, .int x4] S Q mc ms := by
  refine x_ofW (cc := cX8_society) (own := RX8) (by decide +kernel) rfl (Nat.le_of_ble_eq_true rfl) ?_
  intro p e s m args below meth c C hml hr hlocks hin ht H locs ls hR hS hl
  exact tA_X8_society_b0 C hml hr hlocks ⟨Nat.zero_le _, Nat.zero_le _⟩ h H locs ls hR hS (lv_sub (l' := [(0, .ref x0), (1, .int x1), (2, .int x2), (3, .int x3), (4, .int x4)]) hl [0, 1, 2, 3, 4] rfl)
def wA_X8_field_b39 (mc ms kc ks : Nat) (x0 : Nat) (S : sT)  (Q : Int32 → sT → Prop) : Prop :=
s_K S x0 = 10 ∧
    w_X8_refuse x0 (2 : Int32) S (fun x102 S101 =>
    Q x102 S101)
def wA_X8_field_b0 (mc ms kc ks : Nat) (x0 : Nat) (x1 : Int32) (x2 : Int32) (x3 : Int32) (S : sT)  (Q : Int32 → sT → Prop) : Prop :=
s_K S x0 = 10 ∧
    ∀ S101 : sT, S101 = s_sI S 288 x0 (0 : Int32) →
    w_X8_isSociety x0 x1 S101 (fun x103 S102 =>
    ((¬ x103 = 0 → w_X8_is x2 (1 : Int32) (9 : Int32) S102 (fun x106 S105 =>
    ((x106 = 0 → wA_X8_field_b39 mc ms kc ks x0 S105  Q) ∧
    (¬ x106 = 0 → w_X8_is x3 (5 : Int32) (60 : Int32) S105 (fun x109 S108 =>
    ((¬ x109 = 0 → s_K S108 x0 = 10 ∧
    ∃ a111 : Nat, s_R S108 289 x0 = some a111 ∧
    s_K S108 a111 = 9 ∧
    ∃ a112 : Nat, s_R S108 257 a111 = some a112 ∧
    s_K S108 a112 = 13 ∧
    ∀ x113 : Int32, x113 = nI (s_N S108 a112) →
    ((¬ x113 = (12 : Int32) → ∃ a115 : Nat, s_R S108 289 x0 = some a115 ∧
    s_K S108 a115 = 9 ∧
    ∃ c116 d117 : Nat, kc + c116 ≤ mc ∧ ks + d117 ≤ ms ∧
    wA_X7_with c116 d117 a115 (0 : Int32) (1 : Int32) S108 (fun a119 S118 =>
    s_K S118 x0 = 10 ∧
    ∀ S120 : sT, S120 = s_sR S118 289 x0 (some a119) →
    ∃ a121 : Nat, s_R S120 289 x0 = some a121 ∧
    s_K S120 a121 = 9 ∧
    ∃ a122 : Nat, s_R S120 257 a121 = some a122 ∧
    ∃ a123 : Nat, s_R S120 289 x0 = some a123 ∧
    s_K S120 a123 = 9 ∧
    ∃ a124 : Nat, s_R S120 257 a123 = some a124 ∧
    s_K S120 a124 = 13 ∧
    ∀ x125 : Int32, x125 = nI (s_N S120 a124) →
    ∀ x126 : Int32, x126 = x125 - (1 : Int32) →
    s_K S120 a122 = 13 ∧
    vp_in x126 (s_N S120 a122) ∧
    ∃ a128 : Nat, s_P S120 a122 (Int32.toNatClampNeg x126) = some a128 ∧
    s_K S120 a128 = 11 ∧
    vp_in (0 : Int32) (s_N S120 a128) ∧
    ∀ S130 : sT, S130 = s_sB S120 a128 (Int32.toNatClampNeg (0 : Int32)) x1 →
    vp_in (13 : Int32) (s_N S130 a128) ∧
    ∀ S132 : sT, S132 = s_sB S130 a128 (Int32.toNatClampNeg (13 : Int32)) x2 →
    vp_in (14 : Int32) (s_N S132 a128) ∧
    ∀ S134 : sT, S134 = s_sB S132 a128 (Int32.toNatClampNeg (14 : Int32)) x3 →
    vp_in (9 : Int32) (s_N S134 a128) ∧
    ∀ S136 : sT, S136 = s_sB S134 a128 (Int32.toNatClampNeg (9 : Int32)) (20 : Int32) →
    vp_in (17 : Int32) (s_N S136 a128) ∧
    ∀ S138 : sT, S138 = s_sB S136 a128 (Int32.toNatClampNeg (17 : Int32)) (20 : Int32) →
    vp_in (21 : Int32) (s_N S138 a128) ∧
    ∀ S140 : sT, S140 = s_sB S138 a128 (Int32.toNatClampNeg (21 : Int32)) (120 : Int32) →
    ∃ a141 : Nat, s_R S140 289 x0 = some a141 ∧
    s_K S140 a141 = 9 ∧
    ∃ a142 : Nat, s_R S140 257 a141 = some a142 ∧
    s_K S140 a142 = 13 ∧
    ∀ x143 : Int32, x143 = nI (s_N S140 a142) →
    ∀ x144 : Int32, x144 = x143 - (1 : Int32) →
    Q x144 S140)) ∧
    (x113 = (12 : Int32) → w_X8_refuse x0 (3 : Int32) S108 (fun x146 S145 =>
    Q x146 S145)))) ∧
    (x109 = 0 → wA_X8_field_b39 mc ms kc ks x0 S108  Q))))))) ∧
    (x103 = 0 → s_K S102 x0 = 10 ∧
    w_X8_refuse x0 (1 : Int32) S102 (fun x148 S147 =>
    Q x148 S147))))
def wA_X8_field (mc ms : Nat) (x0 : Nat) (x1 : Int32) (x2 : Int32) (x3 : Int32) (S : sT) (Q : Int32 → sT → Prop) : Prop := wA_X8_field_b0 mc ms 0 0 x0 x1 x2 x3 S Q
def rA_X8_field (mc ms : Nat) : Room := x_rm 3 84 mc ms
theorem b_X8_field : x_BV yX8_field cX8_field 5 (some .int) 3 := ⟨q_12_9, q_12_7, q_12_8, q_1_5, by decide +kernel⟩
set_option maxHeartbeats 4000000 in
theorem tA_X8_field_b39 {Q : Int32 → sT → Prop} (C : x_C p s m args c cX8_field RX8 gg) (hml : c.maxLocals = 5) (hr : meth.sig.returnType = (some .int)) (hlocks : meth.locks = false) {mc ms kc ks : Nat} (hk : kc ≤ mc ∧ ks ≤ ms) {x0 : Nat}  {S : sT}  (h : wA_X8_field_b39 mc ms kc ks x0 S  Q) : x_X p l e (rA_X8_field mc ms) s m args below meth c gg 5 kc ks (MQ below (va_Qi Q (fun S1 t => s_Rep gg S1 t.heap) (s_A gg)) args s mc ms (s_A gg)) 39 [(0, .ref x0)] [] S := by
  unfold wA_X8_field_b39 at h
  obtain ⟨hx, hb, -⟩ := id C
  intro H locs ls hR hS hl
  refine lv_aload_n hx hb dX8_field_39 rfl (lv_at hl 0 rfl) ?_
  refine lv_iconst (v := 2) hx hb dX8_field_40 (by decide) ?_
  obtain ⟨hK_x0, h⟩ := h
  refine x_ki (x_runV (As := [.int (2 : Int32)]) (rest := []) C hml hR hS (m_X8_refuse l gg x0 (2 : Int32) S h) b_X8_refuse q_8_5 (by rw [hK_x0]; decide) (s_E_9 hK_x0) rfl rfl rfl rfl ⟨Nat.le_of_ble_eq_true rfl, Nat.le_of_ble_eq_true rfl⟩ rfl hl.1 (Nat.le_of_ble_eq_true rfl) dX8_field_41 ⟨hk.1, hk.2⟩) hS (fun x102 S101 H locs hn hR hS => ?_)
  replace h := hn
  clear hn
  refine W.widen (k := mc) (n := ms) hk.1 hk.2 ?_
  exact W.iret (v := x102) hx hb hr (fun t ht hW => ⟨⟨x102, S101, rfl, h, x_rt ht hR⟩, hS.F ht⟩) hS.2.2 dX8_field_44
set_option maxHeartbeats 4000000 in
theorem tA_X8_field_b0 {Q : Int32 → sT → Prop} (C : x_C p s m args c cX8_field RX8 gg) (hml : c.maxLocals = 5) (hr : meth.sig.returnType = (some .int)) (hlocks : meth.locks = false) {mc ms kc ks : Nat} (hk : kc ≤ mc ∧ ks ≤ ms) {x0 : Nat} {x1 : Int32} {x2 : Int32} {x3 : Int32}  {S : sT}  (h : wA_X8_field_b0 mc ms kc ks x0 x1 x2 x3 S  Q) : x_X p l e (rA_X8_field mc ms) s m args below meth c gg 5 kc ks (MQ below (va_Qi Q (fun S1 t => s_Rep gg S1 t.heap) (s_A gg)) args s mc ms (s_A gg)) 0 [(0, .ref x0), (1, .int x1), (2, .int x2), (3, .int x3)] [] S := by
  unfold wA_X8_field_b0 at h
  obtain ⟨hx, hb, -⟩ := id C
  intro H locs ls hR hS hl
  refine lv_aload_n hx hb dX8_field_0 rfl (lv_at hl 0 rfl) ?_
  refine lv_iconst (v := 0) hx hb dX8_field_1 (by decide) ?_
  obtain ⟨hK_x0, h⟩ := h
  refine x_p_288 (v := (0 : Int32)) C hR hK_x0 hS q_8_1 dX8_field_2 (fun H locs hR hS => ?_)
  obtain ⟨S101, eS101⟩ : ∃ z : sT, z = s_sI S 288 x0 (0 : Int32) := ⟨_, rfl⟩
  rw [← eS101] at hR
  replace h := h S101 eS101
  have hK_x0 : s_K S101 x0 = 10 := by rw [eS101]; exact hK_x0
  refine lv_aload_n hx hb dX8_field_5 rfl (lv_at hl 0 rfl) ?_
  refine lv_iload_n hx hb dX8_field_6 rfl (lv_at hl 1 rfl) ?_
  refine x_ki (x_runV (As := [.int x1]) (rest := []) C hml hR hS (m_X8_isSociety l gg x0 x1 S101 h) b_X8_isSociety q_12_10 (by rw [hK_x0]; decide) (s_E_9 hK_x0) rfl rfl rfl rfl ⟨Nat.le_of_ble_eq_true rfl, Nat.le_of_ble_eq_true rfl⟩ rfl hl.1 (Nat.le_of_ble_eq_true rfl) dX8_field_7 ⟨hk.1, hk.2⟩) hS (fun x103 S102 H locs hn hR hS => ?_)
  replace h := hn
  clear hn
  refine lv_if_ne (tgt := 19) hx hb dX8_field_10 (by decide) (fun hc104 => ?_) (fun hc104 => ?_)
  · replace h := h.1 hc104
    refine lv_iload_n hx hb dX8_field_19 rfl (lv_at hl 2 rfl) ?_
    refine lv_iconst (v := 1) hx hb dX8_field_20 (by decide) ?_
    refine lv_bipush (v := 9) hx hb dX8_field_21 (by decide) ?_
    refine x_ki (x_runS (As := [.int x2, .int (1 : Int32), .int (9 : Int32)]) (rest := []) C hml hR hS (m_X8_is l gg x2 (1 : Int32) (9 : Int32) S102 h) b_X8_is q_8_2 rfl rfl ⟨Nat.le_of_ble_eq_true rfl, Nat.le_of_ble_eq_true rfl⟩ rfl hl.1 (Nat.le_of_ble_eq_true rfl) dX8_field_23 ⟨hk.1, hk.2⟩) hS (fun x106 S105 H locs hn hR hS => ?_)
    replace h := hn
    clear hn
    refine lv_if_eq (tgt := 39) hx hb dX8_field_26 (by decide) (fun hc107 => ?_) (fun hc107 => ?_)
    · replace h := h.1 hc107
      exact tA_X8_field_b39 C hml hr hlocks hk  h H locs ls hR hS (lv_sub (l' := [(0, .ref x0)]) hl [0] rfl)
    · replace h := h.2 hc107
      refine lv_iload_n hx hb dX8_field_29 rfl (lv_at hl 3 rfl) ?_
      refine lv_iconst (v := 5) hx hb dX8_field_30 (by decide) ?_
      refine lv_bipush (v := 60) hx hb dX8_field_31 (by decide) ?_
      refine x_ki (x_runS (As := [.int x3, .int (5 : Int32), .int (60 : Int32)]) (rest := []) C hml hR hS (m_X8_is l gg x3 (5 : Int32) (60 : Int32) S105 h) b_X8_is q_8_2 rfl rfl ⟨Nat.le_of_ble_eq_true rfl, Nat.le_of_ble_eq_true rfl⟩ rfl hl.1 (Nat.le_of_ble_eq_true rfl) dX8_field_33 ⟨hk.1, hk.2⟩) hS (fun x109 S108 H locs hn hR hS => ?_)
      replace h := hn
      clear hn
      refine lv_if_ne (tgt := 45) hx hb dX8_field_36 (by decide) (fun hc110 => ?_) (fun hc110 => ?_)
      · replace h := h.1 hc110
        refine lv_aload_n hx hb dX8_field_45 rfl (lv_at hl 0 rfl) ?_
        obtain ⟨hK_x0, h⟩ := h
        refine x_g_289 C hR hK_x0 q_3_8 dX8_field_46 ?_
        obtain ⟨a111, ea111, h⟩ := h
        refine x_some ea111 ?_
        obtain ⟨hK_a111, h⟩ := h
        refine x_gN_257 C hR hK_a111 (xn_1 C) dX8_field_49 ?_
        obtain ⟨a112, ea112, h⟩ := h
        refine x_some ea112 ?_
        obtain ⟨hK_a112, h⟩ := h
        refine x_alen13 C hR hK_a112 dX8_field_52 ?_
        refine lv_topi (fun x113 ex113 => ?_)
        replace h := h x113 ex113
        refine lv_bipush (v := 12) hx hb dX8_field_53 (by decide) ?_
        refine lv_icmp_ne (tgt := 64) hx hb dX8_field_55 (by decide) (fun hc114 => ?_) (fun hc114 => ?_)
        · replace h := h.1 hc114
          refine lv_aload_n hx hb dX8_field_64 rfl (lv_at hl 0 rfl) ?_
          refine lv_aload_n hx hb dX8_field_65 rfl (lv_at hl 0 rfl) ?_
          refine x_g_289 C hR hK_x0 q_3_8 dX8_field_66 ?_
          obtain ⟨a115, ea115, h⟩ := h
          refine x_some ea115 ?_
          refine lv_iconst (v := 0) hx hb dX8_field_69 (by decide) ?_
          refine lv_iconst (v := 1) hx hb dX8_field_70 (by decide) ?_
          obtain ⟨hK_a115, h⟩ := h
          obtain ⟨c116, d117, hk1, hk2, h⟩ := h
          refine x_kq (x_runV (As := [.int (0 : Int32), .int (1 : Int32)]) (rest := [.ref x0]) C hml hR hS (mA_X7_with l gg c116 d117 a115 (0 : Int32) (1 : Int32) S108 h) b_X7_with q_8_9 (by rw [hK_a115]; decide) (s_E_8 hK_a115) rfl rfl rfl rfl ⟨Nat.le_of_ble_eq_true rfl, Nat.le_of_ble_eq_true rfl⟩ rfl hl.1 (Nat.le_of_ble_eq_true rfl) dX8_field_71 ⟨hk1, hk2⟩) hS (fun ra119 S118 H locs hn hR hS => ?_)
          replace h := hn
          clear hn
          have hk : (kc + c116) ≤ mc ∧ (ks + d117) ≤ ms := ⟨hk1, hk2⟩
          obtain ⟨a119, za119, h⟩ := h
          refine x_some za119 ?_
          obtain ⟨hK_x0, h⟩ := h
          refine x_p_289 (v := (some a119)) C hR hK_x0 hS q_3_8 dX8_field_74 (fun H locs hR hS => ?_)
          obtain ⟨S120, eS120⟩ : ∃ z : sT, z = s_sR S118 289 x0 (some a119) := ⟨_, rfl⟩
          rw [← eS120] at hR
          replace h := h S120 eS120
          have hK_x0 : s_K S120 x0 = 10 := by rw [eS120]; exact hK_x0
          refine lv_aload_n hx hb dX8_field_77 rfl (lv_at hl 0 rfl) ?_
          refine x_g_289 C hR hK_x0 q_3_8 dX8_field_78 ?_
          obtain ⟨a121, ea121, h⟩ := h
          refine x_some ea121 ?_
          obtain ⟨hK_a121, h⟩ := h
          refine x_gN_257 C hR hK_a121 (xn_1 C) dX8_field_81 ?_
          obtain ⟨a122, ea122, h⟩ := h
          refine x_some ea122 ?_
          refine lv_aload_n hx hb dX8_field_84 rfl (lv_at hl 0 rfl) ?_
          refine x_g_289 C hR hK_x0 q_3_8 dX8_field_85 ?_
          obtain ⟨a123, ea123, h⟩ := h
          refine x_some ea123 ?_
          obtain ⟨hK_a123, h⟩ := h
          refine x_gN_257 C hR hK_a123 (xn_1 C) dX8_field_88 ?_
          obtain ⟨a124, ea124, h⟩ := h
          refine x_some ea124 ?_
          obtain ⟨hK_a124, h⟩ := h
          refine x_alen13 C hR hK_a124 dX8_field_91 ?_
          refine lv_topi (fun x125 ex125 => ?_)
          replace h := h x125 ex125
          refine lv_iconst (v := 1) hx hb dX8_field_92 (by decide) ?_
          refine lv_isub hx hb dX8_field_93 ?_
          refine lv_topi (fun x126 ex126 => ?_)
          replace h := h x126 ex126
          obtain ⟨hK_a122, h⟩ := h
          obtain ⟨hi127, a128, ea128, h⟩ := h
          refine x_aald13 C hR hK_a122 hi127 dX8_field_94 ?_
          refine x_some ea128 ?_
          refine lv_astore (lv' := [(4, .ref a128), (0, .ref x0), (1, .int x1), (2, .int x2), (3, .int x3)]) hx hb dX8_field_95 hl (by decide) rfl (fun ls hl => ?_)
          refine lv_aload hx hb dX8_field_97 (lv_at hl 0 rfl) ?_
          refine lv_iconst (v := 0) hx hb dX8_field_99 (by decide) ?_
          refine lv_iload_n hx hb dX8_field_100 rfl (lv_at hl 2 rfl) ?_
          obtain ⟨hK_a128, h⟩ := h
          obtain ⟨hi129, h⟩ := h
          refine x_iast C hR hK_a128 hS hi129 dX8_field_101 (fun H locs hR hS => ?_)
          obtain ⟨S130, eS130⟩ : ∃ z : sT, z = s_sB S120 a128 (Int32.toNatClampNeg (0 : Int32)) x1 := ⟨_, rfl⟩
          rw [← eS130] at hR
          replace h := h S130 eS130
          have hK_x0 : s_K S130 x0 = 10 := by rw [eS130]; exact hK_x0
          have hK_a121 : s_K S130 a121 = 9 := by rw [eS130]; exact hK_a121
          have hK_a123 : s_K S130 a123 = 9 := by rw [eS130]; exact hK_a123
          have hK_a124 : s_K S130 a124 = 13 := by rw [eS130]; exact hK_a124
          have hK_a122 : s_K S130 a122 = 13 := by rw [eS130]; exact hK_a122
          have hK_a128 : s_K S130 a128 = 11 := by rw [eS130]; exact hK_a128
          refine lv_aload hx hb dX8_field_102 (lv_at hl 0 rfl) ?_
          refine lv_bipush (v := 13) hx hb dX8_field_104 (by decide) ?_
          refine lv_iload_n hx hb dX8_field_106 rfl (lv_at hl 3 rfl) ?_
          obtain ⟨hi131, h⟩ := h
          refine x_iast C hR hK_a128 hS hi131 dX8_field_107 (fun H locs hR hS => ?_)
          obtain ⟨S132, eS132⟩ : ∃ z : sT, z = s_sB S130 a128 (Int32.toNatClampNeg (13 : Int32)) x2 := ⟨_, rfl⟩
          rw [← eS132] at hR
          replace h := h S132 eS132
          have hK_x0 : s_K S132 x0 = 10 := by rw [eS132]; exact hK_x0
          have hK_a121 : s_K S132 a121 = 9 := by rw [eS132]; exact hK_a121
          have hK_a123 : s_K S132 a123 = 9 := by rw [eS132]; exact hK_a123
          have hK_a124 : s_K S132 a124 = 13 := by rw [eS132]; exact hK_a124
          have hK_a122 : s_K S132 a122 = 13 := by rw [eS132]; exact hK_a122
          have hK_a128 : s_K S132 a128 = 11 := by rw [eS132]; exact hK_a128
          refine lv_aload hx hb dX8_field_108 (lv_at hl 0 rfl) ?_
          refine lv_bipush (v := 14) hx hb dX8_field_110 (by decide) ?_
          refine lv_iload_n hx hb dX8_field_112 rfl (lv_at hl 4 rfl) ?_
          obtain ⟨hi133, h⟩ := h
          refine x_iast C hR hK_a128 hS hi133 dX8_field_113 (fun H locs hR hS => ?_)
          obtain ⟨S134, eS134⟩ : ∃ z : sT, z = s_sB S132 a128 (Int32.toNatClampNeg (14 : Int32)) x3 := ⟨_, rfl⟩
          rw [← eS134] at hR
          replace h := h S134 eS134
          have hK_x0 : s_K S134 x0 = 10 := by rw [eS134]; exact hK_x0
          have hK_a121 : s_K S134 a121 = 9 := by rw [eS134]; exact hK_a121
          have hK_a123 : s_K S134 a123 = 9 := by rw [eS134]; exact hK_a123
          have hK_a124 : s_K S134 a124 = 13 := by rw [eS134]; exact hK_a124
          have hK_a122 : s_K S134 a122 = 13 := by rw [eS134]; exact hK_a122
          have hK_a128 : s_K S134 a128 = 11 := by rw [eS134]; exact hK_a128
          refine lv_aload hx hb dX8_field_114 (lv_at hl 0 rfl) ?_
          refine lv_bipush (v := 9) hx hb dX8_field_116 (by decide) ?_
          refine lv_bipush (v := 20) hx hb dX8_field_118 (by decide) ?_
          obtain ⟨hi135, h⟩ := h
          refine x_iast C hR hK_a128 hS hi135 dX8_field_120 (fun H locs hR hS => ?_)
          obtain ⟨S136, eS136⟩ : ∃ z : sT, z = s_sB S134 a128 (Int32.toNatClampNeg (9 : Int32)) (20 : Int32) := ⟨_, rfl⟩
          rw [← eS136] at hR
          replace h := h S136 eS136
          have hK_x0 : s_K S136 x0 = 10 := by rw [eS136]; exact hK_x0
          have hK_a121 : s_K S136 a121 = 9 := by rw [eS136]; exact hK_a121
          have hK_a123 : s_K S136 a123 = 9 := by rw [eS136]; exact hK_a123
          have hK_a124 : s_K S136 a124 = 13 := by rw [eS136]; exact hK_a124
          have hK_a122 : s_K S136 a122 = 13 := by rw [eS136]; exact hK_a122
          have hK_a128 : s_K S136 a128 = 11 := by rw [eS136]; exact hK_a128
          refine lv_aload hx hb dX8_field_121 (lv_at hl 0 rfl) ?_
          refine lv_bipush (v := 17) hx hb dX8_field_123 (by decide) ?_
          refine lv_bipush (v := 20) hx hb dX8_field_125 (by decide) ?_
          obtain ⟨hi137, h⟩ := h
          refine x_iast C hR hK_a128 hS hi137 dX8_field_127 (fun H locs hR hS => ?_)
          obtain ⟨S138, eS138⟩ : ∃ z : sT, z = s_sB S136 a128 (Int32.toNatClampNeg (17 : Int32)) (20 : Int32) := ⟨_, rfl⟩
          rw [← eS138] at hR
          replace h := h S138 eS138
          have hK_x0 : s_K S138 x0 = 10 := by rw [eS138]; exact hK_x0
          have hK_a121 : s_K S138 a121 = 9 := by rw [eS138]; exact hK_a121
          have hK_a123 : s_K S138 a123 = 9 := by rw [eS138]; exact hK_a123
          have hK_a124 : s_K S138 a124 = 13 := by rw [eS138]; exact hK_a124
          have hK_a122 : s_K S138 a122 = 13 := by rw [eS138]; exact hK_a122
          have hK_a128 : s_K S138 a128 = 11 := by rw [eS138]; exact hK_a128
          refine lv_aload hx hb dX8_field_128 (lv_at hl 0 rfl) ?_
          refine lv_bipush (v := 21) hx hb dX8_field_130 (by decide) ?_
          refine lv_bipush (v := 120) hx hb dX8_field_132 (by decide) ?_
          obtain ⟨hi139, h⟩ := h
          refine x_iast C hR hK_a128 hS hi139 dX8_field_134 (fun H locs hR hS => ?_)
          obtain ⟨S140, eS140⟩ : ∃ z : sT, z = s_sB S138 a128 (Int32.toNatClampNeg (21 : Int32)) (120 : Int32) := ⟨_, rfl⟩
          rw [← eS140] at hR
          replace h := h S140 eS140
          have hK_x0 : s_K S140 x0 = 10 := by rw [eS140]; exact hK_x0
          have hK_a121 : s_K S140 a121 = 9 := by rw [eS140]; exact hK_a121
          have hK_a123 : s_K S140 a123 = 9 := by rw [eS140]; exact hK_a123
          have hK_a124 : s_K S140 a124 = 13 := by rw [eS140]; exact hK_a124
          have hK_a122 : s_K S140 a122 = 13 := by rw [eS140]; exact hK_a122
          have hK_a128 : s_K S140 a128 = 11 := by rw [eS140]; exact hK_a128
          refine lv_aload_n hx hb dX8_field_135 rfl (lv_at hl 1 rfl) ?_
          refine x_g_289 C hR hK_x0 q_3_8 dX8_field_136 ?_
          obtain ⟨a141, ea141, h⟩ := h
          refine x_some ea141 ?_
          obtain ⟨hK_a141, h⟩ := h
          refine x_gN_257 C hR hK_a141 (xn_1 C) dX8_field_139 ?_
          obtain ⟨a142, ea142, h⟩ := h
          refine x_some ea142 ?_
          obtain ⟨hK_a142, h⟩ := h
          refine x_alen13 C hR hK_a142 dX8_field_142 ?_
          refine lv_topi (fun x143 ex143 => ?_)
          replace h := h x143 ex143
          refine lv_iconst (v := 1) hx hb dX8_field_143 (by decide) ?_
          refine lv_isub hx hb dX8_field_144 ?_
          refine lv_topi (fun x144 ex144 => ?_)
          replace h := h x144 ex144
          refine W.widen (k := mc) (n := ms) hk.1 hk.2 ?_
          exact W.iret (v := x144) hx hb hr (fun t ht hW => ⟨⟨x144, S140, rfl, h, x_rt ht hR⟩, hS.F ht⟩) hS.2.2 dX8_field_145
        · replace h := h.2 hc114
          refine lv_aload_n hx hb dX8_field_58 rfl (lv_at hl 0 rfl) ?_
          refine lv_iconst (v := 3) hx hb dX8_field_59 (by decide) ?_
          refine x_ki (x_runV (As := [.int (3 : Int32)]) (rest := []) C hml hR hS (m_X8_refuse l gg x0 (3 : Int32) S108 h) b_X8_refuse q_8_5 (by rw [hK_x0]; decide) (s_E_9 hK_x0) rfl rfl rfl rfl ⟨Nat.le_of_ble_eq_true rfl, Nat.le_of_ble_eq_true rfl⟩ rfl hl.1 (Nat.le_of_ble_eq_true rfl) dX8_field_60 ⟨hk.1, hk.2⟩) hS (fun x146 S145 H locs hn hR hS => ?_)
          replace h := hn
          clear hn
          refine W.widen (k := mc) (n := ms) hk.1 hk.2 ?_
          exact W.iret (v := x146) hx hb hr (fun t ht hW => ⟨⟨x146, S145, rfl, h, x_rt ht hR⟩, hS.F ht⟩) hS.2.2 dX8_field_63
      · replace h := h.2 hc110
        exact tA_X8_field_b39 C hml hr hlocks hk  h H locs ls hR hS (lv_sub (l' := [(0, .ref x0)]) hl [0] rfl)
  · replace h := h.2 hc104
    refine lv_aload_n hx hb dX8_field_13 rfl (lv_at hl 0 rfl) ?_
    refine lv_iconst (v := 1) hx hb dX8_field_14 (by decide) ?_
    obtain ⟨hK_x0, h⟩ := h
    refine x_ki (x_runV (As := [.int (1 : Int32)]) (rest := []) C hml hR hS (m_X8_refuse l gg x0 (1 : Int32) S102 h) b_X8_refuse q_8_5 (by rw [hK_x0]; decide) (s_E_9 hK_x0) rfl rfl rfl rfl ⟨Nat.le_of_ble_eq_true rfl, Nat.le_of_ble_eq_true rfl⟩ rfl hl.1 (Nat.le_of_ble_eq_true rfl) dX8_field_15 ⟨hk.1, hk.2⟩) hS (fun x148 S147 H locs hn hR hS => ?_)
    replace h := hn
    clear hn
    refine W.widen (k := mc) (n := ms) hk.1 hk.2 ?_
    exact W.iret (v := x148) hx hb hr (fun t ht hW => ⟨⟨x148, S147, rfl, h, x_rt ht hR⟩, hS.F ht⟩) hS.2.2 dX8_field_18
theorem mA_X8_field (l : Launch) (gg : sG) (mc ms : Nat) (x0 : Nat) (x1 : Int32) (x2 : Int32) (x3 : Int32) (S : sT) {Q : Int32 → sT → Prop} (h : wA_X8_field mc ms x0 x1 x2 x3 S Q) : x_Mi l gg yX8_field (x_ws yX8_field cX8_field 5 (some .int)) (rA_X8_field mc ms) [.ref x0, .int x1, .int x2, .int x3] S Q mc ms := by
  refine x_ofW (cc := cX8_field) (own := RX8) (by decide +kernel) rfl (Nat.le_of_ble_eq_true rfl) ?_
  intro p e s m args below meth c C hml hr hlocks hin ht H locs ls hR hS hl
  exact tA_X8_field_b0 C hml hr hlocks ⟨Nat.zero_le _, Nat.zero_le _⟩ h H locs ls hR hS (lv_sub (l' := [(0, .ref x0), (1, .int x1), (2, .int x2), (3, .int x3)]) hl [0, 1, 2, 3] rfl)
end
