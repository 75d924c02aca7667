section
variable {p : Program} {l : Launch} {e : Env} {s : State} {m : MethodId} {args : Array Value} {below : List Frame} {meth : Method} {c : Code} {gg : sG}
def w_X6_checkDays_b0 (x0 : Int32) (x1 : Int32) (S : sT)  (Q : sT → Prop) : Prop :=
w_X6_isWithin x0 (1 : Int32) x1 S (fun x102 S101 =>
    ((¬ x102 = 0 → Q S101) ∧
    (x102 = 0 → False)))
def w_X6_checkDays (x0 : Int32) (x1 : Int32) (S : sT) (Q : sT → Prop) : Prop := w_X6_checkDays_b0 x0 x1 S Q
def r_X6_checkDays : Room := x_rm 1 22 0 0
theorem b_X6_checkDays : x_BS yX6_checkDays cX6_checkDays 2 none 2 := ⟨q_28_10, q_28_9, q_1_2, by decide +kernel⟩
set_option maxHeartbeats 4000000 in
theorem t_X6_checkDays_b0 {Q : sT → Prop} (C : x_C p s m args c cX6_checkDays RX6 gg) (hml : c.maxLocals = 2) (hr : meth.sig.returnType = none) (hlocks : meth.locks = false) {x0 : Int32} {x1 : Int32}  {S : sT}  (h : w_X6_checkDays_b0 x0 x1 S  Q) : x_X p l e r_X6_checkDays s m args below meth c gg 2 0 0 (MQ below (va_Qv Q (fun S1 t => s_Rep gg S1 t.heap) (s_A gg)) args s 0 0 (s_A gg)) 0 [(0, .int x0), (1, .int x1)] [] S := by
  unfold w_X6_checkDays_b0 at h
  obtain ⟨hx, hb, -⟩ := id C
  intro H locs ls hR hS hl
  refine lv_iload_n hx hb dX6_checkDays_0 rfl (lv_at hl 0 rfl) ?_
  refine lv_iconst (v := 1) hx hb dX6_checkDays_1 (by decide) ?_
  refine lv_iload_n hx hb dX6_checkDays_2 rfl (lv_at hl 1 rfl) ?_
  refine x_ki (x_runS (As := [.int x0, .int (1 : Int32), .int x1]) (rest := []) C hml hR hS (m_X6_isWithin l gg x0 (1 : Int32) x1 S h) b_X6_isWithin q_3_15 rfl rfl ⟨Nat.le_of_ble_eq_true rfl, Nat.le_of_ble_eq_true rfl⟩ rfl hl.1 (Nat.le_of_ble_eq_true rfl) dX6_checkDays_3 ⟨Nat.le_refl _, Nat.le_refl _⟩) hS (fun x102 S101 H locs hn hR hS => ?_)
  replace h := hn
  clear hn
  refine lv_if_ne (tgt := 20) hx hb dX6_checkDays_6 (by decide) (fun hc103 => ?_) (fun hc103 => ?_)
  · replace h := h.1 hc103
    exact W.vret hx hb hr (fun t ht hW => ⟨⟨S101, rfl, h, x_rt ht hR⟩, hS.F ht⟩) hS.2.2 dX6_checkDays_20
  · replace h := h.2 hc103
    exact h.elim
theorem m_X6_checkDays (l : Launch) (gg : sG) (x0 : Int32) (x1 : Int32) (S : sT) {Q : sT → Prop} (h : w_X6_checkDays x0 x1 S Q) : x_Mv l gg yX6_checkDays (x_ws yX6_checkDays cX6_checkDays 2 none) r_X6_checkDays [.int x0, .int x1] S Q 0 0 := by
  refine x_ofW (cc := cX6_checkDays) (own := RX6) (by decide +kernel) rfl (Nat.le_of_ble_eq_true rfl) ?_
  intro p e s m args below meth c C hml hr hlocks hin ht H locs ls hR hS hl
  exact t_X6_checkDays_b0 C hml hr hlocks h H locs ls hR hS (lv_sub (l' := [(0, .int x0), (1, .int x1)]) hl [0, 1] rfl)
def w_X6_ripeIn_b27  (Q : Int32 → sT → Prop) : Nat → Nat → Int32 → Int32 → Int32 → sT → Prop
  | 0 => fun _ _ _ _ _ => False
  | n + 1 => fun x0 x1 x2 x3 S =>
((x1 < x3 → Q (-1 : Int32) S) ∧
    (¬ x1 < x3 → s_K S x0 = 8 ∧
    ∃ a102 : Nat, s_R S 225 x0 = some a102 ∧
    ∃ a103 : Nat, s_R S 224 x0 = some a103 ∧
    s_K S a103 = 4 ∧
    ∀ x104 : Int32, x104 = s_I S 103 a103 →
    ∃ a105 : Nat, s_R S 224 x0 = some a105 ∧
    s_K S a105 = 4 ∧
    ∀ x106 : Int32, x106 = s_I S 104 a105 →
    ∃ a107 : Nat, s_R S 224 x0 = some a107 ∧
    s_K S a107 = 4 ∧
    ∀ x108 : Int32, x108 = s_I S 105 a107 →
    s_K S a102 = 4 ∧
    w_X2_passDay a102 x104 x106 x108 S (fun S109 =>
    s_K S109 x0 = 8 ∧
    ∃ a110 : Nat, s_R S109 225 x0 = some a110 ∧
    s_K S109 a110 = 4 ∧
    w_X2_countRipe a110 S109 (fun x112 S111 =>
    ((x112 ≤ x2 → ∀ x114 : Int32, x114 = x3 + 1 →
    w_X6_ripeIn_b27  Q n x0 x1 x2 x114 S111) ∧
    (¬ x112 ≤ x2 → Q x3 S111))))))
def w_X6_ripeIn_b0 (x0 : Nat) (x1 : Int32) (S : sT)  (Q : Int32 → sT → Prop) : Prop :=
w_X6_checkDays x1 (40 : Int32) S (fun S101 =>
    s_K S101 x0 = 8 ∧
    ∃ a102 : Nat, s_R S101 225 x0 = some a102 ∧
    ∃ a103 : Nat, s_R S101 224 x0 = some a103 ∧
    s_K S101 a102 = 4 ∧
    w_X2_copyFrom a102 a103 S101 (fun S104 =>
    s_K S104 x0 = 8 ∧
    ∃ a105 : Nat, s_R S104 224 x0 = some a105 ∧
    s_K S104 a105 = 4 ∧
    w_X2_countRipe a105 S104 (fun x107 S106 =>
    ∃ n9 : Nat, w_X6_ripeIn_b27  Q n9 x0 x1 x107 (1 : Int32) S106)))
def w_X6_ripeIn (x0 : Nat) (x1 : Int32) (S : sT) (Q : Int32 → sT → Prop) : Prop := w_X6_ripeIn_b0 x0 x1 S Q
def r_X6_ripeIn : Room := x_rm 6 139 0 0
theorem b_X6_ripeIn : x_BV yX6_ripeIn cX6_ripeIn 4 (some .int) 1 := ⟨q_28_7, q_28_5, q_28_6, q_1_2, by decide +kernel⟩
set_option maxHeartbeats 4000000 in
theorem t_X6_ripeIn_b27 {Q : Int32 → sT → Prop} (C : x_C p s m args c cX6_ripeIn RX6 gg) (hml : c.maxLocals = 4) (hr : meth.sig.returnType = (some .int)) (hlocks : meth.locks = false)   : ∀ (n : Nat) (x0 : Nat) (x1 : Int32) (x2 : Int32) (x3 : Int32) (S : sT), w_X6_ripeIn_b27  Q n x0 x1 x2 x3 S → x_X p l e r_X6_ripeIn s m args below meth c gg 4 0 0 (MQ below (va_Qi Q (fun S1 t => s_Rep gg S1 t.heap) (s_A gg)) args s 0 0 (s_A gg)) 27 [(0, .ref x0), (1, .int x1), (2, .int x2), (3, .int x3)] [] S := by
  obtain ⟨hx, hb, -⟩ := id C
  intro n
  induction n with
  | zero => intro x0 x1 x2 x3 S h; exact absurd h id
  | succ n ih =>
    intro x0 x1 x2 x3 S h H locs ls hR hS hl
    unfold w_X6_ripeIn_b27 at h
    refine lv_iload_n hx hb dX6_ripeIn_27 rfl (lv_at hl 3 rfl) ?_
    refine lv_iload_n hx hb dX6_ripeIn_28 rfl (lv_at hl 1 rfl) ?_
    refine lv_icmp_gt (tgt := 79) hx hb dX6_ripeIn_29 (by decide) (fun hc101 => ?_) (fun hc101 => ?_)
    · replace h := h.1 hc101
      refine lv_iconst (v := (-1)) hx hb dX6_ripeIn_79 (by decide) ?_
      exact W.iret (v := (-1 : Int32)) hx hb hr (fun t ht hW => ⟨⟨(-1 : Int32), S, rfl, h, x_rt ht hR⟩, hS.F ht⟩) hS.2.2 dX6_ripeIn_80
    · replace h := h.2 hc101
      refine lv_aload_n hx hb dX6_ripeIn_32 rfl (lv_at hl 0 rfl) ?_
      obtain ⟨hK_x0, h⟩ := h
      refine x_g_225 C hR hK_x0 q_1_14 dX6_ripeIn_33 ?_
      obtain ⟨a102, ea102, h⟩ := h
      refine x_some ea102 ?_
      refine lv_aload_n hx hb dX6_ripeIn_36 rfl (lv_at hl 0 rfl) ?_
      refine x_g_224 C hR hK_x0 q_1_13 dX6_ripeIn_37 ?_
      obtain ⟨a103, ea103, h⟩ := h
      refine x_some ea103 ?_
      obtain ⟨hK_a103, h⟩ := h
      refine x_g_103 C hR hK_a103 q_26_23 dX6_ripeIn_40 ?_
      refine lv_topi (fun x104 ex104 => ?_)
      replace h := h x104 ex104
      refine lv_aload_n hx hb dX6_ripeIn_43 rfl (lv_at hl 0 rfl) ?_
      refine x_g_224 C hR hK_x0 q_1_13 dX6_ripeIn_44 ?_
      obtain ⟨a105, ea105, h⟩ := h
      refine x_some ea105 ?_
      obtain ⟨hK_a105, h⟩ := h
      refine x_g_104 C hR hK_a105 q_27_0 dX6_ripeIn_47 ?_
      refine lv_topi (fun x106 ex106 => ?_)
      replace h := h x106 ex106
      refine lv_aload_n hx hb dX6_ripeIn_50 rfl (lv_at hl 0 rfl) ?_
      refine x_g_224 C hR hK_x0 q_1_13 dX6_ripeIn_51 ?_
      obtain ⟨a107, ea107, h⟩ := h
      refine x_some ea107 ?_
      obtain ⟨hK_a107, h⟩ := h
      refine x_g_105 C hR hK_a107 q_27_1 dX6_ripeIn_54 ?_
      refine lv_topi (fun x108 ex108 => ?_)
      replace h := h x108 ex108
      obtain ⟨hK_a102, h⟩ := h
      refine x_kv (x_runV (As := [.int x104, .int x106, .int x108]) (rest := []) C hml hR hS (m_X2_passDay l gg a102 x104 x106 x108 S h) b_X2_passDay q_20_3 (by rw [hK_a102]; decide) (s_E_3 hK_a102) rfl rfl rfl rfl ⟨Nat.le_of_ble_eq_true rfl, Nat.le_of_ble_eq_true rfl⟩ rfl hl.1 (Nat.le_of_ble_eq_true rfl) dX6_ripeIn_57 ⟨Nat.le_refl _, Nat.le_refl _⟩) hS (fun S109 H locs hn hR hS => ?_)
      replace h := hn
      clear hn
      refine lv_aload_n hx hb dX6_ripeIn_60 rfl (lv_at hl 0 rfl) ?_
      obtain ⟨hK_x0, h⟩ := h
      refine x_g_225 C hR hK_x0 q_1_14 dX6_ripeIn_61 ?_
      obtain ⟨a110, ea110, h⟩ := h
      refine x_some ea110 ?_
      obtain ⟨hK_a110, h⟩ := h
      refine x_ki (x_runV (As := []) (rest := []) C hml hR hS (m_X2_countRipe l gg a110 S109 h) b_X2_countRipe q_28_11 (by rw [hK_a110]; decide) (s_E_3 hK_a110) rfl rfl rfl rfl ⟨Nat.le_of_ble_eq_true rfl, Nat.le_of_ble_eq_true rfl⟩ rfl hl.1 (Nat.le_of_ble_eq_true rfl) dX6_ripeIn_64 ⟨Nat.le_refl _, Nat.le_refl _⟩) hS (fun x112 S111 H locs hn hR hS => ?_)
      replace h := hn
      clear hn
      refine lv_iload_n hx hb dX6_ripeIn_67 rfl (lv_at hl 2 rfl) ?_
      refine lv_icmp_le (tgt := 73) hx hb dX6_ripeIn_68 (by decide) (fun hc113 => ?_) (fun hc113 => ?_)
      · replace h := h.1 hc113
        obtain ⟨x114, ex114⟩ : ∃ z : Int32, z = x3 + 1 := ⟨_, rfl⟩
        replace h := h x114 ex114
        refine lv_iinc (v := x114) (lv' := [(3, .int x114), (0, .ref x0), (1, .int x1), (2, .int x2)]) hx hb dX6_ripeIn_73 hl (k := 3) rfl (by rw [ex114]; rfl) (by decide) rfl (fun ls hl => ?_)
        refine lv_goto (tgt := 27) hx hb dX6_ripeIn_76 (by decide) ?_
        exact ih x0 x1 x2 x114 S111 h H locs ls hR hS (lv_sub (l' := [(0, .ref x0), (1, .int x1), (2, .int x2), (3, .int x114)]) hl [1, 2, 3, 0] rfl)
      · replace h := h.2 hc113
        refine lv_iload_n hx hb dX6_ripeIn_71 rfl (lv_at hl 3 rfl) ?_
        exact W.iret (v := x3) hx hb hr (fun t ht hW => ⟨⟨x3, S111, rfl, h, x_rt ht hR⟩, hS.F ht⟩) hS.2.2 dX6_ripeIn_72
set_option maxHeartbeats 4000000 in
theorem t_X6_ripeIn_b0 {Q : Int32 → sT → Prop} (C : x_C p s m args c cX6_ripeIn RX6 gg) (hml : c.maxLocals = 4) (hr : meth.sig.returnType = (some .int)) (hlocks : meth.locks = false) {x0 : Nat} {x1 : Int32}  {S : sT}  (h : w_X6_ripeIn_b0 x0 x1 S  Q) : x_X p l e r_X6_ripeIn s m args below meth c gg 4 0 0 (MQ below (va_Qi Q (fun S1 t => s_Rep gg S1 t.heap) (s_A gg)) args s 0 0 (s_A gg)) 0 [(0, .ref x0), (1, .int x1)] [] S := by
  unfold w_X6_ripeIn_b0 at h
  obtain ⟨hx, hb, -⟩ := id C
  intro H locs ls hR hS hl
  refine lv_iload_n hx hb dX6_ripeIn_0 rfl (lv_at hl 1 rfl) ?_
  refine lv_bipush (v := 40) hx hb dX6_ripeIn_1 (by decide) ?_
  refine x_kv (x_runS (As := [.int x1, .int (40 : Int32)]) (rest := []) C hml hR hS (m_X6_checkDays l gg x1 (40 : Int32) S h) b_X6_checkDays q_28_8 rfl rfl ⟨Nat.le_of_ble_eq_true rfl, Nat.le_of_ble_eq_true rfl⟩ rfl hl.1 (Nat.le_of_ble_eq_true rfl) dX6_ripeIn_3 ⟨Nat.le_refl _, Nat.le_refl _⟩) hS (fun S101 H locs hn hR hS => ?_)
  replace h := hn
  clear hn
  refine lv_aload_n hx hb dX6_ripeIn_6 rfl (lv_at hl 0 rfl) ?_
  obtain ⟨hK_x0, h⟩ := h
  refine x_g_225 C hR hK_x0 q_1_14 dX6_ripeIn_7 ?_
  obtain ⟨a102, ea102, h⟩ := h
  refine x_some ea102 ?_
  refine lv_aload_n hx hb dX6_ripeIn_10 rfl (lv_at hl 0 rfl) ?_
  refine x_g_224 C hR hK_x0 q_1_13 dX6_ripeIn_11 ?_
  obtain ⟨a103, ea103, h⟩ := h
  refine x_some ea103 ?_
  obtain ⟨hK_a102, h⟩ := h
  refine x_kv (x_runV (As := [.ref a103]) (rest := []) C hml hR hS (m_X2_copyFrom l gg a102 a103 S101 h) b_X2_copyFrom q_27_2 (by rw [hK_a102]; decide) (s_E_3 hK_a102) rfl rfl rfl rfl ⟨Nat.le_of_ble_eq_true rfl, Nat.le_of_ble_eq_true rfl⟩ rfl hl.1 (Nat.le_of_ble_eq_true rfl) dX6_ripeIn_14 ⟨Nat.le_refl _, Nat.le_refl _⟩) hS (fun S104 H locs hn hR hS => ?_)
  replace h := hn
  clear hn
  refine lv_aload_n hx hb dX6_ripeIn_17 rfl (lv_at hl 0 rfl) ?_
  obtain ⟨hK_x0, h⟩ := h
  refine x_g_224 C hR hK_x0 q_1_13 dX6_ripeIn_18 ?_
  obtain ⟨a105, ea105, h⟩ := h
  refine x_some ea105 ?_
  obtain ⟨hK_a105, h⟩ := h
  refine x_ki (x_runV (As := []) (rest := []) C hml hR hS (m_X2_countRipe l gg a105 S104 h) b_X2_countRipe q_28_11 (by rw [hK_a105]; decide) (s_E_3 hK_a105) rfl rfl rfl rfl ⟨Nat.le_of_ble_eq_true rfl, Nat.le_of_ble_eq_true rfl⟩ rfl hl.1 (Nat.le_of_ble_eq_true rfl) dX6_ripeIn_21 ⟨Nat.le_refl _, Nat.le_refl _⟩) hS (fun x107 S106 H locs hn hR hS => ?_)
  replace h := hn
  clear hn
  refine lv_istore_n (lv' := [(2, .int x107), (0, .ref x0), (1, .int x1)]) hx hb dX6_ripeIn_24 rfl hl (by decide) rfl (fun ls hl => ?_)
  refine lv_iconst (v := 1) hx hb dX6_ripeIn_25 (by decide) ?_
  refine lv_istore_n (lv' := [(3, .int (1 : Int32)), (2, .int x107), (0, .ref x0), (1, .int x1)]) hx hb dX6_ripeIn_26 rfl hl (by decide) rfl (fun ls hl => ?_)
  obtain ⟨n9, h⟩ := h
  exact t_X6_ripeIn_b27 C hml hr hlocks  n9 x0 x1 x107 (1 : Int32) S106 h H locs ls hR hS (lv_sub (l' := [(0, .ref x0), (1, .int x1), (2, .int x107), (3, .int (1 : Int32))]) hl [2, 3, 1, 0] rfl)
theorem m_X6_ripeIn (l : Launch) (gg : sG) (x0 : Nat) (x1 : Int32) (S : sT) {Q : Int32 → sT → Prop} (h : w_X6_ripeIn x0 x1 S Q) : x_Mi l gg yX6_ripeIn (x_ws yX6_ripeIn cX6_ripeIn 4 (some .int)) r_X6_ripeIn [.ref x0, .int x1] S Q 0 0 := by
  refine x_ofW (cc := cX6_ripeIn) (own := RX6) (by decide +kernel) rfl (Nat.le_of_ble_eq_true rfl) ?_
  intro p e s m args below meth c C hml hr hlocks hin ht H locs ls hR hS hl
  exact t_X6_ripeIn_b0 C hml hr hlocks h H locs ls hR hS (lv_sub (l' := [(0, .ref x0), (1, .int x1)]) hl [0, 1] rfl)
def w_X6_plan_b80 (x0 : Nat) (x1 : Int32) (x2 : Int32) (x3 : Int32) (x4 : Int32) (x5 : Int32) (x6 : Int32) (S : sT) (kk49 : Nat → Int32 → Int32 → Int32 → Int32 → Int32 → Int32 → sT → Prop) (Q : Int32 → sT → Prop) : Prop :=
∀ x101 : Int32, x101 = x6 + 1 →
    kk49 x0 x1 x2 x3 x4 x5 x101 S
def w_X6_plan_b49  (Q : Int32 → sT → Prop) : Nat → Nat → Int32 → Int32 → Int32 → Int32 → Int32 → Int32 → sT → Prop
  | 0 => fun _ _ _ _ _ _ _ _ => False
  | n + 1 => fun x0 x1 x2 x3 x4 x5 x6 S =>
((x3 ≤ x6 → Q x4 S) ∧
    (¬ x3 ≤ x6 → s_K S x0 = 8 ∧
    w_X6_yieldByPlan x0 x6 x1 x2 S (fun x103 S102 =>
    ((x103 ≤ x5 → w_X6_plan_b80 x0 x1 x2 x3 x4 x5 x6 S102 (fun x0 x1 x2 x3 x4 x5 x6 S => w_X6_plan_b49  Q n x0 x1 x2 x3 x4 x5 x6 S) Q) ∧
    (¬ x103 ≤ x5 → w_X6_plan_b80 x0 x1 x2 x3 x6 x103 x6 S102 (fun x0 x1 x2 x3 x4 x5 x6 S => w_X6_plan_b49  Q n x0 x1 x2 x3 x4 x5 x6 S) Q)))))
def w_X6_plan_b15  (Q : Int32 → sT → Prop) : Nat → Nat → Int32 → Int32 → Int32 → Int32 → sT → Prop
  | 0 => fun _ _ _ _ _ _ => False
  | n + 1 => fun x0 x1 x2 x3 x4 S =>
s_K S x0 = 8 ∧
    ∃ a101 : Nat, s_R S 224 x0 = some a101 ∧
    s_K S a101 = 4 ∧
    ∃ a102 : Nat, s_R S 96 a101 = some a102 ∧
    s_K S a102 = 1 ∧
    w_Jx4a65c_size_8abf5 a102 S (fun x104 S103 =>
    ((x104 ≤ x4 → ∃ n9 : Nat, w_X6_plan_b49  Q n9 x0 x1 x2 x3 (0 : Int32) (-1 : Int32) (0 : Int32) S103) ∧
    (¬ x104 ≤ x4 → ∀ x106 : Int32, x106 = x3 * (3 : Int32) →
    ∀ x107 : Int32, x107 = x4 + 1 →
    w_X6_plan_b15  Q n x0 x1 x2 x106 x107 S103)))
def w_X6_plan_b0 (x0 : Nat) (x1 : Int32) (x2 : Int32) (S : sT)  (Q : Int32 → sT → Prop) : Prop :=
w_X6_checkKind x1 S (fun S101 =>
    w_X6_checkDays x2 (30 : Int32) S101 (fun S102 =>
    ∃ n9 : Nat, w_X6_plan_b15  Q n9 x0 x1 x2 (1 : Int32) (0 : Int32) S102))
def w_X6_plan (x0 : Nat) (x1 : Int32) (x2 : Int32) (S : sT) (Q : Int32 → sT → Prop) : Prop := w_X6_plan_b0 x0 x1 x2 S Q
def r_X6_plan : Room := x_rm 7 163 0 0
theorem b_X6_plan : x_BV yX6_plan cX6_plan 8 (some .int) 2 := ⟨q_28_18, q_28_16, q_28_17, q_1_2, by decide +kernel⟩
set_option maxHeartbeats 4000000 in
theorem t_X6_plan_b80 {Q : Int32 → sT → Prop} (C : x_C p s m args c cX6_plan RX6 gg) (hml : c.maxLocals = 8) (hr : meth.sig.returnType = (some .int)) (hlocks : meth.locks = false) {x0 : Nat} {x1 : Int32} {x2 : Int32} {x3 : Int32} {x4 : Int32} {x5 : Int32} {x6 : Int32} {kk49 : Nat → Int32 → Int32 → Int32 → Int32 → Int32 → Int32 → sT → Prop} {S : sT} (hk49 : ∀ (x0 : Nat) (x1 : Int32) (x2 : Int32) (x3 : Int32) (x4 : Int32) (x5 : Int32) (x6 : Int32) (S : sT), kk49 x0 x1 x2 x3 x4 x5 x6 S → x_X p l e r_X6_plan s m args below meth c gg 8 0 0 (MQ below (va_Qi Q (fun S1 t => s_Rep gg S1 t.heap) (s_A gg)) args s 0 0 (s_A gg)) 49 [(0, .ref x0), (1, .int x1), (2, .int x2), (3, .int x3), (4, .int x4), (5, .int x5), (6, .int x6)] [] S) (h : w_X6_plan_b80 x0 x1 x2 x3 x4 x5 x6 S kk49 Q) : x_X p l e r_X6_plan s m args below meth c gg 8 0 0 (MQ below (va_Qi Q (fun S1 t => s_Rep gg S1 t.heap) (s_A gg)) args s 0 0 (s_A gg)) 80 [(0, .ref x0), (1, .int x1), (2, .int x2), (3, .int x3), (4, .int x4), (5, .int x5), (6, .int x6)] [] S := by
  unfold w_X6_plan_b80 at h
  obtain ⟨hx, hb, -⟩ := id C
  intro H locs ls hR hS hl
  obtain ⟨x101, ex101⟩ : ∃ z : Int32, z = x6 + 1 := ⟨_, rfl⟩
  replace h := h x101 ex101
  refine lv_iinc (v := x101) (lv' := [(6, .int x101), (0, .ref x0), (1, .int x1), (2, .int x2), (3, .int x3), (4, .int x4), (5, .int x5)]) hx hb dX6_plan_80 hl (k := 6) rfl (by rw [ex101]; rfl) (by decide) rfl (fun ls hl => ?_)
  refine lv_goto (tgt := 49) hx hb dX6_plan_83 (by decide) ?_
  exact hk49 x0 x1 x2 x3 x4 x5 x101 S h H locs ls hR hS (lv_sub (l' := [(0, .ref x0), (1, .int x1), (2, .int x2), (3, .int x3), (4, .int x4), (5, .int x5), (6, .int x101)]) hl [1, 2, 3, 4, 5, 6, 0] rfl)
set_option maxHeartbeats 4000000 in
theorem t_X6_plan_b49 {Q : Int32 → sT → Prop} (C : x_C p s m args c cX6_plan RX6 gg) (hml : c.maxLocals = 8) (hr : meth.sig.returnType = (some .int)) (hlocks : meth.locks = false)   : ∀ (n : Nat) (x0 : Nat) (x1 : Int32) (x2 : Int32) (x3 : Int32) (x4 : Int32) (x5 : Int32) (x6 : Int32) (S : sT), w_X6_plan_b49  Q n x0 x1 x2 x3 x4 x5 x6 S → x_X p l e r_X6_plan s m args below meth c gg 8 0 0 (MQ below (va_Qi Q (fun S1 t => s_Rep gg S1 t.heap) (s_A gg)) args s 0 0 (s_A gg)) 49 [(0, .ref x0), (1, .int x1), (2, .int x2), (3, .int x3), (4, .int x4), (5, .int x5), (6, .int x6)] [] S := by
  obtain ⟨hx, hb, -⟩ := id C
  intro n
  induction n with
  | zero => intro x0 x1 x2 x3 x4 x5 x6 S h; exact absurd h id
  | succ n ih =>
    intro x0 x1 x2 x3 x4 x5 x6 S h H locs ls hR hS hl
    unfold w_X6_plan_b49 at h
    refine lv_iload hx hb dX6_plan_49 (lv_at hl 6 rfl) ?_
    refine lv_iload_n hx hb dX6_plan_51 rfl (lv_at hl 3 rfl) ?_
    refine lv_icmp_ge (tgt := 86) hx hb dX6_plan_52 (by decide) (fun hc101 => ?_) (fun hc101 => ?_)
    · replace h := h.1 hc101
      refine lv_iload hx hb dX6_plan_86 (lv_at hl 4 rfl) ?_
      exact W.iret (v := x4) hx hb hr (fun t ht hW => ⟨⟨x4, S, rfl, h, x_rt ht hR⟩, hS.F ht⟩) hS.2.2 dX6_plan_88
    · replace h := h.2 hc101
      refine lv_aload_n hx hb dX6_plan_55 rfl (lv_at hl 0 rfl) ?_
      refine lv_iload hx hb dX6_plan_56 (lv_at hl 6 rfl) ?_
      refine lv_iload_n hx hb dX6_plan_58 rfl (lv_at hl 1 rfl) ?_
      refine lv_iload_n hx hb dX6_plan_59 rfl (lv_at hl 2 rfl) ?_
      obtain ⟨hK_x0, h⟩ := h
      refine x_ki (x_runV (As := [.int x6, .int x1, .int x2]) (rest := []) C hml hR hS (m_X6_yieldByPlan l gg x0 x6 x1 x2 S h) b_X6_yieldByPlan q_28_19 (by rw [hK_x0]; decide) (s_E_7 hK_x0) rfl rfl rfl rfl ⟨Nat.le_of_ble_eq_true rfl, Nat.le_of_ble_eq_true rfl⟩ rfl hl.1 (Nat.le_of_ble_eq_true rfl) dX6_plan_60 ⟨Nat.le_refl _, Nat.le_refl _⟩) hS (fun x103 S102 H locs hn hR hS => ?_)
      replace h := hn
      clear hn
      refine lv_istore (lv' := [(7, .int x103), (0, .ref x0), (1, .int x1), (2, .int x2), (3, .int x3), (4, .int x4), (5, .int x5), (6, .int x6)]) hx hb dX6_plan_63 hl (by decide) rfl (fun ls hl => ?_)
      refine lv_iload hx hb dX6_plan_65 (lv_at hl 0 rfl) ?_
      refine lv_iload hx hb dX6_plan_67 (lv_at hl 6 rfl) ?_
      refine lv_icmp_le (tgt := 80) hx hb dX6_plan_69 (by decide) (fun hc104 => ?_) (fun hc104 => ?_)
      · replace h := h.1 hc104
        exact t_X6_plan_b80 C hml hr hlocks (fun x0 x1 x2 x3 x4 x5 x6 S h => ih x0 x1 x2 x3 x4 x5 x6 S h) h H locs ls hR hS (lv_sub (l' := [(0, .ref x0), (1, .int x1), (2, .int x2), (3, .int x3), (4, .int x4), (5, .int x5), (6, .int x6)]) hl [1, 2, 3, 4, 5, 6, 7] rfl)
      · replace h := h.2 hc104
        refine lv_iload hx hb dX6_plan_72 (lv_at hl 0 rfl) ?_
        refine lv_istore (lv' := [(5, .int x103), (7, .int x103), (0, .ref x0), (1, .int x1), (2, .int x2), (3, .int x3), (4, .int x4), (6, .int x6)]) hx hb dX6_plan_74 hl (by decide) rfl (fun ls hl => ?_)
        refine lv_iload hx hb dX6_plan_76 (lv_at hl 7 rfl) ?_
        refine lv_istore (lv' := [(4, .int x6), (5, .int x103), (7, .int x103), (0, .ref x0), (1, .int x1), (2, .int x2), (3, .int x3), (6, .int x6)]) hx hb dX6_plan_78 hl (by decide) rfl (fun ls hl => ?_)
        exact t_X6_plan_b80 C hml hr hlocks (fun x0 x1 x2 x3 x4 x5 x6 S h => ih x0 x1 x2 x3 x4 x5 x6 S h) h H locs ls hR hS (lv_sub (l' := [(0, .ref x0), (1, .int x1), (2, .int x2), (3, .int x3), (4, .int x6), (5, .int x103), (6, .int x6)]) hl [3, 4, 5, 6, 0, 1, 7] rfl)
set_option maxHeartbeats 4000000 in
theorem t_X6_plan_b15 {Q : Int32 → sT → Prop} (C : x_C p s m args c cX6_plan RX6 gg) (hml : c.maxLocals = 8) (hr : meth.sig.returnType = (some .int)) (hlocks : meth.locks = false)   : ∀ (n : Nat) (x0 : Nat) (x1 : Int32) (x2 : Int32) (x3 : Int32) (x4 : Int32) (S : sT), w_X6_plan_b15  Q n x0 x1 x2 x3 x4 S → x_X p l e r_X6_plan s m args below meth c gg 8 0 0 (MQ below (va_Qi Q (fun S1 t => s_Rep gg S1 t.heap) (s_A gg)) args s 0 0 (s_A gg)) 15 [(0, .ref x0), (1, .int x1), (2, .int x2), (3, .int x3), (4, .int x4)] [] S := by
  obtain ⟨hx, hb, -⟩ := id C
  intro n
  induction n with
  | zero => intro x0 x1 x2 x3 x4 S h; exact absurd h id
  | succ n ih =>
    intro x0 x1 x2 x3 x4 S h H locs ls hR hS hl
    unfold w_X6_plan_b15 at h
    refine lv_iload hx hb dX6_plan_15 (lv_at hl 4 rfl) ?_
    refine lv_aload_n hx hb dX6_plan_17 rfl (lv_at hl 0 rfl) ?_
    obtain ⟨hK_x0, h⟩ := h
    refine x_g_224 C hR hK_x0 q_1_13 dX6_plan_18 ?_
    obtain ⟨a101, ea101, h⟩ := h
    refine x_some ea101 ?_
    obtain ⟨hK_a101, h⟩ := h
    refine x_g_96 C hR hK_a101 q_3_14 dX6_plan_21 ?_
    obtain ⟨a102, ea102, h⟩ := h
    refine x_some ea102 ?_
    obtain ⟨hK_a102, h⟩ := h
    refine x_ki (x_runV (As := []) (rest := [.int x4]) C hml hR hS (m_Jx4a65c_size_8abf5 l gg a102 S h) b_Jx4a65c_size_8abf5 q_3_18 (by rw [hK_a102]; decide) (s_E_0 hK_a102) rfl rfl rfl rfl ⟨Nat.le_of_ble_eq_true rfl, Nat.le_of_ble_eq_true rfl⟩ rfl hl.1 (Nat.le_of_ble_eq_true rfl) dX6_plan_24 ⟨Nat.le_refl _, Nat.le_refl _⟩) hS (fun x104 S103 H locs hn hR hS => ?_)
    replace h := hn
    clear hn
    refine lv_icmp_ge (tgt := 40) hx hb dX6_plan_27 (by decide) (fun hc105 => ?_) (fun hc105 => ?_)
    · replace h := h.1 hc105
      refine lv_iconst (v := 0) hx hb dX6_plan_40 (by decide) ?_
      refine lv_istore (lv' := [(4, .int (0 : Int32)), (0, .ref x0), (1, .int x1), (2, .int x2), (3, .int x3)]) hx hb dX6_plan_41 hl (by decide) rfl (fun ls hl => ?_)
      refine lv_iconst (v := (-1)) hx hb dX6_plan_43 (by decide) ?_
      refine lv_istore (lv' := [(5, .int (-1 : Int32)), (4, .int (0 : Int32)), (0, .ref x0), (1, .int x1), (2, .int x2), (3, .int x3)]) hx hb dX6_plan_44 hl (by decide) rfl (fun ls hl => ?_)
      refine lv_iconst (v := 0) hx hb dX6_plan_46 (by decide) ?_
      refine lv_istore (lv' := [(6, .int (0 : Int32)), (5, .int (-1 : Int32)), (4, .int (0 : Int32)), (0, .ref x0), (1, .int x1), (2, .int x2), (3, .int x3)]) hx hb dX6_plan_47 hl (by decide) rfl (fun ls hl => ?_)
      obtain ⟨n9, h⟩ := h
      exact t_X6_plan_b49 C hml hr hlocks  n9 x0 x1 x2 x3 (0 : Int32) (-1 : Int32) (0 : Int32) S103 h H locs ls hR hS (lv_sub (l' := [(0, .ref x0), (1, .int x1), (2, .int x2), (3, .int x3), (4, .int (0 : Int32)), (5, .int (-1 : Int32)), (6, .int (0 : Int32))]) hl [3, 4, 5, 6, 2, 1, 0] rfl)
    · replace h := h.2 hc105
      refine lv_iload_n hx hb dX6_plan_30 rfl (lv_at hl 3 rfl) ?_
      refine lv_iconst (v := 3) hx hb dX6_plan_31 (by decide) ?_
      refine lv_imul hx hb dX6_plan_32 ?_
      refine lv_topi (fun x106 ex106 => ?_)
      replace h := h x106 ex106
      refine lv_istore_n (lv' := [(3, .int x106), (0, .ref x0), (1, .int x1), (2, .int x2), (4, .int x4)]) hx hb dX6_plan_33 rfl hl (by decide) rfl (fun ls hl => ?_)
      obtain ⟨x107, ex107⟩ : ∃ z : Int32, z = x4 + 1 := ⟨_, rfl⟩
      replace h := h x107 ex107
      refine lv_iinc (v := x107) (lv' := [(4, .int x107), (3, .int x106), (0, .ref x0), (1, .int x1), (2, .int x2)]) hx hb dX6_plan_34 hl (k := 4) rfl (by rw [ex107]; rfl) (by decide) rfl (fun ls hl => ?_)
      refine lv_goto (tgt := 15) hx hb dX6_plan_37 (by decide) ?_
      exact ih x0 x1 x2 x106 x107 S103 h H locs ls hR hS (lv_sub (l' := [(0, .ref x0), (1, .int x1), (2, .int x2), (3, .int x106), (4, .int x107)]) hl [2, 3, 4, 1, 0] rfl)
set_option maxHeartbeats 4000000 in
theorem t_X6_plan_b0 {Q : Int32 → sT → Prop} (C : x_C p s m args c cX6_plan RX6 gg) (hml : c.maxLocals = 8) (hr : meth.sig.returnType = (some .int)) (hlocks : meth.locks = false) {x0 : Nat} {x1 : Int32} {x2 : Int32}  {S : sT}  (h : w_X6_plan_b0 x0 x1 x2 S  Q) : x_X p l e r_X6_plan s m args below meth c gg 8 0 0 (MQ below (va_Qi Q (fun S1 t => s_Rep gg S1 t.heap) (s_A gg)) args s 0 0 (s_A gg)) 0 [(0, .ref x0), (1, .int x1), (2, .int x2)] [] S := by
  unfold w_X6_plan_b0 at h
  obtain ⟨hx, hb, -⟩ := id C
  intro H locs ls hR hS hl
  refine lv_iload_n hx hb dX6_plan_0 rfl (lv_at hl 1 rfl) ?_
  refine x_kv (x_runS (As := [.int x1]) (rest := []) C hml hR hS (m_X6_checkKind l gg x1 S h) b_X6_checkKind q_18_1 rfl rfl ⟨Nat.le_of_ble_eq_true rfl, Nat.le_of_ble_eq_true rfl⟩ rfl hl.1 (Nat.le_of_ble_eq_true rfl) dX6_plan_1 ⟨Nat.le_refl _, Nat.le_refl _⟩) hS (fun S101 H locs hn hR hS => ?_)
  replace h := hn
  clear hn
  refine lv_iload_n hx hb dX6_plan_4 rfl (lv_at hl 2 rfl) ?_
  refine lv_bipush (v := 30) hx hb dX6_plan_5 (by decide) ?_
  refine x_kv (x_runS (As := [.int x2, .int (30 : Int32)]) (rest := []) C hml hR hS (m_X6_checkDays l gg x2 (30 : Int32) S101 h) b_X6_checkDays q_28_8 rfl rfl ⟨Nat.le_of_ble_eq_true rfl, Nat.le_of_ble_eq_true rfl⟩ rfl hl.1 (Nat.le_of_ble_eq_true rfl) dX6_plan_7 ⟨Nat.le_refl _, Nat.le_refl _⟩) hS (fun S102 H locs hn hR hS => ?_)
  replace h := hn
  clear hn
  refine lv_iconst (v := 1) hx hb dX6_plan_10 (by decide) ?_
  refine lv_istore_n (lv' := [(3, .int (1 : Int32)), (0, .ref x0), (1, .int x1), (2, .int x2)]) hx hb dX6_plan_11 rfl hl (by decide) rfl (fun ls hl => ?_)
  refine lv_iconst (v := 0) hx hb dX6_plan_12 (by decide) ?_
  refine lv_istore (lv' := [(4, .int (0 : Int32)), (3, .int (1 : Int32)), (0, .ref x0), (1, .int x1), (2, .int x2)]) hx hb dX6_plan_13 hl (by decide) rfl (fun ls hl => ?_)
  obtain ⟨n9, h⟩ := h
  exact t_X6_plan_b15 C hml hr hlocks  n9 x0 x1 x2 (1 : Int32) (0 : Int32) S102 h H locs ls hR hS (lv_sub (l' := [(0, .ref x0), (1, .int x1), (2, .int x2), (3, .int (1 : Int32)), (4, .int (0 : Int32))]) hl [2, 3, 4, 1, 0] rfl)
theorem m_X6_plan (l : Launch) (gg : sG) (x0 : Nat) (x1 : Int32) (x2 : Int32) (S : sT) {Q : Int32 → sT → Prop} (h : w_X6_plan x0 x1 x2 S Q) : x_Mi l gg yX6_plan (x_ws yX6_plan cX6_plan 8 (some .int)) r_X6_plan [.ref x0, .int x1, .int x2] S Q 0 0 := by
  refine x_ofW (cc := cX6_plan) (own := RX6) (by decide +kernel) rfl (Nat.le_of_ble_eq_true rfl) ?_
  intro p e s m args below meth c C hml hr hlocks hin ht H locs ls hR hS hl
  exact t_X6_plan_b0 C hml hr hlocks h H locs ls hR hS (lv_sub (l' := [(0, .ref x0), (1, .int x1), (2, .int x2)]) hl [0, 1, 2] rfl)
def w_X6_mixField_b36  (Q : Int64 → sT → Prop) : Nat → Nat → Int32 → Int64 → Int32 → sT → Prop
  | 0 => fun _ _ _ _ _ => False
  | n + 1 => fun x0 x3 x4 x6 S =>
(((3 : Int32) < x6 → s_K S x0 = 8 ∧
    w_X6_thought x0 x3 (0 : Int32) S (fun x103 S102 =>
    w_X6_mix x4 x103 S102 (fun j105 S104 =>
    s_K S104 x0 = 8 ∧
    w_X6_thought x0 x3 (1 : Int32) S104 (fun x107 S106 =>
    w_X6_mix j105 x107 S106 (fun j109 S108 =>
    s_K S108 x0 = 8 ∧
    ∃ a110 : Nat, s_R S108 225 x0 = some a110 ∧
    s_K S108 a110 = 4 ∧
    w_X2_yieldOf a110 x3 S108 (fun x112 S111 =>
    w_X6_mix j109 x112 S111 (fun j114 S113 =>
    Q j114 S113))))))) ∧
    (¬ (3 : Int32) < x6 → s_K S x0 = 8 ∧
    w_X6_ofOwner x0 x3 x6 S (fun x116 S115 =>
    w_X6_mix x4 x116 S115 (fun j118 S117 =>
    ∀ x119 : Int32, x119 = x6 + 1 →
    w_X6_mixField_b36  Q n x0 x3 j118 x119 S117))))
def w_X6_mixField_b6  (Q : Int64 → sT → Prop) : Nat → Nat → Int32 → Int64 → Int32 → sT → Prop
  | 0 => fun _ _ _ _ _ => False
  | n + 1 => fun x0 x3 x4 x6 S =>
(((13 : Int32) < x6 → ∃ n9 : Nat, w_X6_mixField_b36  Q n9 x0 x3 x4 (0 : Int32) S) ∧
    (¬ (13 : Int32) < x6 → s_K S x0 = 8 ∧
    w_X6_ofField x0 x3 x6 S (fun x103 S102 =>
    w_X6_mix x4 x103 S102 (fun j105 S104 =>
    ∀ x106 : Int32, x106 = x6 + 1 →
    w_X6_mixField_b6  Q n x0 x3 j105 x106 S104))))
def w_X6_mixField_b0 (x0 : Nat) (x1 : Int64) (x3 : Int32) (S : sT)  (Q : Int64 → sT → Prop) : Prop :=
∃ n9 : Nat, w_X6_mixField_b6  Q n9 x0 x3 x1 (0 : Int32) S
def w_X6_mixField (x0 : Nat) (x1 : Int64) (x3 : Int32) (S : sT) (Q : Int64 → sT → Prop) : Prop := w_X6_mixField_b0 x0 x1 x3 S Q
def r_X6_mixField : Room := x_rm 5 108 0 0
theorem b_X6_mixField : x_BV yX6_mixField cX6_mixField 7 (some .long) 2 := ⟨q_27_21, q_27_19, q_27_20, q_1_2, by decide +kernel⟩
set_option maxHeartbeats 4000000 in
theorem t_X6_mixField_b36 {Q : Int64 → sT → Prop} (C : x_C p s m args c cX6_mixField RX6 gg) (hml : c.maxLocals = 7) (hr : meth.sig.returnType = (some .long)) (hlocks : meth.locks = false)   : ∀ (n : Nat) (x0 : Nat) (x3 : Int32) (x4 : Int64) (x6 : Int32) (S : sT), w_X6_mixField_b36  Q n x0 x3 x4 x6 S → x_X p l e r_X6_mixField s m args below meth c gg 7 0 0 (MQ below (va_Ql Q (fun S1 t => s_Rep gg S1 t.heap) (s_A gg)) args s 0 0 (s_A gg)) 36 [(0, .ref x0), (3, .int x3), (4, .long x4), (6, .int x6)] [] S := by
  obtain ⟨hx, hb, -⟩ := id C
  intro n
  induction n with
  | zero => intro x0 x3 x4 x6 S h; exact absurd h id
  | succ n ih =>
    intro x0 x3 x4 x6 S h H locs ls hR hS hl
    unfold w_X6_mixField_b36 at h
    refine lv_iload hx hb dX6_mixField_36 (lv_at hl 3 rfl) ?_
    refine lv_iconst (v := 3) hx hb dX6_mixField_38 (by decide) ?_
    refine lv_icmp_gt (tgt := 62) hx hb dX6_mixField_39 (by decide) (fun hc101 => ?_) (fun hc101 => ?_)
    · replace h := h.1 hc101
      refine lv_lload hx hb dX6_mixField_62 (lv_at hl 2 rfl) ?_
      refine lv_aload_n hx hb dX6_mixField_64 rfl (lv_at hl 0 rfl) ?_
      refine lv_iload_n hx hb dX6_mixField_65 rfl (lv_at hl 1 rfl) ?_
      refine lv_iconst (v := 0) hx hb dX6_mixField_66 (by decide) ?_
      obtain ⟨hK_x0, h⟩ := h
      refine x_ki (x_runV (As := [.int x3, .int (0 : Int32)]) (rest := [.long x4]) C hml hR hS (m_X6_thought l gg x0 x3 (0 : Int32) S h) b_X6_thought q_27_22 (by rw [hK_x0]; decide) (s_E_7 hK_x0) rfl rfl rfl rfl ⟨Nat.le_of_ble_eq_true rfl, Nat.le_of_ble_eq_true rfl⟩ rfl hl.1 (Nat.le_of_ble_eq_true rfl) dX6_mixField_67 ⟨Nat.le_refl _, Nat.le_refl _⟩) hS (fun x103 S102 H locs hn hR hS => ?_)
      replace h := hn
      clear hn
      refine x_kl (x_runS (As := [.long x4, .int x103]) (rest := []) C hml hR hS (m_X6_mix l gg x4 x103 S102 h) b_X6_mix q_26_8 rfl rfl ⟨Nat.le_of_ble_eq_true rfl, Nat.le_of_ble_eq_true rfl⟩ rfl hl.1 (Nat.le_of_ble_eq_true rfl) dX6_mixField_70 ⟨Nat.le_refl _, Nat.le_refl _⟩) hS (fun j105 S104 H locs hn hR hS => ?_)
      replace h := hn
      clear hn
      refine lv_lstore (lv' := [(4, .long j105), (0, .ref x0), (3, .int x3), (6, .int x6)]) hx hb dX6_mixField_73 hl (by decide) rfl (fun ls hl => ?_)
      refine lv_lload hx hb dX6_mixField_75 (lv_at hl 0 rfl) ?_
      refine lv_aload_n hx hb dX6_mixField_77 rfl (lv_at hl 1 rfl) ?_
      refine lv_iload_n hx hb dX6_mixField_78 rfl (lv_at hl 2 rfl) ?_
      refine lv_iconst (v := 1) hx hb dX6_mixField_79 (by decide) ?_
      obtain ⟨hK_x0, h⟩ := h
      refine x_ki (x_runV (As := [.int x3, .int (1 : Int32)]) (rest := [.long j105]) C hml hR hS (m_X6_thought l gg x0 x3 (1 : Int32) S104 h) b_X6_thought q_27_22 (by rw [hK_x0]; decide) (s_E_7 hK_x0) rfl rfl rfl rfl ⟨Nat.le_of_ble_eq_true rfl, Nat.le_of_ble_eq_true rfl⟩ rfl hl.1 (Nat.le_of_ble_eq_true rfl) dX6_mixField_80 ⟨Nat.le_refl _, Nat.le_refl _⟩) hS (fun x107 S106 H locs hn hR hS => ?_)
      replace h := hn
      clear hn
      refine x_kl (x_runS (As := [.long j105, .int x107]) (rest := []) C hml hR hS (m_X6_mix l gg j105 x107 S106 h) b_X6_mix q_26_8 rfl rfl ⟨Nat.le_of_ble_eq_true rfl, Nat.le_of_ble_eq_true rfl⟩ rfl hl.1 (Nat.le_of_ble_eq_true rfl) dX6_mixField_83 ⟨Nat.le_refl _, Nat.le_refl _⟩) hS (fun j109 S108 H locs hn hR hS => ?_)
      replace h := hn
      clear hn
      refine lv_lstore (lv' := [(4, .long j109), (0, .ref x0), (3, .int x3), (6, .int x6)]) hx hb dX6_mixField_86 hl (by decide) rfl (fun ls hl => ?_)
      refine lv_lload hx hb dX6_mixField_88 (lv_at hl 0 rfl) ?_
      refine lv_aload_n hx hb dX6_mixField_90 rfl (lv_at hl 1 rfl) ?_
      obtain ⟨hK_x0, h⟩ := h
      refine x_g_225 C hR hK_x0 q_1_14 dX6_mixField_91 ?_
      obtain ⟨a110, ea110, h⟩ := h
      refine x_some ea110 ?_
      refine lv_iload_n hx hb dX6_mixField_94 rfl (lv_at hl 2 rfl) ?_
      obtain ⟨hK_a110, h⟩ := h
      refine x_ki (x_runV (As := [.int x3]) (rest := [.long j109]) C hml hR hS (m_X2_yieldOf l gg a110 x3 S108 h) b_X2_yieldOf q_27_23 (by rw [hK_a110]; decide) (s_E_3 hK_a110) rfl rfl rfl rfl ⟨Nat.le_of_ble_eq_true rfl, Nat.le_of_ble_eq_true rfl⟩ rfl hl.1 (Nat.le_of_ble_eq_true rfl) dX6_mixField_95 ⟨Nat.le_refl _, Nat.le_refl _⟩) hS (fun x112 S111 H locs hn hR hS => ?_)
      replace h := hn
      clear hn
      refine x_kl (x_runS (As := [.long j109, .int x112]) (rest := []) C hml hR hS (m_X6_mix l gg j109 x112 S111 h) b_X6_mix q_26_8 rfl rfl ⟨Nat.le_of_ble_eq_true rfl, Nat.le_of_ble_eq_true rfl⟩ rfl hl.1 (Nat.le_of_ble_eq_true rfl) dX6_mixField_98 ⟨Nat.le_refl _, Nat.le_refl _⟩) hS (fun j114 S113 H locs hn hR hS => ?_)
      replace h := hn
      clear hn
      exact W.lret (v := j114) hx hb hr (fun t ht hW => ⟨⟨j114, S113, rfl, h, x_rt ht hR⟩, hS.F ht⟩) hS.2.2 dX6_mixField_101
    · replace h := h.2 hc101
      refine lv_lload hx hb dX6_mixField_42 (lv_at hl 2 rfl) ?_
      refine lv_aload_n hx hb dX6_mixField_44 rfl (lv_at hl 0 rfl) ?_
      refine lv_iload_n hx hb dX6_mixField_45 rfl (lv_at hl 1 rfl) ?_
      refine lv_iload hx hb dX6_mixField_46 (lv_at hl 3 rfl) ?_
      obtain ⟨hK_x0, h⟩ := h
      refine x_ki (x_runV (As := [.int x3, .int x6]) (rest := [.long x4]) C hml hR hS (m_X6_ofOwner l gg x0 x3 x6 S h) b_X6_ofOwner q_17_11 (by rw [hK_x0]; decide) (s_E_7 hK_x0) rfl rfl rfl rfl ⟨Nat.le_of_ble_eq_true rfl, Nat.le_of_ble_eq_true rfl⟩ rfl hl.1 (Nat.le_of_ble_eq_true rfl) dX6_mixField_48 ⟨Nat.le_refl _, Nat.le_refl _⟩) hS (fun x116 S115 H locs hn hR hS => ?_)
      replace h := hn
      clear hn
      refine x_kl (x_runS (As := [.long x4, .int x116]) (rest := []) C hml hR hS (m_X6_mix l gg x4 x116 S115 h) b_X6_mix q_26_8 rfl rfl ⟨Nat.le_of_ble_eq_true rfl, Nat.le_of_ble_eq_true rfl⟩ rfl hl.1 (Nat.le_of_ble_eq_true rfl) dX6_mixField_51 ⟨Nat.le_refl _, Nat.le_refl _⟩) hS (fun j118 S117 H locs hn hR hS => ?_)
      replace h := hn
      clear hn
      refine lv_lstore (lv' := [(4, .long j118), (0, .ref x0), (3, .int x3), (6, .int x6)]) hx hb dX6_mixField_54 hl (by decide) rfl (fun ls hl => ?_)
      obtain ⟨x119, ex119⟩ : ∃ z : Int32, z = x6 + 1 := ⟨_, rfl⟩
      replace h := h x119 ex119
      refine lv_iinc (v := x119) (lv' := [(6, .int x119), (4, .long j118), (0, .ref x0), (3, .int x3)]) hx hb dX6_mixField_56 hl (k := 3) rfl (by rw [ex119]; rfl) (by decide) rfl (fun ls hl => ?_)
      refine lv_goto (tgt := 36) hx hb dX6_mixField_59 (by decide) ?_
      exact ih x0 x3 j118 x119 S117 h H locs ls hR hS (lv_sub (l' := [(0, .ref x0), (3, .int x3), (4, .long j118), (6, .int x119)]) hl [2, 3, 1, 0] rfl)
set_option maxHeartbeats 4000000 in
theorem t_X6_mixField_b6 {Q : Int64 → sT → Prop} (C : x_C p s m args c cX6_mixField RX6 gg) (hml : c.maxLocals = 7) (hr : meth.sig.returnType = (some .long)) (hlocks : meth.locks = false)   : ∀ (n : Nat) (x0 : Nat) (x3 : Int32) (x4 : Int64) (x6 : Int32) (S : sT), w_X6_mixField_b6  Q n x0 x3 x4 x6 S → x_X p l e r_X6_mixField s m args below meth c gg 7 0 0 (MQ below (va_Ql Q (fun S1 t => s_Rep gg S1 t.heap) (s_A gg)) args s 0 0 (s_A gg)) 6 [(0, .ref x0), (3, .int x3), (4, .long x4), (6, .int x6)] [] S := by
  obtain ⟨hx, hb, -⟩ := id C
  intro n
  induction n with
  | zero => intro x0 x3 x4 x6 S h; exact absurd h id
  | succ n ih =>
    intro x0 x3 x4 x6 S h H locs ls hR hS hl
    unfold w_X6_mixField_b6 at h
    refine lv_iload hx hb dX6_mixField_6 (lv_at hl 3 rfl) ?_
    refine lv_bipush (v := 13) hx hb dX6_mixField_8 (by decide) ?_
    refine lv_icmp_gt (tgt := 33) hx hb dX6_mixField_10 (by decide) (fun hc101 => ?_) (fun hc101 => ?_)
    · replace h := h.1 hc101
      refine lv_iconst (v := 0) hx hb dX6_mixField_33 (by decide) ?_
      refine lv_istore (lv' := [(6, .int (0 : Int32)), (0, .ref x0), (3, .int x3), (4, .long x4)]) hx hb dX6_mixField_34 hl (by decide) rfl (fun ls hl => ?_)
      obtain ⟨n9, h⟩ := h
      exact t_X6_mixField_b36 C hml hr hlocks  n9 x0 x3 x4 (0 : Int32) S h H locs ls hR hS (lv_sub (l' := [(0, .ref x0), (3, .int x3), (4, .long x4), (6, .int (0 : Int32))]) hl [1, 2, 3, 0] rfl)
    · replace h := h.2 hc101
      refine lv_lload hx hb dX6_mixField_13 (lv_at hl 2 rfl) ?_
      refine lv_aload_n hx hb dX6_mixField_15 rfl (lv_at hl 0 rfl) ?_
      refine lv_iload_n hx hb dX6_mixField_16 rfl (lv_at hl 1 rfl) ?_
      refine lv_iload hx hb dX6_mixField_17 (lv_at hl 3 rfl) ?_
      obtain ⟨hK_x0, h⟩ := h
      refine x_ki (x_runV (As := [.int x3, .int x6]) (rest := [.long x4]) C hml hR hS (m_X6_ofField l gg x0 x3 x6 S h) b_X6_ofField q_17_6 (by rw [hK_x0]; decide) (s_E_7 hK_x0) rfl rfl rfl rfl ⟨Nat.le_of_ble_eq_true rfl, Nat.le_of_ble_eq_true rfl⟩ rfl hl.1 (Nat.le_of_ble_eq_true rfl) dX6_mixField_19 ⟨Nat.le_refl _, Nat.le_refl _⟩) hS (fun x103 S102 H locs hn hR hS => ?_)
      replace h := hn
      clear hn
      refine x_kl (x_runS (As := [.long x4, .int x103]) (rest := []) C hml hR hS (m_X6_mix l gg x4 x103 S102 h) b_X6_mix q_26_8 rfl rfl ⟨Nat.le_of_ble_eq_true rfl, Nat.le_of_ble_eq_true rfl⟩ rfl hl.1 (Nat.le_of_ble_eq_true rfl) dX6_mixField_22 ⟨Nat.le_refl _, Nat.le_refl _⟩) hS (fun j105 S104 H locs hn hR hS => ?_)
      replace h := hn
      clear hn
      refine lv_lstore (lv' := [(4, .long j105), (0, .ref x0), (3, .int x3), (6, .int x6)]) hx hb dX6_mixField_25 hl (by decide) rfl (fun ls hl => ?_)
      obtain ⟨x106, ex106⟩ : ∃ z : Int32, z = x6 + 1 := ⟨_, rfl⟩
      replace h := h x106 ex106
      refine lv_iinc (v := x106) (lv' := [(6, .int x106), (4, .long j105), (0, .ref x0), (3, .int x3)]) hx hb dX6_mixField_27 hl (k := 3) rfl (by rw [ex106]; rfl) (by decide) rfl (fun ls hl => ?_)
      refine lv_goto (tgt := 6) hx hb dX6_mixField_30 (by decide) ?_
      exact ih x0 x3 j105 x106 S104 h H locs ls hR hS (lv_sub (l' := [(0, .ref x0), (3, .int x3), (4, .long j105), (6, .int x106)]) hl [2, 3, 1, 0] rfl)
set_option maxHeartbeats 4000000 in
theorem t_X6_mixField_b0 {Q : Int64 → sT → Prop} (C : x_C p s m args c cX6_mixField RX6 gg) (hml : c.maxLocals = 7) (hr : meth.sig.returnType = (some .long)) (hlocks : meth.locks = false) {x0 : Nat} {x1 : Int64} {x3 : Int32}  {S : sT}  (h : w_X6_mixField_b0 x0 x1 x3 S  Q) : x_X p l e r_X6_mixField s m args below meth c gg 7 0 0 (MQ below (va_Ql Q (fun S1 t => s_Rep gg S1 t.heap) (s_A gg)) args s 0 0 (s_A gg)) 0 [(0, .ref x0), (1, .long x1), (3, .int x3)] [] S := by
  unfold w_X6_mixField_b0 at h
  obtain ⟨hx, hb, -⟩ := id C
  intro H locs ls hR hS hl
  refine lv_lload_n hx hb dX6_mixField_0 rfl (lv_at hl 1 rfl) ?_
  refine lv_lstore (lv' := [(4, .long x1), (0, .ref x0), (1, .long x1), (3, .int x3)]) hx hb dX6_mixField_1 hl (by decide) rfl (fun ls hl => ?_)
  refine lv_iconst (v := 0) hx hb dX6_mixField_3 (by decide) ?_
  refine lv_istore (lv' := [(6, .int (0 : Int32)), (4, .long x1), (0, .ref x0), (1, .long x1), (3, .int x3)]) hx hb dX6_mixField_4 hl (by decide) rfl (fun ls hl => ?_)
  obtain ⟨n9, h⟩ := h
  exact t_X6_mixField_b6 C hml hr hlocks  n9 x0 x3 x1 (0 : Int32) S h H locs ls hR hS (lv_sub (l' := [(0, .ref x0), (3, .int x3), (4, .long x1), (6, .int (0 : Int32))]) hl [2, 4, 1, 0] rfl)
theorem m_X6_mixField (l : Launch) (gg : sG) (x0 : Nat) (x1 : Int64) (x3 : Int32) (S : sT) {Q : Int64 → sT → Prop} (h : w_X6_mixField x0 x1 x3 S Q) : x_Ml l gg yX6_mixField (x_ws yX6_mixField cX6_mixField 7 (some .long)) r_X6_mixField [.ref x0, .long x1, .int x3] S Q 0 0 := by
  refine x_ofW (cc := cX6_mixField) (own := RX6) (by decide +kernel) rfl (Nat.le_of_ble_eq_true rfl) ?_
  intro p e s m args below meth c C hml hr hlocks hin ht H locs ls hR hS hl
  exact t_X6_mixField_b0 C hml hr hlocks h H locs ls hR hS (lv_sub (l' := [(0, .ref x0), (1, .long x1), (3, .int x3)]) hl [0, 1, 2] rfl)
def w_X6_mixSociety_b6  (Q : Int64 → sT → Prop) : Nat → Nat → Int32 → Int64 → Int32 → sT → Prop
  | 0 => fun _ _ _ _ _ => False
  | n + 1 => fun x0 x3 x4 x6 S =>
(((8 : Int32) < x6 → s_K S x0 = 8 ∧
    w_X6_suspect x0 x3 S (fun x103 S102 =>
    w_X6_mix x4 x103 S102 (fun j105 S104 =>
    Q j105 S104))) ∧
    (¬ (8 : Int32) < x6 → s_K S x0 = 8 ∧
    w_X6_ofSociety x0 x3 x6 S (fun x107 S106 =>
    w_X6_mix x4 x107 S106 (fun j109 S108 =>
    ∀ x110 : Int32, x110 = x6 + 1 →
    w_X6_mixSociety_b6  Q n x0 x3 j109 x110 S108))))
def w_X6_mixSociety_b0 (x0 : Nat) (x1 : Int64) (x3 : Int32) (S : sT)  (Q : Int64 → sT → Prop) : Prop :=
∃ n9 : Nat, w_X6_mixSociety_b6  Q n9 x0 x3 x1 (0 : Int32) S
def w_X6_mixSociety (x0 : Nat) (x1 : Int64) (x3 : Int32) (S : sT) (Q : Int64 → sT → Prop) : Prop := w_X6_mixSociety_b0 x0 x1 x3 S Q
def r_X6_mixSociety : Room := x_rm 5 112 0 0
theorem b_X6_mixSociety : x_BV yX6_mixSociety cX6_mixSociety 7 (some .long) 2 := ⟨q_26_17, q_26_15, q_26_16, q_1_2, by decide +kernel⟩
set_option maxHeartbeats 4000000 in
theorem t_X6_mixSociety_b6 {Q : Int64 → sT → Prop} (C : x_C p s m args c cX6_mixSociety RX6 gg) (hml : c.maxLocals = 7) (hr : meth.sig.returnType = (some .long)) (hlocks : meth.locks = false)   : ∀ (n : Nat) (x0 : Nat) (x3 : Int32) (x4 : Int64) (x6 : Int32) (S : sT), w_X6_mixSociety_b6  Q n x0 x3 x4 x6 S → x_X p l e r_X6_mixSociety s m args below meth c gg 7 0 0 (MQ below (va_Ql Q (fun S1 t => s_Rep gg S1 t.heap) (s_A gg)) args s 0 0 (s_A gg)) 6 [(0, .ref x0), (3, .int x3), (4, .long x4), (6, .int x6)] [] S := by
  obtain ⟨hx, hb, -⟩ := id C
  intro n
  induction n with
  | zero => intro x0 x3 x4 x6 S h; exact absurd h id
  | succ n ih =>
    intro x0 x3 x4 x6 S h H locs ls hR hS hl
    unfold w_X6_mixSociety_b6 at h
    refine lv_iload hx hb dX6_mixSociety_6 (lv_at hl 3 rfl) ?_
    refine lv_bipush (v := 8) hx hb dX6_mixSociety_8 (by decide) ?_
    refine lv_icmp_gt (tgt := 33) hx hb dX6_mixSociety_10 (by decide) (fun hc101 => ?_) (fun hc101 => ?_)
    · replace h := h.1 hc101
      refine lv_lload hx hb dX6_mixSociety_33 (lv_at hl 2 rfl) ?_
      refine lv_aload_n hx hb dX6_mixSociety_35 rfl (lv_at hl 0 rfl) ?_
      refine lv_iload_n hx hb dX6_mixSociety_36 rfl (lv_at hl 1 rfl) ?_
      obtain ⟨hK_x0, h⟩ := h
      refine x_ki (x_runV (As := [.int x3]) (rest := [.long x4]) C hml hR hS (m_X6_suspect l gg x0 x3 S h) b_X6_suspect q_26_18 (by rw [hK_x0]; decide) (s_E_7 hK_x0) rfl rfl rfl rfl ⟨Nat.le_of_ble_eq_true rfl, Nat.le_of_ble_eq_true rfl⟩ rfl hl.1 (Nat.le_of_ble_eq_true rfl) dX6_mixSociety_37 ⟨Nat.le_refl _, Nat.le_refl _⟩) hS (fun x103 S102 H locs hn hR hS => ?_)
      replace h := hn
      clear hn
      refine x_kl (x_runS (As := [.long x4, .int x103]) (rest := []) C hml hR hS (m_X6_mix l gg x4 x103 S102 h) b_X6_mix q_26_8 rfl rfl ⟨Nat.le_of_ble_eq_true rfl, Nat.le_of_ble_eq_true rfl⟩ rfl hl.1 (Nat.le_of_ble_eq_true rfl) dX6_mixSociety_40 ⟨Nat.le_refl _, Nat.le_refl _⟩) hS (fun j105 S104 H locs hn hR hS => ?_)
      replace h := hn
      clear hn
      exact W.lret (v := j105) hx hb hr (fun t ht hW => ⟨⟨j105, S104, rfl, h, x_rt ht hR⟩, hS.F ht⟩) hS.2.2 dX6_mixSociety_43
    · replace h := h.2 hc101
      refine lv_lload hx hb dX6_mixSociety_13 (lv_at hl 2 rfl) ?_
      refine lv_aload_n hx hb dX6_mixSociety_15 rfl (lv_at hl 0 rfl) ?_
      refine lv_iload_n hx hb dX6_mixSociety_16 rfl (lv_at hl 1 rfl) ?_
      refine lv_iload hx hb dX6_mixSociety_17 (lv_at hl 3 rfl) ?_
      obtain ⟨hK_x0, h⟩ := h
      refine x_ki (x_runV (As := [.int x3, .int x6]) (rest := [.long x4]) C hml hR hS (m_X6_ofSociety l gg x0 x3 x6 S h) b_X6_ofSociety q_17_16 (by rw [hK_x0]; decide) (s_E_7 hK_x0) rfl rfl rfl rfl ⟨Nat.le_of_ble_eq_true rfl, Nat.le_of_ble_eq_true rfl⟩ rfl hl.1 (Nat.le_of_ble_eq_true rfl) dX6_mixSociety_19 ⟨Nat.le_refl _, Nat.le_refl _⟩) hS (fun x107 S106 H locs hn hR hS => ?_)
      replace h := hn
      clear hn
      refine x_kl (x_runS (As := [.long x4, .int x107]) (rest := []) C hml hR hS (m_X6_mix l gg x4 x107 S106 h) b_X6_mix q_26_8 rfl rfl ⟨Nat.le_of_ble_eq_true rfl, Nat.le_of_ble_eq_true rfl⟩ rfl hl.1 (Nat.le_of_ble_eq_true rfl) dX6_mixSociety_22 ⟨Nat.le_refl _, Nat.le_refl _⟩) hS (fun j109 S108 H locs hn hR hS => ?_)
      replace h := hn
      clear hn
      refine lv_lstore (lv' := [(4, .long j109), (0, .ref x0), (3, .int x3), (6, .int x6)]) hx hb dX6_mixSociety_25 hl (by decide) rfl (fun ls hl => ?_)
      obtain ⟨x110, ex110⟩ : ∃ z : Int32, z = x6 + 1 := ⟨_, rfl⟩
      replace h := h x110 ex110
      refine lv_iinc (v := x110) (lv' := [(6, .int x110), (4, .long j109), (0, .ref x0), (3, .int x3)]) hx hb dX6_mixSociety_27 hl (k := 3) rfl (by rw [ex110]; rfl) (by decide) rfl (fun ls hl => ?_)
      refine lv_goto (tgt := 6) hx hb dX6_mixSociety_30 (by decide) ?_
      exact ih x0 x3 j109 x110 S108 h H locs ls hR hS (lv_sub (l' := [(0, .ref x0), (3, .int x3), (4, .long j109), (6, .int x110)]) hl [2, 3, 1, 0] rfl)
set_option maxHeartbeats 4000000 in
theorem t_X6_mixSociety_b0 {Q : Int64 → sT → Prop} (C : x_C p s m args c cX6_mixSociety RX6 gg) (hml : c.maxLocals = 7) (hr : meth.sig.returnType = (some .long)) (hlocks : meth.locks = false) {x0 : Nat} {x1 : Int64} {x3 : Int32}  {S : sT}  (h : w_X6_mixSociety_b0 x0 x1 x3 S  Q) : x_X p l e r_X6_mixSociety s m args below meth c gg 7 0 0 (MQ below (va_Ql Q (fun S1 t => s_Rep gg S1 t.heap) (s_A gg)) args s 0 0 (s_A gg)) 0 [(0, .ref x0), (1, .long x1), (3, .int x3)] [] S := by
  unfold w_X6_mixSociety_b0 at h
  obtain ⟨hx, hb, -⟩ := id C
  intro H locs ls hR hS hl
  refine lv_lload_n hx hb dX6_mixSociety_0 rfl (lv_at hl 1 rfl) ?_
  refine lv_lstore (lv' := [(4, .long x1), (0, .ref x0), (1, .long x1), (3, .int x3)]) hx hb dX6_mixSociety_1 hl (by decide) rfl (fun ls hl => ?_)
  refine lv_iconst (v := 0) hx hb dX6_mixSociety_3 (by decide) ?_
  refine lv_istore (lv' := [(6, .int (0 : Int32)), (4, .long x1), (0, .ref x0), (1, .long x1), (3, .int x3)]) hx hb dX6_mixSociety_4 hl (by decide) rfl (fun ls hl => ?_)
  obtain ⟨n9, h⟩ := h
  exact t_X6_mixSociety_b6 C hml hr hlocks  n9 x0 x3 x1 (0 : Int32) S h H locs ls hR hS (lv_sub (l' := [(0, .ref x0), (3, .int x3), (4, .long x1), (6, .int (0 : Int32))]) hl [2, 4, 1, 0] rfl)
theorem m_X6_mixSociety (l : Launch) (gg : sG) (x0 : Nat) (x1 : Int64) (x3 : Int32) (S : sT) {Q : Int64 → sT → Prop} (h : w_X6_mixSociety x0 x1 x3 S Q) : x_Ml l gg yX6_mixSociety (x_ws yX6_mixSociety cX6_mixSociety 7 (some .long)) r_X6_mixSociety [.ref x0, .long x1, .int x3] S Q 0 0 := by
  refine x_ofW (cc := cX6_mixSociety) (own := RX6) (by decide +kernel) rfl (Nat.le_of_ble_eq_true rfl) ?_
  intro p e s m args below meth c C hml hr hlocks hin ht H locs ls hR hS hl
  exact t_X6_mixSociety_b0 C hml hr hlocks h H locs ls hR hS (lv_sub (l' := [(0, .ref x0), (1, .long x1), (3, .int x3)]) hl [0, 1, 2] rfl)
def w_X6_digest_b100  (Q : Int64 → sT → Prop) : Nat → Nat → Int64 → Int32 → sT → Prop
  | 0 => fun _ _ _ _ => False
  | n + 1 => fun x0 x1 x3 S =>
s_K S x0 = 8 ∧
    ∃ a101 : Nat, s_R S 224 x0 = some a101 ∧
    s_K S a101 = 4 ∧
    ∃ a102 : Nat, s_R S 97 a101 = some a102 ∧
    s_K S a102 = 1 ∧
    w_Jx4a65c_size_8abf5 a102 S (fun x104 S103 =>
    ((x104 ≤ x3 → s_K S103 x0 = 8 ∧
    w_X6_ripeIn x0 (10 : Int32) S103 (fun x107 S106 =>
    w_X6_mix x1 x107 S106 (fun j109 S108 =>
    s_K S108 x0 = 8 ∧
    w_X6_plan x0 (0 : Int32) (12 : Int32) S108 (fun x111 S110 =>
    w_X6_mix j109 x111 S110 (fun j113 S112 =>
    Q j113 S112))))) ∧
    (¬ x104 ≤ x3 → s_K S103 x0 = 8 ∧
    w_X6_mixField x0 x1 x3 S103 (fun j115 S114 =>
    ∀ x116 : Int32, x116 = x3 + 1 →
    w_X6_digest_b100  Q n x0 j115 x116 S114))))
def w_X6_digest_b66  (Q : Int64 → sT → Prop) : Nat → Nat → Int64 → Int32 → sT → Prop
  | 0 => fun _ _ _ _ => False
  | n + 1 => fun x0 x1 x3 S =>
s_K S x0 = 8 ∧
    ∃ a101 : Nat, s_R S 224 x0 = some a101 ∧
    s_K S a101 = 4 ∧
    ∃ a102 : Nat, s_R S 96 a101 = some a102 ∧
    s_K S a102 = 1 ∧
    w_Jx4a65c_size_8abf5 a102 S (fun x104 S103 =>
    ((x104 ≤ x3 → s_K S103 x0 = 8 ∧
    w_X6_tryDays x0 (5 : Int32) S103 (fun S106 =>
    ∃ n9 : Nat, w_X6_digest_b100  Q n9 x0 x1 (0 : Int32) S106)) ∧
    (¬ x104 ≤ x3 → s_K S103 x0 = 8 ∧
    w_X6_mixSociety x0 x1 x3 S103 (fun j108 S107 =>
    ∀ x109 : Int32, x109 = x3 + 1 →
    w_X6_digest_b66  Q n x0 j108 x109 S107))))
def w_X6_digest_b30  (Q : Int64 → sT → Prop) : Nat → Nat → Int64 → Int32 → sT → Prop
  | 0 => fun _ _ _ _ => False
  | n + 1 => fun x0 x1 x3 S =>
(((6 : Int32) < x3 → s_K S x0 = 8 ∧
    w_X6_isClosed x0 S (fun x103 S102 =>
    w_X6_oneIf x103 S102 (fun x105 S104 =>
    w_X6_mix x1 x105 S104 (fun j107 S106 =>
    ∃ n9 : Nat, w_X6_digest_b66  Q n9 x0 j107 (0 : Int32) S106)))) ∧
    (¬ (6 : Int32) < x3 → s_K S x0 = 8 ∧
    w_X6_water x0 x3 S (fun x109 S108 =>
    w_X6_mix x1 x109 S108 (fun j111 S110 =>
    ∀ x112 : Int32, x112 = x3 + 1 →
    w_X6_digest_b30  Q n x0 j111 x112 S110))))
def w_X6_digest_b6  (Q : Int64 → sT → Prop) : Nat → Nat → Int64 → Int32 → sT → Prop
  | 0 => fun _ _ _ _ => False
  | n + 1 => fun x0 x1 x3 S =>
(((11 : Int32) < x3 → ∃ n9 : Nat, w_X6_digest_b30  Q n9 x0 x1 (0 : Int32) S) ∧
    (¬ (11 : Int32) < x3 → s_K S x0 = 8 ∧
    w_X6_many x0 x3 S (fun x103 S102 =>
    w_X6_mix x1 x103 S102 (fun j105 S104 =>
    ∀ x106 : Int32, x106 = x3 + 1 →
    w_X6_digest_b6  Q n x0 j105 x106 S104))))
def w_X6_digest_b0 (x0 : Nat) (S : sT)  (Q : Int64 → sT → Prop) : Prop :=
∃ n9 : Nat, w_X6_digest_b6  Q n9 x0 (58173 : Int64) (0 : Int32) S
def w_X6_digest (x0 : Nat) (S : sT) (Q : Int64 → sT → Prop) : Prop := w_X6_digest_b0 x0 S Q
def r_X6_digest : Room := x_rm 8 190 0 0
theorem b_X6_digest : x_BV yX6_digest cX6_digest 4 (some .long) 0 := ⟨q_26_5, q_26_3, q_26_4, q_1_2, by decide +kernel⟩
set_option maxHeartbeats 4000000 in
theorem t_X6_digest_b100 {Q : Int64 → sT → Prop} (C : x_C p s m args c cX6_digest RX6 gg) (hml : c.maxLocals = 4) (hr : meth.sig.returnType = (some .long)) (hlocks : meth.locks = false)   : ∀ (n : Nat) (x0 : Nat) (x1 : Int64) (x3 : Int32) (S : sT), w_X6_digest_b100  Q n x0 x1 x3 S → x_X p l e r_X6_digest s m args below meth c gg 4 0 0 (MQ below (va_Ql Q (fun S1 t => s_Rep gg S1 t.heap) (s_A gg)) args s 0 0 (s_A gg)) 100 [(0, .ref x0), (1, .long x1), (3, .int x3)] [] S := by
  obtain ⟨hx, hb, -⟩ := id C
  intro n
  induction n with
  | zero => intro x0 x1 x3 S h; exact absurd h id
  | succ n ih =>
    intro x0 x1 x3 S h H locs ls hR hS hl
    unfold w_X6_digest_b100 at h
    refine lv_iload_n hx hb dX6_digest_100 rfl (lv_at hl 2 rfl) ?_
    refine lv_aload_n hx hb dX6_digest_101 rfl (lv_at hl 0 rfl) ?_
    obtain ⟨hK_x0, h⟩ := h
    refine x_g_224 C hR hK_x0 q_1_13 dX6_digest_102 ?_
    obtain ⟨a101, ea101, h⟩ := h
    refine x_some ea101 ?_
    obtain ⟨hK_a101, h⟩ := h
    refine x_g_97 C hR hK_a101 q_7_5 dX6_digest_105 ?_
    obtain ⟨a102, ea102, h⟩ := h
    refine x_some ea102 ?_
    obtain ⟨hK_a102, h⟩ := h
    refine x_ki (x_runV (As := []) (rest := [.int x3]) C hml hR hS (m_Jx4a65c_size_8abf5 l gg a102 S h) b_Jx4a65c_size_8abf5 q_3_18 (by rw [hK_a102]; decide) (s_E_0 hK_a102) rfl rfl rfl rfl ⟨Nat.le_of_ble_eq_true rfl, Nat.le_of_ble_eq_true rfl⟩ rfl hl.1 (Nat.le_of_ble_eq_true rfl) dX6_digest_108 ⟨Nat.le_refl _, Nat.le_refl _⟩) hS (fun x104 S103 H locs hn hR hS => ?_)
    replace h := hn
    clear hn
    refine lv_icmp_ge (tgt := 127) hx hb dX6_digest_111 (by decide) (fun hc105 => ?_) (fun hc105 => ?_)
    · replace h := h.1 hc105
      refine lv_lload_n hx hb dX6_digest_127 rfl (lv_at hl 1 rfl) ?_
      refine lv_aload_n hx hb dX6_digest_128 rfl (lv_at hl 0 rfl) ?_
      refine lv_bipush (v := 10) hx hb dX6_digest_129 (by decide) ?_
      obtain ⟨hK_x0, h⟩ := h
      refine x_ki (x_runV (As := [.int (10 : Int32)]) (rest := [.long x1]) C hml hR hS (m_X6_ripeIn l gg x0 (10 : Int32) S103 h) b_X6_ripeIn q_28_4 (by rw [hK_x0]; decide) (s_E_7 hK_x0) rfl rfl rfl rfl ⟨Nat.le_of_ble_eq_true rfl, Nat.le_of_ble_eq_true rfl⟩ rfl hl.1 (Nat.le_of_ble_eq_true rfl) dX6_digest_131 ⟨Nat.le_refl _, Nat.le_refl _⟩) hS (fun x107 S106 H locs hn hR hS => ?_)
      replace h := hn
      clear hn
      refine x_kl (x_runS (As := [.long x1, .int x107]) (rest := []) C hml hR hS (m_X6_mix l gg x1 x107 S106 h) b_X6_mix q_26_8 rfl rfl ⟨Nat.le_of_ble_eq_true rfl, Nat.le_of_ble_eq_true rfl⟩ rfl hl.1 (Nat.le_of_ble_eq_true rfl) dX6_digest_134 ⟨Nat.le_refl _, Nat.le_refl _⟩) hS (fun j109 S108 H locs hn hR hS => ?_)
      replace h := hn
      clear hn
      refine lv_lstore_n (lv' := [(1, .long j109), (0, .ref x0), (3, .int x3)]) hx hb dX6_digest_137 rfl hl (by decide) rfl (fun ls hl => ?_)
      refine lv_lload_n hx hb dX6_digest_138 rfl (lv_at hl 0 rfl) ?_
      refine lv_aload_n hx hb dX6_digest_139 rfl (lv_at hl 1 rfl) ?_
      refine lv_iconst (v := 0) hx hb dX6_digest_140 (by decide) ?_
      refine lv_bipush (v := 12) hx hb dX6_digest_141 (by decide) ?_
      obtain ⟨hK_x0, h⟩ := h
      refine x_ki (x_runV (As := [.int (0 : Int32), .int (12 : Int32)]) (rest := [.long j109]) C hml hR hS (m_X6_plan l gg x0 (0 : Int32) (12 : Int32) S108 h) b_X6_plan q_28_15 (by rw [hK_x0]; decide) (s_E_7 hK_x0) rfl rfl rfl rfl ⟨Nat.le_of_ble_eq_true rfl, Nat.le_of_ble_eq_true rfl⟩ rfl hl.1 (Nat.le_of_ble_eq_true rfl) dX6_digest_143 ⟨Nat.le_refl _, Nat.le_refl _⟩) hS (fun x111 S110 H locs hn hR hS => ?_)
      replace h := hn
      clear hn
      refine x_kl (x_runS (As := [.long j109, .int x111]) (rest := []) C hml hR hS (m_X6_mix l gg j109 x111 S110 h) b_X6_mix q_26_8 rfl rfl ⟨Nat.le_of_ble_eq_true rfl, Nat.le_of_ble_eq_true rfl⟩ rfl hl.1 (Nat.le_of_ble_eq_true rfl) dX6_digest_146 ⟨Nat.le_refl _, Nat.le_refl _⟩) hS (fun j113 S112 H locs hn hR hS => ?_)
      replace h := hn
      clear hn
      exact W.lret (v := j113) hx hb hr (fun t ht hW => ⟨⟨j113, S112, rfl, h, x_rt ht hR⟩, hS.F ht⟩) hS.2.2 dX6_digest_149
    · replace h := h.2 hc105
      refine lv_aload_n hx hb dX6_digest_114 rfl (lv_at hl 0 rfl) ?_
      refine lv_lload_n hx hb dX6_digest_115 rfl (lv_at hl 1 rfl) ?_
      refine lv_iload_n hx hb dX6_digest_116 rfl (lv_at hl 2 rfl) ?_
      obtain ⟨hK_x0, h⟩ := h
      refine x_kl (x_runV (As := [.long x1, .int x3]) (rest := []) C hml hR hS (m_X6_mixField l gg x0 x1 x3 S103 h) b_X6_mixField q_27_18 (by rw [hK_x0]; decide) (s_E_7 hK_x0) rfl rfl rfl rfl ⟨Nat.le_of_ble_eq_true rfl, Nat.le_of_ble_eq_true rfl⟩ rfl hl.1 (Nat.le_of_ble_eq_true rfl) dX6_digest_117 ⟨Nat.le_refl _, Nat.le_refl _⟩) hS (fun j115 S114 H locs hn hR hS => ?_)
      replace h := hn
      clear hn
      refine lv_lstore_n (lv' := [(1, .long j115), (0, .ref x0), (3, .int x3)]) hx hb dX6_digest_120 rfl hl (by decide) rfl (fun ls hl => ?_)
      obtain ⟨x116, ex116⟩ : ∃ z : Int32, z = x3 + 1 := ⟨_, rfl⟩
      replace h := h x116 ex116
      refine lv_iinc (v := x116) (lv' := [(3, .int x116), (1, .long j115), (0, .ref x0)]) hx hb dX6_digest_121 hl (k := 2) rfl (by rw [ex116]; rfl) (by decide) rfl (fun ls hl => ?_)
      refine lv_goto (tgt := 100) hx hb dX6_digest_124 (by decide) ?_
      exact ih x0 j115 x116 S114 h H locs ls hR hS (lv_sub (l' := [(0, .ref x0), (1, .long j115), (3, .int x116)]) hl [2, 1, 0] rfl)
set_option maxHeartbeats 4000000 in
theorem t_X6_digest_b66 {Q : Int64 → sT → Prop} (C : x_C p s m args c cX6_digest RX6 gg) (hml : c.maxLocals = 4) (hr : meth.sig.returnType = (some .long)) (hlocks : meth.locks = false)   : ∀ (n : Nat) (x0 : Nat) (x1 : Int64) (x3 : Int32) (S : sT), w_X6_digest_b66  Q n x0 x1 x3 S → x_X p l e r_X6_digest s m args below meth c gg 4 0 0 (MQ below (va_Ql Q (fun S1 t => s_Rep gg S1 t.heap) (s_A gg)) args s 0 0 (s_A gg)) 66 [(0, .ref x0), (1, .long x1), (3, .int x3)] [] S := by
  obtain ⟨hx, hb, -⟩ := id C
  intro n
  induction n with
  | zero => intro x0 x1 x3 S h; exact absurd h id
  | succ n ih =>
    intro x0 x1 x3 S h H locs ls hR hS hl
    unfold w_X6_digest_b66 at h
    refine lv_iload_n hx hb dX6_digest_66 rfl (lv_at hl 2 rfl) ?_
    refine lv_aload_n hx hb dX6_digest_67 rfl (lv_at hl 0 rfl) ?_
    obtain ⟨hK_x0, h⟩ := h
    refine x_g_224 C hR hK_x0 q_1_13 dX6_digest_68 ?_
    obtain ⟨a101, ea101, h⟩ := h
    refine x_some ea101 ?_
    obtain ⟨hK_a101, h⟩ := h
    refine x_g_96 C hR hK_a101 q_3_14 dX6_digest_71 ?_
    obtain ⟨a102, ea102, h⟩ := h
    refine x_some ea102 ?_
    obtain ⟨hK_a102, h⟩ := h
    refine x_ki (x_runV (As := []) (rest := [.int x3]) C hml hR hS (m_Jx4a65c_size_8abf5 l gg a102 S h) b_Jx4a65c_size_8abf5 q_3_18 (by rw [hK_a102]; decide) (s_E_0 hK_a102) rfl rfl rfl rfl ⟨Nat.le_of_ble_eq_true rfl, Nat.le_of_ble_eq_true rfl⟩ rfl hl.1 (Nat.le_of_ble_eq_true rfl) dX6_digest_74 ⟨Nat.le_refl _, Nat.le_refl _⟩) hS (fun x104 S103 H locs hn hR hS => ?_)
    replace h := hn
    clear hn
    refine lv_icmp_ge (tgt := 93) hx hb dX6_digest_77 (by decide) (fun hc105 => ?_) (fun hc105 => ?_)
    · replace h := h.1 hc105
      refine lv_aload_n hx hb dX6_digest_93 rfl (lv_at hl 0 rfl) ?_
      refine lv_iconst (v := 5) hx hb dX6_digest_94 (by decide) ?_
      obtain ⟨hK_x0, h⟩ := h
      refine x_kv (x_runV (As := [.int (5 : Int32)]) (rest := []) C hml hR hS (m_X6_tryDays l gg x0 (5 : Int32) S103 h) b_X6_tryDays q_26_19 (by rw [hK_x0]; decide) (s_E_7 hK_x0) rfl rfl rfl rfl ⟨Nat.le_of_ble_eq_true rfl, Nat.le_of_ble_eq_true rfl⟩ rfl hl.1 (Nat.le_of_ble_eq_true rfl) dX6_digest_95 ⟨Nat.le_refl _, Nat.le_refl _⟩) hS (fun S106 H locs hn hR hS => ?_)
      replace h := hn
      clear hn
      refine lv_iconst (v := 0) hx hb dX6_digest_98 (by decide) ?_
      refine lv_istore_n (lv' := [(3, .int (0 : Int32)), (0, .ref x0), (1, .long x1)]) hx hb dX6_digest_99 rfl hl (by decide) rfl (fun ls hl => ?_)
      obtain ⟨n9, h⟩ := h
      exact t_X6_digest_b100 C hml hr hlocks  n9 x0 x1 (0 : Int32) S106 h H locs ls hR hS (lv_sub (l' := [(0, .ref x0), (1, .long x1), (3, .int (0 : Int32))]) hl [1, 2, 0] rfl)
    · replace h := h.2 hc105
      refine lv_aload_n hx hb dX6_digest_80 rfl (lv_at hl 0 rfl) ?_
      refine lv_lload_n hx hb dX6_digest_81 rfl (lv_at hl 1 rfl) ?_
      refine lv_iload_n hx hb dX6_digest_82 rfl (lv_at hl 2 rfl) ?_
      obtain ⟨hK_x0, h⟩ := h
      refine x_kl (x_runV (As := [.long x1, .int x3]) (rest := []) C hml hR hS (m_X6_mixSociety l gg x0 x1 x3 S103 h) b_X6_mixSociety q_26_14 (by rw [hK_x0]; decide) (s_E_7 hK_x0) rfl rfl rfl rfl ⟨Nat.le_of_ble_eq_true rfl, Nat.le_of_ble_eq_true rfl⟩ rfl hl.1 (Nat.le_of_ble_eq_true rfl) dX6_digest_83 ⟨Nat.le_refl _, Nat.le_refl _⟩) hS (fun j108 S107 H locs hn hR hS => ?_)
      replace h := hn
      clear hn
      refine lv_lstore_n (lv' := [(1, .long j108), (0, .ref x0), (3, .int x3)]) hx hb dX6_digest_86 rfl hl (by decide) rfl (fun ls hl => ?_)
      obtain ⟨x109, ex109⟩ : ∃ z : Int32, z = x3 + 1 := ⟨_, rfl⟩
      replace h := h x109 ex109
      refine lv_iinc (v := x109) (lv' := [(3, .int x109), (1, .long j108), (0, .ref x0)]) hx hb dX6_digest_87 hl (k := 2) rfl (by rw [ex109]; rfl) (by decide) rfl (fun ls hl => ?_)
      refine lv_goto (tgt := 66) hx hb dX6_digest_90 (by decide) ?_
      exact ih x0 j108 x109 S107 h H locs ls hR hS (lv_sub (l' := [(0, .ref x0), (1, .long j108), (3, .int x109)]) hl [2, 1, 0] rfl)
set_option maxHeartbeats 4000000 in
theorem t_X6_digest_b30 {Q : Int64 → sT → Prop} (C : x_C p s m args c cX6_digest RX6 gg) (hml : c.maxLocals = 4) (hr : meth.sig.returnType = (some .long)) (hlocks : meth.locks = false)   : ∀ (n : Nat) (x0 : Nat) (x1 : Int64) (x3 : Int32) (S : sT), w_X6_digest_b30  Q n x0 x1 x3 S → x_X p l e r_X6_digest s m args below meth c gg 4 0 0 (MQ below (va_Ql Q (fun S1 t => s_Rep gg S1 t.heap) (s_A gg)) args s 0 0 (s_A gg)) 30 [(0, .ref x0), (1, .long x1), (3, .int x3)] [] S := by
  obtain ⟨hx, hb, -⟩ := id C
  intro n
  induction n with
  | zero => intro x0 x1 x3 S h; exact absurd h id
  | succ n ih =>
    intro x0 x1 x3 S h H locs ls hR hS hl
    unfold w_X6_digest_b30 at h
    refine lv_iload_n hx hb dX6_digest_30 rfl (lv_at hl 2 rfl) ?_
    refine lv_bipush (v := 6) hx hb dX6_digest_31 (by decide) ?_
    refine lv_icmp_gt (tgt := 52) hx hb dX6_digest_33 (by decide) (fun hc101 => ?_) (fun hc101 => ?_)
    · replace h := h.1 hc101
      refine lv_lload_n hx hb dX6_digest_52 rfl (lv_at hl 1 rfl) ?_
      refine lv_aload_n hx hb dX6_digest_53 rfl (lv_at hl 0 rfl) ?_
      obtain ⟨hK_x0, h⟩ := h
      refine x_ki (x_runV (As := []) (rest := [.long x1]) C hml hR hS (m_X6_isClosed l gg x0 S h) b_X6_isClosed q_26_13 (by rw [hK_x0]; decide) (s_E_7 hK_x0) rfl rfl rfl rfl ⟨Nat.le_of_ble_eq_true rfl, Nat.le_of_ble_eq_true rfl⟩ rfl hl.1 (Nat.le_of_ble_eq_true rfl) dX6_digest_54 ⟨Nat.le_refl _, Nat.le_refl _⟩) hS (fun x103 S102 H locs hn hR hS => ?_)
      replace h := hn
      clear hn
      refine x_ki (x_runS (As := [.int x103]) (rest := [.long x1]) C hml hR hS (m_X6_oneIf l gg x103 S102 h) b_X6_oneIf q_11_18 rfl rfl ⟨Nat.le_of_ble_eq_true rfl, Nat.le_of_ble_eq_true rfl⟩ rfl hl.1 (Nat.le_of_ble_eq_true rfl) dX6_digest_57 ⟨Nat.le_refl _, Nat.le_refl _⟩) hS (fun x105 S104 H locs hn hR hS => ?_)
      replace h := hn
      clear hn
      refine x_kl (x_runS (As := [.long x1, .int x105]) (rest := []) C hml hR hS (m_X6_mix l gg x1 x105 S104 h) b_X6_mix q_26_8 rfl rfl ⟨Nat.le_of_ble_eq_true rfl, Nat.le_of_ble_eq_true rfl⟩ rfl hl.1 (Nat.le_of_ble_eq_true rfl) dX6_digest_60 ⟨Nat.le_refl _, Nat.le_refl _⟩) hS (fun j107 S106 H locs hn hR hS => ?_)
      replace h := hn
      clear hn
      refine lv_lstore_n (lv' := [(1, .long j107), (0, .ref x0), (3, .int x3)]) hx hb dX6_digest_63 rfl hl (by decide) rfl (fun ls hl => ?_)
      refine lv_iconst (v := 0) hx hb dX6_digest_64 (by decide) ?_
      refine lv_istore_n (lv' := [(3, .int (0 : Int32)), (1, .long j107), (0, .ref x0)]) hx hb dX6_digest_65 rfl hl (by decide) rfl (fun ls hl => ?_)
      obtain ⟨n9, h⟩ := h
      exact t_X6_digest_b66 C hml hr hlocks  n9 x0 j107 (0 : Int32) S106 h H locs ls hR hS (lv_sub (l' := [(0, .ref x0), (1, .long j107), (3, .int (0 : Int32))]) hl [2, 1, 0] rfl)
    · replace h := h.2 hc101
      refine lv_lload_n hx hb dX6_digest_36 rfl (lv_at hl 1 rfl) ?_
      refine lv_aload_n hx hb dX6_digest_37 rfl (lv_at hl 0 rfl) ?_
      refine lv_iload_n hx hb dX6_digest_38 rfl (lv_at hl 2 rfl) ?_
      obtain ⟨hK_x0, h⟩ := h
      refine x_ki (x_runV (As := [.int x3]) (rest := [.long x1]) C hml hR hS (m_X6_water l gg x0 x3 S h) b_X6_water q_26_12 (by rw [hK_x0]; decide) (s_E_7 hK_x0) rfl rfl rfl rfl ⟨Nat.le_of_ble_eq_true rfl, Nat.le_of_ble_eq_true rfl⟩ rfl hl.1 (Nat.le_of_ble_eq_true rfl) dX6_digest_39 ⟨Nat.le_refl _, Nat.le_refl _⟩) hS (fun x109 S108 H locs hn hR hS => ?_)
      replace h := hn
      clear hn
      refine x_kl (x_runS (As := [.long x1, .int x109]) (rest := []) C hml hR hS (m_X6_mix l gg x1 x109 S108 h) b_X6_mix q_26_8 rfl rfl ⟨Nat.le_of_ble_eq_true rfl, Nat.le_of_ble_eq_true rfl⟩ rfl hl.1 (Nat.le_of_ble_eq_true rfl) dX6_digest_42 ⟨Nat.le_refl _, Nat.le_refl _⟩) hS (fun j111 S110 H locs hn hR hS => ?_)
      replace h := hn
      clear hn
      refine lv_lstore_n (lv' := [(1, .long j111), (0, .ref x0), (3, .int x3)]) hx hb dX6_digest_45 rfl hl (by decide) rfl (fun ls hl => ?_)
      obtain ⟨x112, ex112⟩ : ∃ z : Int32, z = x3 + 1 := ⟨_, rfl⟩
      replace h := h x112 ex112
      refine lv_iinc (v := x112) (lv' := [(3, .int x112), (1, .long j111), (0, .ref x0)]) hx hb dX6_digest_46 hl (k := 2) rfl (by rw [ex112]; rfl) (by decide) rfl (fun ls hl => ?_)
      refine lv_goto (tgt := 30) hx hb dX6_digest_49 (by decide) ?_
      exact ih x0 j111 x112 S110 h H locs ls hR hS (lv_sub (l' := [(0, .ref x0), (1, .long j111), (3, .int x112)]) hl [2, 1, 0] rfl)
set_option maxHeartbeats 4000000 in
theorem t_X6_digest_b6 {Q : Int64 → sT → Prop} (C : x_C p s m args c cX6_digest RX6 gg) (hml : c.maxLocals = 4) (hr : meth.sig.returnType = (some .long)) (hlocks : meth.locks = false)   : ∀ (n : Nat) (x0 : Nat) (x1 : Int64) (x3 : Int32) (S : sT), w_X6_digest_b6  Q n x0 x1 x3 S → x_X p l e r_X6_digest s m args below meth c gg 4 0 0 (MQ below (va_Ql Q (fun S1 t => s_Rep gg S1 t.heap) (s_A gg)) args s 0 0 (s_A gg)) 6 [(0, .ref x0), (1, .long x1), (3, .int x3)] [] S := by
  obtain ⟨hx, hb, -⟩ := id C
  intro n
  induction n with
  | zero => intro x0 x1 x3 S h; exact absurd h id
  | succ n ih =>
    intro x0 x1 x3 S h H locs ls hR hS hl
    unfold w_X6_digest_b6 at h
    refine lv_iload_n hx hb dX6_digest_6 rfl (lv_at hl 2 rfl) ?_
    refine lv_bipush (v := 11) hx hb dX6_digest_7 (by decide) ?_
    refine lv_icmp_gt (tgt := 28) hx hb dX6_digest_9 (by decide) (fun hc101 => ?_) (fun hc101 => ?_)
    · replace h := h.1 hc101
      refine lv_iconst (v := 0) hx hb dX6_digest_28 (by decide) ?_
      refine lv_istore_n (lv' := [(3, .int (0 : Int32)), (0, .ref x0), (1, .long x1)]) hx hb dX6_digest_29 rfl hl (by decide) rfl (fun ls hl => ?_)
      obtain ⟨n9, h⟩ := h
      exact t_X6_digest_b30 C hml hr hlocks  n9 x0 x1 (0 : Int32) S h H locs ls hR hS (lv_sub (l' := [(0, .ref x0), (1, .long x1), (3, .int (0 : Int32))]) hl [1, 2, 0] rfl)
    · replace h := h.2 hc101
      refine lv_lload_n hx hb dX6_digest_12 rfl (lv_at hl 1 rfl) ?_
      refine lv_aload_n hx hb dX6_digest_13 rfl (lv_at hl 0 rfl) ?_
      refine lv_iload_n hx hb dX6_digest_14 rfl (lv_at hl 2 rfl) ?_
      obtain ⟨hK_x0, h⟩ := h
      refine x_ki (x_runV (As := [.int x3]) (rest := [.long x1]) C hml hR hS (m_X6_many l gg x0 x3 S h) b_X6_many q_26_7 (by rw [hK_x0]; decide) (s_E_7 hK_x0) rfl rfl rfl rfl ⟨Nat.le_of_ble_eq_true rfl, Nat.le_of_ble_eq_true rfl⟩ rfl hl.1 (Nat.le_of_ble_eq_true rfl) dX6_digest_15 ⟨Nat.le_refl _, Nat.le_refl _⟩) hS (fun x103 S102 H locs hn hR hS => ?_)
      replace h := hn
      clear hn
      refine x_kl (x_runS (As := [.long x1, .int x103]) (rest := []) C hml hR hS (m_X6_mix l gg x1 x103 S102 h) b_X6_mix q_26_8 rfl rfl ⟨Nat.le_of_ble_eq_true rfl, Nat.le_of_ble_eq_true rfl⟩ rfl hl.1 (Nat.le_of_ble_eq_true rfl) dX6_digest_18 ⟨Nat.le_refl _, Nat.le_refl _⟩) hS (fun j105 S104 H locs hn hR hS => ?_)
      replace h := hn
      clear hn
      refine lv_lstore_n (lv' := [(1, .long j105), (0, .ref x0), (3, .int x3)]) hx hb dX6_digest_21 rfl hl (by decide) rfl (fun ls hl => ?_)
      obtain ⟨x106, ex106⟩ : ∃ z : Int32, z = x3 + 1 := ⟨_, rfl⟩
      replace h := h x106 ex106
      refine lv_iinc (v := x106) (lv' := [(3, .int x106), (1, .long j105), (0, .ref x0)]) hx hb dX6_digest_22 hl (k := 2) rfl (by rw [ex106]; rfl) (by decide) rfl (fun ls hl => ?_)
      refine lv_goto (tgt := 6) hx hb dX6_digest_25 (by decide) ?_
      exact ih x0 j105 x106 S104 h H locs ls hR hS (lv_sub (l' := [(0, .ref x0), (1, .long j105), (3, .int x106)]) hl [2, 1, 0] rfl)
set_option maxHeartbeats 4000000 in
theorem t_X6_digest_b0 {Q : Int64 → sT → Prop} (C : x_C p s m args c cX6_digest RX6 gg) (hml : c.maxLocals = 4) (hr : meth.sig.returnType = (some .long)) (hlocks : meth.locks = false) {x0 : Nat}  {S : sT}  (h : w_X6_digest_b0 x0 S  Q) : x_X p l e r_X6_digest s m args below meth c gg 4 0 0 (MQ below (va_Ql Q (fun S1 t => s_Rep gg S1 t.heap) (s_A gg)) args s 0 0 (s_A gg)) 0 [(0, .ref x0)] [] S := by
  unfold w_X6_digest_b0 at h
  obtain ⟨hx, hb, -⟩ := id C
  intro H locs ls hR hS hl
  refine lv_ldc2 hx hb C.2.2.2.1 (C.2.2.1 _ q_26_6) dX6_digest_0 ?_
  refine lv_lstore_n (lv' := [(1, .long (58173 : Int64)), (0, .ref x0)]) hx hb dX6_digest_3 rfl hl (by decide) rfl (fun ls hl => ?_)
  refine lv_iconst (v := 0) hx hb dX6_digest_4 (by decide) ?_
  refine lv_istore_n (lv' := [(3, .int (0 : Int32)), (1, .long (58173 : Int64)), (0, .ref x0)]) hx hb dX6_digest_5 rfl hl (by decide) rfl (fun ls hl => ?_)
  obtain ⟨n9, h⟩ := h
  exact t_X6_digest_b6 C hml hr hlocks  n9 x0 (58173 : Int64) (0 : Int32) S h H locs ls hR hS (lv_sub (l' := [(0, .ref x0), (1, .long (58173 : Int64)), (3, .int (0 : Int32))]) hl [2, 1, 0] rfl)
theorem m_X6_digest (l : Launch) (gg : sG) (x0 : Nat) (S : sT) {Q : Int64 → sT → Prop} (h : w_X6_digest x0 S Q) : x_Ml l gg yX6_digest (x_ws yX6_digest cX6_digest 4 (some .long)) r_X6_digest [.ref x0] S Q 0 0 := by
  refine x_ofW (cc := cX6_digest) (own := RX6) (by decide +kernel) rfl (Nat.le_of_ble_eq_true rfl) ?_
  intro p e s m args below meth c C hml hr hlocks hin ht H locs ls hR hS hl
  exact t_X6_digest_b0 C hml hr hlocks h H locs ls hR hS (lv_sub (l' := [(0, .ref x0)]) hl [0] rfl)
end
