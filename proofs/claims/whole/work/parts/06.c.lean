section
variable {p : Program} {l : Launch} {e : Env} {s : State} {m : MethodId} {args : Array Value} {below : List Frame} {meth : Method} {c : Code} {gg : sG}
def w_X7_isOpen_b45 (y0 : Int32) (S : sT)  (Q : Int32 → sT → Prop) : Prop :=
(y0 = 0 ∨ y0 = 1) ∧
    Q y0 S
def w_X7_isOpen_b0 (x0 : Nat) (x1 : Int32) (S : sT)  (Q : Int32 → sT → Prop) : Prop :=
s_K S x0 = 9 ∧
    ∃ a101 : Nat, s_R S 258 x0 = some a101 ∧
    s_K S a101 = 11 ∧
    vp_in (0 : Int32) (s_N S a101) ∧
    ∀ x103 : Int32, x103 = s_B S a101 (Int32.toNatClampNeg (0 : Int32)) →
    ∀ x104 : Int32, x104 = x103 - x103 / (210 : Int32) * (210 : Int32) →
    ∃ a105 : Nat, s_R S 256 x0 = some a105 ∧
    s_K S a105 = 13 ∧
    vp_in x1 (s_N S a105) ∧
    ∃ a107 : Nat, s_P S a105 (Int32.toNatClampNeg x1) = some a107 ∧
    s_K S a107 = 11 ∧
    vp_in (2 : Int32) (s_N S a107) ∧
    ∀ x109 : Int32, x109 = s_B S a107 (Int32.toNatClampNeg (2 : Int32)) →
    ∀ x110 : Int32, x110 = x104 - x109 →
    ∀ x111 : Int32, x111 = x110 + (210 : Int32) →
    ∀ x112 : Int32, x112 = x111 - x111 / (210 : Int32) * (210 : Int32) →
    ∃ a113 : Nat, s_R S 256 x0 = some a113 ∧
    s_K S a113 = 13 ∧
    vp_in x1 (s_N S a113) ∧
    ∃ a115 : Nat, s_P S a113 (Int32.toNatClampNeg x1) = some a115 ∧
    s_K S a115 = 11 ∧
    vp_in (3 : Int32) (s_N S a115) ∧
    ∀ x117 : Int32, x117 = s_B S a115 (Int32.toNatClampNeg (3 : Int32)) →
    ((x117 ≤ x112 → w_X7_isOpen_b45 (0 : Int32) S  Q) ∧
    (¬ x117 ≤ x112 → w_X7_isOpen_b45 (1 : Int32) S  Q))
def w_X7_isOpen (x0 : Nat) (x1 : Int32) (S : sT) (Q : Int32 → sT → Prop) : Prop := w_X7_isOpen_b0 x0 x1 S Q
def r_X7_isOpen : Room := x_rm 0 0 0 0
theorem b_X7_isOpen : x_BV yX7_isOpen cX7_isOpen 3 (some .boolean) 1 := ⟨q_27_0, q_26_22, q_26_23, q_3_7, by decide +kernel⟩
set_option maxHeartbeats 4000000 in
theorem t_X7_isOpen_b45 {Q : Int32 → sT → Prop} (C : x_C p s m args c cX7_isOpen RX7 gg) (hml : c.maxLocals = 3) (hr : meth.sig.returnType = (some .boolean)) (hlocks : meth.locks = false) {y0 : Int32}  {S : sT}  (h : w_X7_isOpen_b45 y0 S  Q) : x_X p l e r_X7_isOpen s m args below meth c gg 3 0 0 (MQ below (va_Qi Q (fun S1 t => s_Rep gg S1 t.heap) (s_A gg)) args s 0 0 (s_A gg)) 45 [] [.int y0] S := by
  unfold w_X7_isOpen_b45 at h
  obtain ⟨hx, hb, -⟩ := id C
  intro H locs ls hR hS hl
  obtain ⟨hz101, h⟩ := h
  exact W.zret (v := y0) hx hb hr (zb_n hz101) (fun t ht hW => ⟨⟨y0, S, rfl, h, x_rt ht hR⟩, hS.F ht⟩) hS.2.2 dX7_isOpen_45
set_option maxHeartbeats 4000000 in
theorem t_X7_isOpen_b0 {Q : Int32 → sT → Prop} (C : x_C p s m args c cX7_isOpen RX7 gg) (hml : c.maxLocals = 3) (hr : meth.sig.returnType = (some .boolean)) (hlocks : meth.locks = false) {x0 : Nat} {x1 : Int32}  {S : sT}  (h : w_X7_isOpen_b0 x0 x1 S  Q) : x_X p l e r_X7_isOpen s m args below meth c gg 3 0 0 (MQ below (va_Qi Q (fun S1 t => s_Rep gg S1 t.heap) (s_A gg)) args s 0 0 (s_A gg)) 0 [(0, .ref x0), (1, .int x1)] [] S := by
  unfold w_X7_isOpen_b0 at h
  obtain ⟨hx, hb, -⟩ := id C
  intro H locs ls hR hS hl
  refine lv_aload_n hx hb dX7_isOpen_0 rfl (lv_at hl 0 rfl) ?_
  obtain ⟨hK_x0, h⟩ := h
  refine x_g_258 C hR hK_x0 q_3_14 dX7_isOpen_1 ?_
  obtain ⟨a101, ea101, h⟩ := h
  refine x_some ea101 ?_
  refine lv_iconst (v := 0) hx hb dX7_isOpen_4 (by decide) ?_
  obtain ⟨hK_a101, h⟩ := h
  obtain ⟨hi102, h⟩ := h
  refine x_iald C hR hK_a101 hi102 dX7_isOpen_5 ?_
  refine lv_topi (fun x103 ex103 => ?_)
  replace h := h x103 ex103
  refine lv_sipush (v := 210) hx hb dX7_isOpen_6 (by decide) ?_
  refine lv_irem hx hb dX7_isOpen_9 (by decide) ?_
  refine lv_topi (fun x104 ex104 => ?_)
  replace h := h x104 ex104
  refine lv_aload_n hx hb dX7_isOpen_10 rfl (lv_at hl 0 rfl) ?_
  refine x_g_256 C hR hK_x0 q_3_18 dX7_isOpen_11 ?_
  obtain ⟨a105, ea105, h⟩ := h
  refine x_some ea105 ?_
  refine lv_iload_n hx hb dX7_isOpen_14 rfl (lv_at hl 1 rfl) ?_
  obtain ⟨hK_a105, h⟩ := h
  obtain ⟨hi106, a107, ea107, h⟩ := h
  refine x_aald13 C hR hK_a105 hi106 dX7_isOpen_15 ?_
  refine x_some ea107 ?_
  refine lv_iconst (v := 2) hx hb dX7_isOpen_16 (by decide) ?_
  obtain ⟨hK_a107, h⟩ := h
  obtain ⟨hi108, h⟩ := h
  refine x_iald C hR hK_a107 hi108 dX7_isOpen_17 ?_
  refine lv_topi (fun x109 ex109 => ?_)
  replace h := h x109 ex109
  refine lv_isub hx hb dX7_isOpen_18 ?_
  refine lv_topi (fun x110 ex110 => ?_)
  replace h := h x110 ex110
  refine lv_sipush (v := 210) hx hb dX7_isOpen_19 (by decide) ?_
  refine lv_iadd hx hb dX7_isOpen_22 ?_
  refine lv_topi (fun x111 ex111 => ?_)
  replace h := h x111 ex111
  refine lv_sipush (v := 210) hx hb dX7_isOpen_23 (by decide) ?_
  refine lv_irem hx hb dX7_isOpen_26 (by decide) ?_
  refine lv_topi (fun x112 ex112 => ?_)
  replace h := h x112 ex112
  refine lv_istore_n (lv' := [(2, .int x112), (0, .ref x0), (1, .int x1)]) hx hb dX7_isOpen_27 rfl hl (by decide) rfl (fun ls hl => ?_)
  refine lv_iload_n hx hb dX7_isOpen_28 rfl (lv_at hl 0 rfl) ?_
  refine lv_aload_n hx hb dX7_isOpen_29 rfl (lv_at hl 1 rfl) ?_
  refine x_g_256 C hR hK_x0 q_3_18 dX7_isOpen_30 ?_
  obtain ⟨a113, ea113, h⟩ := h
  refine x_some ea113 ?_
  refine lv_iload_n hx hb dX7_isOpen_33 rfl (lv_at hl 2 rfl) ?_
  obtain ⟨hK_a113, h⟩ := h
  obtain ⟨hi114, a115, ea115, h⟩ := h
  refine x_aald13 C hR hK_a113 hi114 dX7_isOpen_34 ?_
  refine x_some ea115 ?_
  refine lv_iconst (v := 3) hx hb dX7_isOpen_35 (by decide) ?_
  obtain ⟨hK_a115, h⟩ := h
  obtain ⟨hi116, h⟩ := h
  refine x_iald C hR hK_a115 hi116 dX7_isOpen_36 ?_
  refine lv_topi (fun x117 ex117 => ?_)
  replace h := h x117 ex117
  refine lv_icmp_ge (tgt := 44) hx hb dX7_isOpen_37 (by decide) (fun hc118 => ?_) (fun hc118 => ?_)
  · replace h := h.1 hc118
    refine lv_iconst (v := 0) hx hb dX7_isOpen_44 (by decide) ?_
    exact t_X7_isOpen_b45 C hml hr hlocks  h H locs ls hR hS (lv_sub (l' := []) hl [] rfl)
  · replace h := h.2 hc118
    refine lv_iconst (v := 1) hx hb dX7_isOpen_40 (by decide) ?_
    refine lv_goto (tgt := 45) hx hb dX7_isOpen_41 (by decide) ?_
    exact t_X7_isOpen_b45 C hml hr hlocks  h H locs ls hR hS (lv_sub (l' := []) hl [] rfl)
theorem m_X7_isOpen (l : Launch) (gg : sG) (x0 : Nat) (x1 : Int32) (S : sT) {Q : Int32 → sT → Prop} (h : w_X7_isOpen x0 x1 S Q) : x_Mi l gg yX7_isOpen (x_ws yX7_isOpen cX7_isOpen 3 (some .boolean)) r_X7_isOpen [.ref x0, .int x1] S Q 0 0 := by
  refine x_ofW (cc := cX7_isOpen) (own := RX7) (by decide +kernel) rfl (Nat.le_of_ble_eq_true rfl) ?_
  intro p e s m args below meth c C hml hr hlocks hin ht H locs ls hR hS hl
  exact t_X7_isOpen_b0 C hml hr hlocks h H locs ls hR hS (lv_sub (l' := [(0, .ref x0), (1, .int x1)]) hl [0, 1] rfl)
def w_X8_is_b15 (y0 : Int32) (S : sT)  (Q : Int32 → sT → Prop) : Prop :=
(y0 = 0 ∨ y0 = 1) ∧
    Q y0 S
def w_X8_is_b14  (S : sT)  (Q : Int32 → sT → Prop) : Prop :=
w_X8_is_b15 (0 : Int32) S  Q
def w_X8_is_b0 (x0 : Int32) (x1 : Int32) (x2 : Int32) (S : sT)  (Q : Int32 → sT → Prop) : Prop :=
((x0 < x1 → w_X8_is_b14  S  Q) ∧
    (¬ x0 < x1 → ((x2 < x0 → w_X8_is_b14  S  Q) ∧
    (¬ x2 < x0 → w_X8_is_b15 (1 : Int32) S  Q))))
def w_X8_is (x0 : Int32) (x1 : Int32) (x2 : Int32) (S : sT) (Q : Int32 → sT → Prop) : Prop := w_X8_is_b0 x0 x1 x2 S Q
def r_X8_is : Room := x_rm 0 0 0 0
theorem b_X8_is : x_BS yX8_is cX8_is 3 (some .boolean) 3 := ⟨q_8_4, q_8_3, q_1_5, by decide +kernel⟩
set_option maxHeartbeats 4000000 in
theorem t_X8_is_b15 {Q : Int32 → sT → Prop} (C : x_C p s m args c cX8_is RX8 gg) (hml : c.maxLocals = 3) (hr : meth.sig.returnType = (some .boolean)) (hlocks : meth.locks = false) {y0 : Int32}  {S : sT}  (h : w_X8_is_b15 y0 S  Q) : x_X p l e r_X8_is s m args below meth c gg 3 0 0 (MQ below (va_Qi Q (fun S1 t => s_Rep gg S1 t.heap) (s_A gg)) args s 0 0 (s_A gg)) 15 [] [.int y0] S := by
  unfold w_X8_is_b15 at h
  obtain ⟨hx, hb, -⟩ := id C
  intro H locs ls hR hS hl
  obtain ⟨hz101, h⟩ := h
  exact W.zret (v := y0) hx hb hr (zb_n hz101) (fun t ht hW => ⟨⟨y0, S, rfl, h, x_rt ht hR⟩, hS.F ht⟩) hS.2.2 dX8_is_15
set_option maxHeartbeats 4000000 in
theorem t_X8_is_b14 {Q : Int32 → sT → Prop} (C : x_C p s m args c cX8_is RX8 gg) (hml : c.maxLocals = 3) (hr : meth.sig.returnType = (some .boolean)) (hlocks : meth.locks = false)   {S : sT}  (h : w_X8_is_b14  S  Q) : x_X p l e r_X8_is s m args below meth c gg 3 0 0 (MQ below (va_Qi Q (fun S1 t => s_Rep gg S1 t.heap) (s_A gg)) args s 0 0 (s_A gg)) 14 [] [] S := by
  unfold w_X8_is_b14 at h
  obtain ⟨hx, hb, -⟩ := id C
  intro H locs ls hR hS hl
  refine lv_iconst (v := 0) hx hb dX8_is_14 (by decide) ?_
  exact t_X8_is_b15 C hml hr hlocks  h H locs ls hR hS (lv_sub (l' := []) hl [] rfl)
set_option maxHeartbeats 4000000 in
theorem t_X8_is_b0 {Q : Int32 → sT → Prop} (C : x_C p s m args c cX8_is RX8 gg) (hml : c.maxLocals = 3) (hr : meth.sig.returnType = (some .boolean)) (hlocks : meth.locks = false) {x0 : Int32} {x1 : Int32} {x2 : Int32}  {S : sT}  (h : w_X8_is_b0 x0 x1 x2 S  Q) : x_X p l e r_X8_is s m args below meth c gg 3 0 0 (MQ below (va_Qi Q (fun S1 t => s_Rep gg S1 t.heap) (s_A gg)) args s 0 0 (s_A gg)) 0 [(0, .int x0), (1, .int x1), (2, .int x2)] [] S := by
  unfold w_X8_is_b0 at h
  obtain ⟨hx, hb, -⟩ := id C
  intro H locs ls hR hS hl
  refine lv_iload_n hx hb dX8_is_0 rfl (lv_at hl 0 rfl) ?_
  refine lv_iload_n hx hb dX8_is_1 rfl (lv_at hl 1 rfl) ?_
  refine lv_icmp_lt (tgt := 14) hx hb dX8_is_2 (by decide) (fun hc101 => ?_) (fun hc101 => ?_)
  · replace h := h.1 hc101
    exact t_X8_is_b14 C hml hr hlocks  h H locs ls hR hS (lv_sub (l' := []) hl [] rfl)
  · replace h := h.2 hc101
    refine lv_iload_n hx hb dX8_is_5 rfl (lv_at hl 0 rfl) ?_
    refine lv_iload_n hx hb dX8_is_6 rfl (lv_at hl 2 rfl) ?_
    refine lv_icmp_gt (tgt := 14) hx hb dX8_is_7 (by decide) (fun hc102 => ?_) (fun hc102 => ?_)
    · replace h := h.1 hc102
      exact t_X8_is_b14 C hml hr hlocks  h H locs ls hR hS (lv_sub (l' := []) hl [] rfl)
    · replace h := h.2 hc102
      refine lv_iconst (v := 1) hx hb dX8_is_10 (by decide) ?_
      refine lv_goto (tgt := 15) hx hb dX8_is_11 (by decide) ?_
      exact t_X8_is_b15 C hml hr hlocks  h H locs ls hR hS (lv_sub (l' := []) hl [] rfl)
theorem m_X8_is (l : Launch) (gg : sG) (x0 : Int32) (x1 : Int32) (x2 : Int32) (S : sT) {Q : Int32 → sT → Prop} (h : w_X8_is x0 x1 x2 S Q) : x_Mi l gg yX8_is (x_ws yX8_is cX8_is 3 (some .boolean)) r_X8_is [.int x0, .int x1, .int x2] S Q 0 0 := by
  refine x_ofW (cc := cX8_is) (own := RX8) (by decide +kernel) rfl (Nat.le_of_ble_eq_true rfl) ?_
  intro p e s m args below meth c C hml hr hlocks hin ht H locs ls hR hS hl
  exact t_X8_is_b0 C hml hr hlocks h H locs ls hR hS (lv_sub (l' := [(0, .int x0), (1, .int x1), (2, .int x2)]) hl [0, 1, 2] rfl)
def w_X7_fly_b171  (Q : sT → Prop) : Nat → Nat → Int32 → sT → Prop
  | 0 => fun _ _ _ => False
  | n + 1 => fun x0 x1 S =>
s_K S x0 = 9 ∧
    ∃ a101 : Nat, s_R S 257 x0 = some a101 ∧
    s_K S a101 = 13 ∧
    ∀ x102 : Int32, x102 = nI (s_N S a101) →
    ((x102 ≤ x1 → Q S) ∧
    (¬ x102 ≤ x1 → ∃ a104 : Nat, s_R S 257 x0 = some a104 ∧
    s_K S a104 = 13 ∧
    vp_in x1 (s_N S a104) ∧
    ∃ a106 : Nat, s_P S a104 (Int32.toNatClampNeg x1) = some a106 ∧
    ∃ a107 : Nat, s_R S 257 x0 = some a107 ∧
    s_K S a107 = 13 ∧
    vp_in x1 (s_N S a107) ∧
    ∃ a109 : Nat, s_P S a107 (Int32.toNatClampNeg x1) = some a109 ∧
    s_K S a109 = 11 ∧
    vp_in (8 : Int32) (s_N S a109) ∧
    ∀ x111 : Int32, x111 = s_B S a109 (Int32.toNatClampNeg (8 : Int32)) →
    ∃ a112 : Nat, s_R S 260 x0 = some a112 ∧
    s_K S a112 = 11 ∧
    vp_in x1 (s_N S a112) ∧
    ∀ x114 : Int32, x114 = s_B S a112 (Int32.toNatClampNeg x1) →
    ∀ x115 : Int32, x115 = x111 + x114 →
    ∀ x116 : Int32, x116 = s_min (99 : Int32) x115 →
    s_K S a106 = 11 ∧
    vp_in (8 : Int32) (s_N S a106) ∧
    ∀ S118 : sT, S118 = s_sB S a106 (Int32.toNatClampNeg (8 : Int32)) x116 →
    ∀ x119 : Int32, x119 = x1 + 1 →
    w_X7_fly_b171  Q n x0 x119 S118))
def w_X7_fly_b157 (x0 : Nat) (x1 : Int32) (x2 : Int32) (x3 : Int32) (S : sT) (kk26 : Nat → Int32 → sT → Prop) (kk67 : Nat → Int32 → Int32 → Int32 → sT → Prop) (Q : sT → Prop) : Prop :=
∀ x101 : Int32, x101 = x3 + 2 →
    kk67 x0 x1 x2 x101 S
def w_X7_fly_b118 (x0 : Nat) (x1 : Int32) (x2 : Int32) (x3 : Int32) (x4 : Int32) (S : sT) (kk26 : Nat → Int32 → sT → Prop) (kk67 : Nat → Int32 → Int32 → Int32 → sT → Prop) (Q : sT → Prop) : Prop :=
((x4 < 0 → w_X7_fly_b157 x0 x1 x2 x3 S kk26 kk67 Q) ∧
    (¬ x4 < 0 → s_K S x0 = 9 ∧
    ∃ a102 : Nat, s_R S 257 x0 = some a102 ∧
    s_K S a102 = 13 ∧
    ∀ x103 : Int32, x103 = nI (s_N S a102) →
    ((x4 < x103 → ∃ a105 : Nat, s_R S 260 x0 = some a105 ∧
    s_K S a105 = 11 ∧
    vp_in x1 (s_N S a105) ∧
    ∀ x107 : Int32, x107 = s_B S a105 (Int32.toNatClampNeg x1) →
    ∀ x108 : Int32, x108 = x107 - x2 →
    vp_in x1 (s_N S a105) ∧
    ∀ S110 : sT, S110 = s_sB S a105 (Int32.toNatClampNeg x1) x108 →
    ∃ a111 : Nat, s_R S110 260 x0 = some a111 ∧
    s_K S110 a111 = 11 ∧
    vp_in x4 (s_N S110 a111) ∧
    ∀ x113 : Int32, x113 = s_B S110 a111 (Int32.toNatClampNeg x4) →
    ∀ x114 : Int32, x114 = x113 + x2 →
    vp_in x4 (s_N S110 a111) ∧
    ∀ S116 : sT, S116 = s_sB S110 a111 (Int32.toNatClampNeg x4) x114 →
    w_X7_fly_b157 x0 x1 x2 x3 S116 kk26 kk67 Q) ∧
    (¬ x4 < x103 → w_X7_fly_b157 x0 x1 x2 x3 S kk26 kk67 Q))))
def w_X7_fly_b77 (kk26 : Nat → Int32 → sT → Prop) (kk67 : Nat → Int32 → Int32 → Int32 → sT → Prop) (Q : sT → Prop) : Nat → Nat → Int32 → Int32 → Int32 → Int32 → sT → Prop
  | 0 => fun _ _ _ _ _ _ => False
  | n + 1 => fun x0 x1 x2 x3 x4 S =>
((x4 < 0 → w_X7_fly_b118 x0 x1 x2 x3 x4 S kk26 kk67 Q) ∧
    (¬ x4 < 0 → s_K S x0 = 9 ∧
    ∃ a102 : Nat, s_R S 257 x0 = some a102 ∧
    s_K S a102 = 13 ∧
    ∀ x103 : Int32, x103 = nI (s_N S a102) →
    ((x103 ≤ x4 → w_X7_fly_b118 x0 x1 x2 x3 x4 S kk26 kk67 Q) ∧
    (¬ x103 ≤ x4 → ∃ a105 : Nat, s_R S 257 x0 = some a105 ∧
    s_K S a105 = 13 ∧
    vp_in x4 (s_N S a105) ∧
    ∃ a107 : Nat, s_P S a105 (Int32.toNatClampNeg x4) = some a107 ∧
    s_K S a107 = 11 ∧
    vp_in (4 : Int32) (s_N S a107) ∧
    ∀ x109 : Int32, x109 = s_B S a107 (Int32.toNatClampNeg (4 : Int32)) →
    w_X8_is x109 (2 : Int32) (4 : Int32) S (fun x111 S110 =>
    ((¬ x111 = 0 → w_X7_fly_b118 x0 x1 x2 x3 x4 S110 kk26 kk67 Q) ∧
    (x111 = 0 → ∀ x113 : Int32, x113 = x4 + x3 →
    w_X7_fly_b77 kk26 kk67 Q n x0 x1 x2 x3 x113 S110)))))))
def w_X7_fly_b67 (kk26 : Nat → Int32 → sT → Prop) (Q : sT → Prop) : Nat → Nat → Int32 → Int32 → Int32 → sT → Prop
  | 0 => fun _ _ _ _ _ => False
  | n + 1 => fun x0 x1 x2 x3 S =>
(((2 : Int32) ≤ x3 → ∀ x102 : Int32, x102 = x1 + 1 →
    kk26 x0 x102 S) ∧
    (¬ (2 : Int32) ≤ x3 → ∀ x103 : Int32, x103 = x1 + x3 →
    ∃ n9 : Nat, w_X7_fly_b77 kk26 (fun x0 x1 x2 x3 S => w_X7_fly_b67 kk26 Q n x0 x1 x2 x3 S) Q n9 x0 x1 x2 x3 x103 S))
def w_X7_fly_b64 (x0 : Nat) (x1 : Int32) (y0 : Int32) (S : sT) (kk26 : Nat → Int32 → sT → Prop) (Q : sT → Prop) : Prop :=
∃ n9 : Nat, w_X7_fly_b67 kk26 Q n9 x0 x1 y0 (-1 : Int32) S
def w_X7_fly_b26  (Q : sT → Prop) : Nat → Nat → Int32 → sT → Prop
  | 0 => fun _ _ _ => False
  | n + 1 => fun x0 x1 S =>
s_K S x0 = 9 ∧
    ∃ a101 : Nat, s_R S 257 x0 = some a101 ∧
    s_K S a101 = 13 ∧
    ∀ x102 : Int32, x102 = nI (s_N S a101) →
    ((x102 ≤ x1 → ∃ n9 : Nat, w_X7_fly_b171  Q n9 x0 (0 : Int32) S) ∧
    (¬ x102 ≤ x1 → ∃ a104 : Nat, s_R S 257 x0 = some a104 ∧
    s_K S a104 = 13 ∧
    vp_in x1 (s_N S a104) ∧
    ∃ a106 : Nat, s_P S a104 (Int32.toNatClampNeg x1) = some a106 ∧
    s_K S a106 = 11 ∧
    vp_in (8 : Int32) (s_N S a106) ∧
    ∀ x108 : Int32, x108 = s_B S a106 (Int32.toNatClampNeg (8 : Int32)) →
    ((x108 ≤ (20 : Int32) → w_X7_fly_b64 x0 x1 (0 : Int32) S (fun x0 x1 S => w_X7_fly_b26  Q n x0 x1 S) Q) ∧
    (¬ x108 ≤ (20 : Int32) → ∃ a110 : Nat, s_R S 257 x0 = some a110 ∧
    s_K S a110 = 13 ∧
    vp_in x1 (s_N S a110) ∧
    ∃ a112 : Nat, s_P S a110 (Int32.toNatClampNeg x1) = some a112 ∧
    s_K S a112 = 11 ∧
    vp_in (8 : Int32) (s_N S a112) ∧
    ∀ x114 : Int32, x114 = s_B S a112 (Int32.toNatClampNeg (8 : Int32)) →
    ∀ x115 : Int32, x115 = x114 / (5 : Int32) →
    w_X7_fly_b64 x0 x1 x115 S (fun x0 x1 S => w_X7_fly_b26  Q n x0 x1 S) Q))))
def w_X7_fly_b2  (Q : sT → Prop) : Nat → Nat → Int32 → sT → Prop
  | 0 => fun _ _ _ => False
  | n + 1 => fun x0 x1 S =>
s_K S x0 = 9 ∧
    ∃ a101 : Nat, s_R S 257 x0 = some a101 ∧
    s_K S a101 = 13 ∧
    ∀ x102 : Int32, x102 = nI (s_N S a101) →
    ((x102 ≤ x1 → ∃ n9 : Nat, w_X7_fly_b26  Q n9 x0 (0 : Int32) S) ∧
    (¬ x102 ≤ x1 → ∃ a104 : Nat, s_R S 260 x0 = some a104 ∧
    s_K S a104 = 11 ∧
    vp_in x1 (s_N S a104) ∧
    ∀ S106 : sT, S106 = s_sB S a104 (Int32.toNatClampNeg x1) (0 : Int32) →
    ∀ x107 : Int32, x107 = x1 + 1 →
    w_X7_fly_b2  Q n x0 x107 S106))
def w_X7_fly_b0 (x0 : Nat) (S : sT)  (Q : sT → Prop) : Prop :=
∃ n9 : Nat, w_X7_fly_b2  Q n9 x0 (0 : Int32) S
def w_X7_fly (x0 : Nat) (S : sT) (Q : sT → Prop) : Prop := w_X7_fly_b0 x0 S Q
def r_X7_fly : Room := x_rm 1 40 0 0
theorem b_X7_fly : x_BV yX7_fly cX7_fly 5 none 0 := ⟨q_27_22, q_27_20, q_27_21, q_3_7, by decide +kernel⟩
set_option maxHeartbeats 4000000 in
theorem t_X7_fly_b171 {Q : sT → Prop} (C : x_C p s m args c cX7_fly RX7 gg) (hml : c.maxLocals = 5) (hr : meth.sig.returnType = none) (hlocks : meth.locks = false)   : ∀ (n : Nat) (x0 : Nat) (x1 : Int32) (S : sT), w_X7_fly_b171  Q n x0 x1 S → x_X p l e r_X7_fly s m args below meth c gg 5 0 0 (MQ below (va_Qv Q (fun S1 t => s_Rep gg S1 t.heap) (s_A gg)) args s 0 0 (s_A gg)) 171 [(0, .ref x0), (1, .int x1)] [] S := by
  obtain ⟨hx, hb, -⟩ := id C
  intro n
  induction n with
  | zero => intro x0 x1 S h; exact absurd h id
  | succ n ih =>
    intro x0 x1 S h H locs ls hR hS hl
    unfold w_X7_fly_b171 at h
    refine lv_iload_n hx hb dX7_fly_171 rfl (lv_at hl 1 rfl) ?_
    refine lv_aload_n hx hb dX7_fly_172 rfl (lv_at hl 0 rfl) ?_
    obtain ⟨hK_x0, h⟩ := h
    refine x_g_257 C hR hK_x0 q_3_19 dX7_fly_173 ?_
    obtain ⟨a101, ea101, h⟩ := h
    refine x_some ea101 ?_
    obtain ⟨hK_a101, h⟩ := h
    refine x_alen13 C hR hK_a101 dX7_fly_176 ?_
    refine lv_topi (fun x102 ex102 => ?_)
    replace h := h x102 ex102
    refine lv_icmp_ge (tgt := 216) hx hb dX7_fly_177 (by decide) (fun hc103 => ?_) (fun hc103 => ?_)
    · replace h := h.1 hc103
      exact W.vret hx hb hr (fun t ht hW => ⟨⟨S, rfl, h, x_rt ht hR⟩, hS.F ht⟩) hS.2.2 dX7_fly_216
    · replace h := h.2 hc103
      refine lv_aload_n hx hb dX7_fly_180 rfl (lv_at hl 0 rfl) ?_
      refine x_g_257 C hR hK_x0 q_3_19 dX7_fly_181 ?_
      obtain ⟨a104, ea104, h⟩ := h
      refine x_some ea104 ?_
      refine lv_iload_n hx hb dX7_fly_184 rfl (lv_at hl 1 rfl) ?_
      obtain ⟨hK_a104, h⟩ := h
      obtain ⟨hi105, a106, ea106, h⟩ := h
      refine x_aald13 C hR hK_a104 hi105 dX7_fly_185 ?_
      refine x_some ea106 ?_
      refine lv_bipush (v := 8) hx hb dX7_fly_186 (by decide) ?_
      refine lv_bipush (v := 99) hx hb dX7_fly_188 (by decide) ?_
      refine lv_aload_n hx hb dX7_fly_190 rfl (lv_at hl 0 rfl) ?_
      refine x_g_257 C hR hK_x0 q_3_19 dX7_fly_191 ?_
      obtain ⟨a107, ea107, h⟩ := h
      refine x_some ea107 ?_
      refine lv_iload_n hx hb dX7_fly_194 rfl (lv_at hl 1 rfl) ?_
      obtain ⟨hK_a107, h⟩ := h
      obtain ⟨hi108, a109, ea109, h⟩ := h
      refine x_aald13 C hR hK_a107 hi108 dX7_fly_195 ?_
      refine x_some ea109 ?_
      refine lv_bipush (v := 8) hx hb dX7_fly_196 (by decide) ?_
      obtain ⟨hK_a109, h⟩ := h
      obtain ⟨hi110, h⟩ := h
      refine x_iald C hR hK_a109 hi110 dX7_fly_198 ?_
      refine lv_topi (fun x111 ex111 => ?_)
      replace h := h x111 ex111
      refine lv_aload_n hx hb dX7_fly_199 rfl (lv_at hl 0 rfl) ?_
      refine x_g_260 C hR hK_x0 q_3_16 dX7_fly_200 ?_
      obtain ⟨a112, ea112, h⟩ := h
      refine x_some ea112 ?_
      refine lv_iload_n hx hb dX7_fly_203 rfl (lv_at hl 1 rfl) ?_
      obtain ⟨hK_a112, h⟩ := h
      obtain ⟨hi113, h⟩ := h
      refine x_iald C hR hK_a112 hi113 dX7_fly_204 ?_
      refine lv_topi (fun x114 ex114 => ?_)
      replace h := h x114 ex114
      refine lv_iadd hx hb dX7_fly_205 ?_
      refine lv_topi (fun x115 ex115 => ?_)
      replace h := h x115 ex115
      refine va_mmin hx hb (by rw [hml]; exact hl.1.symm) C.2.2.2.1 (C.2.2.1 _ q_27_6) (C.2.2.1 _ q_7_15) (C.2.2.1 _ q_6_13) (C.2.2.1 _ q_7_16) (Nat.le_of_ble_eq_true rfl) (Nat.le_of_ble_eq_true rfl) (Nat.zero_le _) (Nat.zero_le _) dX7_fly_206 ?_
      refine lv_topi (fun x116 ex116 => ?_)
      replace h := h x116 ex116
      obtain ⟨hK_a106, h⟩ := h
      obtain ⟨hi117, h⟩ := h
      refine x_iast C hR hK_a106 hS hi117 dX7_fly_209 (fun H locs hR hS => ?_)
      obtain ⟨S118, eS118⟩ : ∃ z : sT, z = s_sB S a106 (Int32.toNatClampNeg (8 : Int32)) x116 := ⟨_, rfl⟩
      rw [← eS118] at hR
      replace h := h S118 eS118
      have hK_x0 : s_K S118 x0 = 9 := by rw [eS118]; exact hK_x0
      have hK_a101 : s_K S118 a101 = 13 := by rw [eS118]; exact hK_a101
      have hK_a104 : s_K S118 a104 = 13 := by rw [eS118]; exact hK_a104
      have hK_a107 : s_K S118 a107 = 13 := by rw [eS118]; exact hK_a107
      have hK_a109 : s_K S118 a109 = 11 := by rw [eS118]; exact hK_a109
      have hK_a112 : s_K S118 a112 = 11 := by rw [eS118]; exact hK_a112
      have hK_a106 : s_K S118 a106 = 11 := by rw [eS118]; exact hK_a106
      obtain ⟨x119, ex119⟩ : ∃ z : Int32, z = x1 + 1 := ⟨_, rfl⟩
      replace h := h x119 ex119
      refine lv_iinc (v := x119) (lv' := [(1, .int x119), (0, .ref x0)]) hx hb dX7_fly_210 hl (k := 1) rfl (by rw [ex119]; rfl) (by decide) rfl (fun ls hl => ?_)
      refine lv_goto (tgt := 171) hx hb dX7_fly_213 (by decide) ?_
      exact ih x0 x119 S118 h H locs ls hR hS (lv_sub (l' := [(0, .ref x0), (1, .int x119)]) hl [1, 0] rfl)
set_option maxHeartbeats 4000000 in
theorem t_X7_fly_b157 {Q : sT → Prop} (C : x_C p s m args c cX7_fly RX7 gg) (hml : c.maxLocals = 5) (hr : meth.sig.returnType = none) (hlocks : meth.locks = false) {x0 : Nat} {x1 : Int32} {x2 : Int32} {x3 : Int32} {kk26 : Nat → Int32 → sT → Prop} {kk67 : Nat → Int32 → Int32 → Int32 → sT → Prop} {S : sT} (hk26 : ∀ (x0 : Nat) (x1 : Int32) (S : sT), kk26 x0 x1 S → x_X p l e r_X7_fly s m args below meth c gg 5 0 0 (MQ below (va_Qv Q (fun S1 t => s_Rep gg S1 t.heap) (s_A gg)) args s 0 0 (s_A gg)) 26 [(0, .ref x0), (1, .int x1)] [] S) (hk67 : ∀ (x0 : Nat) (x1 : Int32) (x2 : Int32) (x3 : Int32) (S : sT), kk67 x0 x1 x2 x3 S → x_X p l e r_X7_fly s m args below meth c gg 5 0 0 (MQ below (va_Qv Q (fun S1 t => s_Rep gg S1 t.heap) (s_A gg)) args s 0 0 (s_A gg)) 67 [(0, .ref x0), (1, .int x1), (2, .int x2), (3, .int x3)] [] S) (h : w_X7_fly_b157 x0 x1 x2 x3 S kk26 kk67 Q) : x_X p l e r_X7_fly s m args below meth c gg 5 0 0 (MQ below (va_Qv Q (fun S1 t => s_Rep gg S1 t.heap) (s_A gg)) args s 0 0 (s_A gg)) 157 [(0, .ref x0), (1, .int x1), (2, .int x2), (3, .int x3)] [] S := by
  unfold w_X7_fly_b157 at h
  obtain ⟨hx, hb, -⟩ := id C
  intro H locs ls hR hS hl
  obtain ⟨x101, ex101⟩ : ∃ z : Int32, z = x3 + 2 := ⟨_, rfl⟩
  replace h := h x101 ex101
  refine lv_iinc (v := x101) (lv' := [(3, .int x101), (0, .ref x0), (1, .int x1), (2, .int x2)]) hx hb dX7_fly_157 hl (k := 3) rfl (by rw [ex101]; rfl) (by decide) rfl (fun ls hl => ?_)
  refine lv_goto (tgt := 67) hx hb dX7_fly_160 (by decide) ?_
  exact hk67 x0 x1 x2 x101 S h H locs ls hR hS (lv_sub (l' := [(0, .ref x0), (1, .int x1), (2, .int x2), (3, .int x101)]) hl [1, 2, 3, 0] rfl)
set_option maxHeartbeats 4000000 in
theorem t_X7_fly_b118 {Q : sT → Prop} (C : x_C p s m args c cX7_fly RX7 gg) (hml : c.maxLocals = 5) (hr : meth.sig.returnType = none) (hlocks : meth.locks = false) {x0 : Nat} {x1 : Int32} {x2 : Int32} {x3 : Int32} {x4 : Int32} {kk26 : Nat → Int32 → sT → Prop} {kk67 : Nat → Int32 → Int32 → Int32 → sT → Prop} {S : sT} (hk26 : ∀ (x0 : Nat) (x1 : Int32) (S : sT), kk26 x0 x1 S → x_X p l e r_X7_fly s m args below meth c gg 5 0 0 (MQ below (va_Qv Q (fun S1 t => s_Rep gg S1 t.heap) (s_A gg)) args s 0 0 (s_A gg)) 26 [(0, .ref x0), (1, .int x1)] [] S) (hk67 : ∀ (x0 : Nat) (x1 : Int32) (x2 : Int32) (x3 : Int32) (S : sT), kk67 x0 x1 x2 x3 S → x_X p l e r_X7_fly s m args below meth c gg 5 0 0 (MQ below (va_Qv Q (fun S1 t => s_Rep gg S1 t.heap) (s_A gg)) args s 0 0 (s_A gg)) 67 [(0, .ref x0), (1, .int x1), (2, .int x2), (3, .int x3)] [] S) (h : w_X7_fly_b118 x0 x1 x2 x3 x4 S kk26 kk67 Q) : x_X p l e r_X7_fly s m args below meth c gg 5 0 0 (MQ below (va_Qv Q (fun S1 t => s_Rep gg S1 t.heap) (s_A gg)) args s 0 0 (s_A gg)) 118 [(0, .ref x0), (1, .int x1), (2, .int x2), (3, .int x3), (4, .int x4)] [] S := by
  unfold w_X7_fly_b118 at h
  obtain ⟨hx, hb, -⟩ := id C
  intro H locs ls hR hS hl
  refine lv_iload hx hb dX7_fly_118 (lv_at hl 4 rfl) ?_
  refine lv_if_lt (tgt := 157) hx hb dX7_fly_120 (by decide) (fun hc101 => ?_) (fun hc101 => ?_)
  · replace h := h.1 hc101
    exact t_X7_fly_b157 C hml hr hlocks hk26 hk67 h H locs ls hR hS (lv_sub (l' := [(0, .ref x0), (1, .int x1), (2, .int x2), (3, .int x3)]) hl [0, 1, 2, 3] rfl)
  · replace h := h.2 hc101
    refine lv_iload hx hb dX7_fly_123 (lv_at hl 4 rfl) ?_
    refine lv_aload_n hx hb dX7_fly_125 rfl (lv_at hl 0 rfl) ?_
    obtain ⟨hK_x0, h⟩ := h
    refine x_g_257 C hR hK_x0 q_3_19 dX7_fly_126 ?_
    obtain ⟨a102, ea102, h⟩ := h
    refine x_some ea102 ?_
    obtain ⟨hK_a102, h⟩ := h
    refine x_alen13 C hR hK_a102 dX7_fly_129 ?_
    refine lv_topi (fun x103 ex103 => ?_)
    replace h := h x103 ex103
    refine lv_icmp_lt (tgt := 136) hx hb dX7_fly_130 (by decide) (fun hc104 => ?_) (fun hc104 => ?_)
    · replace h := h.1 hc104
      refine lv_aload_n hx hb dX7_fly_136 rfl (lv_at hl 0 rfl) ?_
      refine x_g_260 C hR hK_x0 q_3_16 dX7_fly_137 ?_
      obtain ⟨a105, ea105, h⟩ := h
      refine x_some ea105 ?_
      refine lv_iload_n hx hb dX7_fly_140 rfl (lv_at hl 1 rfl) ?_
      refine lv_dup2_11 hx hb dX7_fly_141 rfl rfl ?_
      obtain ⟨hK_a105, h⟩ := h
      obtain ⟨hi106, h⟩ := h
      refine x_iald C hR hK_a105 hi106 dX7_fly_142 ?_
      refine lv_topi (fun x107 ex107 => ?_)
      replace h := h x107 ex107
      refine lv_iload_n hx hb dX7_fly_143 rfl (lv_at hl 2 rfl) ?_
      refine lv_isub hx hb dX7_fly_144 ?_
      refine lv_topi (fun x108 ex108 => ?_)
      replace h := h x108 ex108
      obtain ⟨hi109, h⟩ := h
      refine x_iast C hR hK_a105 hS hi109 dX7_fly_145 (fun H locs hR hS => ?_)
      obtain ⟨S110, eS110⟩ : ∃ z : sT, z = s_sB S a105 (Int32.toNatClampNeg x1) x108 := ⟨_, rfl⟩
      rw [← eS110] at hR
      replace h := h S110 eS110
      have hK_x0 : s_K S110 x0 = 9 := by rw [eS110]; exact hK_x0
      have hK_a102 : s_K S110 a102 = 13 := by rw [eS110]; exact hK_a102
      have hK_a105 : s_K S110 a105 = 11 := by rw [eS110]; exact hK_a105
      refine lv_aload_n hx hb dX7_fly_146 rfl (lv_at hl 0 rfl) ?_
      refine x_g_260 C hR hK_x0 q_3_16 dX7_fly_147 ?_
      obtain ⟨a111, ea111, h⟩ := h
      refine x_some ea111 ?_
      refine lv_iload hx hb dX7_fly_150 (lv_at hl 4 rfl) ?_
      refine lv_dup2_11 hx hb dX7_fly_152 rfl rfl ?_
      obtain ⟨hK_a111, h⟩ := h
      obtain ⟨hi112, h⟩ := h
      refine x_iald C hR hK_a111 hi112 dX7_fly_153 ?_
      refine lv_topi (fun x113 ex113 => ?_)
      replace h := h x113 ex113
      refine lv_iload_n hx hb dX7_fly_154 rfl (lv_at hl 2 rfl) ?_
      refine lv_iadd hx hb dX7_fly_155 ?_
      refine lv_topi (fun x114 ex114 => ?_)
      replace h := h x114 ex114
      obtain ⟨hi115, h⟩ := h
      refine x_iast C hR hK_a111 hS hi115 dX7_fly_156 (fun H locs hR hS => ?_)
      obtain ⟨S116, eS116⟩ : ∃ z : sT, z = s_sB S110 a111 (Int32.toNatClampNeg x4) x114 := ⟨_, rfl⟩
      rw [← eS116] at hR
      replace h := h S116 eS116
      have hK_x0 : s_K S116 x0 = 9 := by rw [eS116]; exact hK_x0
      have hK_a102 : s_K S116 a102 = 13 := by rw [eS116]; exact hK_a102
      have hK_a105 : s_K S116 a105 = 11 := by rw [eS116]; exact hK_a105
      have hK_a111 : s_K S116 a111 = 11 := by rw [eS116]; exact hK_a111
      exact t_X7_fly_b157 C hml hr hlocks hk26 hk67 h H locs ls hR hS (lv_sub (l' := [(0, .ref x0), (1, .int x1), (2, .int x2), (3, .int x3)]) hl [0, 1, 2, 3] rfl)
    · replace h := h.2 hc104
      refine lv_goto (tgt := 157) hx hb dX7_fly_133 (by decide) ?_
      exact t_X7_fly_b157 C hml hr hlocks hk26 hk67 h H locs ls hR hS (lv_sub (l' := [(0, .ref x0), (1, .int x1), (2, .int x2), (3, .int x3)]) hl [0, 1, 2, 3] rfl)
set_option maxHeartbeats 4000000 in
theorem t_X7_fly_b77 {Q : sT → Prop} (C : x_C p s m args c cX7_fly RX7 gg) (hml : c.maxLocals = 5) (hr : meth.sig.returnType = none) (hlocks : meth.locks = false) {kk26 : Nat → Int32 → sT → Prop} {kk67 : Nat → Int32 → Int32 → Int32 → sT → Prop} (hk26 : ∀ (x0 : Nat) (x1 : Int32) (S : sT), kk26 x0 x1 S → x_X p l e r_X7_fly s m args below meth c gg 5 0 0 (MQ below (va_Qv Q (fun S1 t => s_Rep gg S1 t.heap) (s_A gg)) args s 0 0 (s_A gg)) 26 [(0, .ref x0), (1, .int x1)] [] S) (hk67 : ∀ (x0 : Nat) (x1 : Int32) (x2 : Int32) (x3 : Int32) (S : sT), kk67 x0 x1 x2 x3 S → x_X p l e r_X7_fly s m args below meth c gg 5 0 0 (MQ below (va_Qv Q (fun S1 t => s_Rep gg S1 t.heap) (s_A gg)) args s 0 0 (s_A gg)) 67 [(0, .ref x0), (1, .int x1), (2, .int x2), (3, .int x3)] [] S) : ∀ (n : Nat) (x0 : Nat) (x1 : Int32) (x2 : Int32) (x3 : Int32) (x4 : Int32) (S : sT), w_X7_fly_b77 kk26 kk67 Q n x0 x1 x2 x3 x4 S → x_X p l e r_X7_fly s m args below meth c gg 5 0 0 (MQ below (va_Qv Q (fun S1 t => s_Rep gg S1 t.heap) (s_A gg)) args s 0 0 (s_A gg)) 77 [(0, .ref x0), (1, .int x1), (2, .int x2), (3, .int x3), (4, .int x4)] [] S := by
  obtain ⟨hx, hb, -⟩ := id C
  intro n
  induction n with
  | zero => intro x0 x1 x2 x3 x4 S h; exact absurd h id
  | succ n ih =>
    intro x0 x1 x2 x3 x4 S h H locs ls hR hS hl
    unfold w_X7_fly_b77 at h
    refine lv_iload hx hb dX7_fly_77 (lv_at hl 4 rfl) ?_
    refine lv_if_lt (tgt := 118) hx hb dX7_fly_79 (by decide) (fun hc101 => ?_) (fun hc101 => ?_)
    · replace h := h.1 hc101
      exact t_X7_fly_b118 C hml hr hlocks hk26 hk67 h H locs ls hR hS (lv_sub (l' := [(0, .ref x0), (1, .int x1), (2, .int x2), (3, .int x3), (4, .int x4)]) hl [0, 1, 2, 3, 4] rfl)
    · replace h := h.2 hc101
      refine lv_iload hx hb dX7_fly_82 (lv_at hl 4 rfl) ?_
      refine lv_aload_n hx hb dX7_fly_84 rfl (lv_at hl 0 rfl) ?_
      obtain ⟨hK_x0, h⟩ := h
      refine x_g_257 C hR hK_x0 q_3_19 dX7_fly_85 ?_
      obtain ⟨a102, ea102, h⟩ := h
      refine x_some ea102 ?_
      obtain ⟨hK_a102, h⟩ := h
      refine x_alen13 C hR hK_a102 dX7_fly_88 ?_
      refine lv_topi (fun x103 ex103 => ?_)
      replace h := h x103 ex103
      refine lv_icmp_ge (tgt := 118) hx hb dX7_fly_89 (by decide) (fun hc104 => ?_) (fun hc104 => ?_)
      · replace h := h.1 hc104
        exact t_X7_fly_b118 C hml hr hlocks hk26 hk67 h H locs ls hR hS (lv_sub (l' := [(0, .ref x0), (1, .int x1), (2, .int x2), (3, .int x3), (4, .int x4)]) hl [0, 1, 2, 3, 4] rfl)
      · replace h := h.2 hc104
        refine lv_aload_n hx hb dX7_fly_92 rfl (lv_at hl 0 rfl) ?_
        refine x_g_257 C hR hK_x0 q_3_19 dX7_fly_93 ?_
        obtain ⟨a105, ea105, h⟩ := h
        refine x_some ea105 ?_
        refine lv_iload hx hb dX7_fly_96 (lv_at hl 4 rfl) ?_
        obtain ⟨hK_a105, h⟩ := h
        obtain ⟨hi106, a107, ea107, h⟩ := h
        refine x_aald13 C hR hK_a105 hi106 dX7_fly_98 ?_
        refine x_some ea107 ?_
        refine lv_iconst (v := 4) hx hb dX7_fly_99 (by decide) ?_
        obtain ⟨hK_a107, h⟩ := h
        obtain ⟨hi108, h⟩ := h
        refine x_iald C hR hK_a107 hi108 dX7_fly_100 ?_
        refine lv_topi (fun x109 ex109 => ?_)
        replace h := h x109 ex109
        refine lv_iconst (v := 2) hx hb dX7_fly_101 (by decide) ?_
        refine lv_iconst (v := 4) hx hb dX7_fly_102 (by decide) ?_
        refine x_ki (x_runSN (As := [.int x109, .int (2 : Int32), .int (4 : Int32)]) (rest := []) (host := "SubakhallModel") C hml hR hS (m_X8_is l gg x109 (2 : Int32) (4 : Int32) S h) b_X8_is xm_0 rfl rfl ⟨Nat.le_of_ble_eq_true rfl, Nat.le_of_ble_eq_true rfl⟩ rfl hl.1 (Nat.le_of_ble_eq_true rfl) dX7_fly_103 ⟨Nat.le_refl _, Nat.le_refl _⟩) hS (fun x111 S110 H locs hn hR hS => ?_)
        replace h := hn
        clear hn
        refine lv_if_ne (tgt := 118) hx hb dX7_fly_106 (by decide) (fun hc112 => ?_) (fun hc112 => ?_)
        · replace h := h.1 hc112
          exact t_X7_fly_b118 C hml hr hlocks hk26 hk67 h H locs ls hR hS (lv_sub (l' := [(0, .ref x0), (1, .int x1), (2, .int x2), (3, .int x3), (4, .int x4)]) hl [0, 1, 2, 3, 4] rfl)
        · replace h := h.2 hc112
          refine lv_iload hx hb dX7_fly_109 (lv_at hl 4 rfl) ?_
          refine lv_iload_n hx hb dX7_fly_111 rfl (lv_at hl 3 rfl) ?_
          refine lv_iadd hx hb dX7_fly_112 ?_
          refine lv_topi (fun x113 ex113 => ?_)
          replace h := h x113 ex113
          refine lv_istore (lv' := [(4, .int x113), (0, .ref x0), (1, .int x1), (2, .int x2), (3, .int x3)]) hx hb dX7_fly_113 hl (by decide) rfl (fun ls hl => ?_)
          refine lv_goto (tgt := 77) hx hb dX7_fly_115 (by decide) ?_
          exact ih x0 x1 x2 x3 x113 S110 h H locs ls hR hS (lv_sub (l' := [(0, .ref x0), (1, .int x1), (2, .int x2), (3, .int x3), (4, .int x113)]) hl [1, 2, 3, 4, 0] rfl)
set_option maxHeartbeats 4000000 in
theorem t_X7_fly_b67 {Q : sT → Prop} (C : x_C p s m args c cX7_fly RX7 gg) (hml : c.maxLocals = 5) (hr : meth.sig.returnType = none) (hlocks : meth.locks = false) {kk26 : Nat → Int32 → sT → Prop} (hk26 : ∀ (x0 : Nat) (x1 : Int32) (S : sT), kk26 x0 x1 S → x_X p l e r_X7_fly s m args below meth c gg 5 0 0 (MQ below (va_Qv Q (fun S1 t => s_Rep gg S1 t.heap) (s_A gg)) args s 0 0 (s_A gg)) 26 [(0, .ref x0), (1, .int x1)] [] S) : ∀ (n : Nat) (x0 : Nat) (x1 : Int32) (x2 : Int32) (x3 : Int32) (S : sT), w_X7_fly_b67 kk26 Q n x0 x1 x2 x3 S → x_X p l e r_X7_fly s m args below meth c gg 5 0 0 (MQ below (va_Qv Q (fun S1 t => s_Rep gg S1 t.heap) (s_A gg)) args s 0 0 (s_A gg)) 67 [(0, .ref x0), (1, .int x1), (2, .int x2), (3, .int x3)] [] S := by
  obtain ⟨hx, hb, -⟩ := id C
  intro n
  induction n with
  | zero => intro x0 x1 x2 x3 S h; exact absurd h id
  | succ n ih =>
    intro x0 x1 x2 x3 S h H locs ls hR hS hl
    unfold w_X7_fly_b67 at h
    refine lv_iload_n hx hb dX7_fly_67 rfl (lv_at hl 3 rfl) ?_
    refine lv_iconst (v := 2) hx hb dX7_fly_68 (by decide) ?_
    refine lv_icmp_ge (tgt := 163) hx hb dX7_fly_69 (by decide) (fun hc101 => ?_) (fun hc101 => ?_)
    · replace h := h.1 hc101
      obtain ⟨x102, ex102⟩ : ∃ z : Int32, z = x1 + 1 := ⟨_, rfl⟩
      replace h := h x102 ex102
      refine lv_iinc (v := x102) (lv' := [(1, .int x102), (0, .ref x0), (2, .int x2), (3, .int x3)]) hx hb dX7_fly_163 hl (k := 1) rfl (by rw [ex102]; rfl) (by decide) rfl (fun ls hl => ?_)
      refine lv_goto (tgt := 26) hx hb dX7_fly_166 (by decide) ?_
      exact hk26 x0 x102 S h H locs ls hR hS (lv_sub (l' := [(0, .ref x0), (1, .int x102)]) hl [1, 0] rfl)
    · replace h := h.2 hc101
      refine lv_iload_n hx hb dX7_fly_72 rfl (lv_at hl 1 rfl) ?_
      refine lv_iload_n hx hb dX7_fly_73 rfl (lv_at hl 3 rfl) ?_
      refine lv_iadd hx hb dX7_fly_74 ?_
      refine lv_topi (fun x103 ex103 => ?_)
      replace h := h x103 ex103
      refine lv_istore (lv' := [(4, .int x103), (0, .ref x0), (1, .int x1), (2, .int x2), (3, .int x3)]) hx hb dX7_fly_75 hl (by decide) rfl (fun ls hl => ?_)
      obtain ⟨n9, h⟩ := h
      exact t_X7_fly_b77 C hml hr hlocks hk26 (fun x0 x1 x2 x3 S h => ih x0 x1 x2 x3 S h) n9 x0 x1 x2 x3 x103 S h H locs ls hR hS (lv_sub (l' := [(0, .ref x0), (1, .int x1), (2, .int x2), (3, .int x3), (4, .int x103)]) hl [1, 2, 3, 4, 0] rfl)
set_option maxHeartbeats 4000000 in
theorem t_X7_fly_b64 {Q : sT → Prop} (C : x_C p s m args c cX7_fly RX7 gg) (hml : c.maxLocals = 5) (hr : meth.sig.returnType = none) (hlocks : meth.locks = false) {x0 : Nat} {x1 : Int32} {y0 : Int32} {kk26 : Nat → Int32 → sT → Prop} {S : sT} (hk26 : ∀ (x0 : Nat) (x1 : Int32) (S : sT), kk26 x0 x1 S → x_X p l e r_X7_fly s m args below meth c gg 5 0 0 (MQ below (va_Qv Q (fun S1 t => s_Rep gg S1 t.heap) (s_A gg)) args s 0 0 (s_A gg)) 26 [(0, .ref x0), (1, .int x1)] [] S) (h : w_X7_fly_b64 x0 x1 y0 S kk26 Q) : x_X p l e r_X7_fly s m args below meth c gg 5 0 0 (MQ below (va_Qv Q (fun S1 t => s_Rep gg S1 t.heap) (s_A gg)) args s 0 0 (s_A gg)) 64 [(0, .ref x0), (1, .int x1)] [.int y0] S := by
  unfold w_X7_fly_b64 at h
  obtain ⟨hx, hb, -⟩ := id C
  intro H locs ls hR hS hl
  refine lv_istore_n (lv' := [(2, .int y0), (0, .ref x0), (1, .int x1)]) hx hb dX7_fly_64 rfl hl (by decide) rfl (fun ls hl => ?_)
  refine lv_iconst (v := (-1)) hx hb dX7_fly_65 (by decide) ?_
  refine lv_istore_n (lv' := [(3, .int (-1 : Int32)), (2, .int y0), (0, .ref x0), (1, .int x1)]) hx hb dX7_fly_66 rfl hl (by decide) rfl (fun ls hl => ?_)
  obtain ⟨n9, h⟩ := h
  exact t_X7_fly_b67 C hml hr hlocks hk26 n9 x0 x1 y0 (-1 : Int32) S h H locs ls hR hS (lv_sub (l' := [(0, .ref x0), (1, .int x1), (2, .int y0), (3, .int (-1 : Int32))]) hl [2, 3, 1, 0] rfl)
set_option maxHeartbeats 4000000 in
theorem t_X7_fly_b26 {Q : sT → Prop} (C : x_C p s m args c cX7_fly RX7 gg) (hml : c.maxLocals = 5) (hr : meth.sig.returnType = none) (hlocks : meth.locks = false)   : ∀ (n : Nat) (x0 : Nat) (x1 : Int32) (S : sT), w_X7_fly_b26  Q n x0 x1 S → x_X p l e r_X7_fly s m args below meth c gg 5 0 0 (MQ below (va_Qv Q (fun S1 t => s_Rep gg S1 t.heap) (s_A gg)) args s 0 0 (s_A gg)) 26 [(0, .ref x0), (1, .int x1)] [] S := by
  obtain ⟨hx, hb, -⟩ := id C
  intro n
  induction n with
  | zero => intro x0 x1 S h; exact absurd h id
  | succ n ih =>
    intro x0 x1 S h H locs ls hR hS hl
    unfold w_X7_fly_b26 at h
    refine lv_iload_n hx hb dX7_fly_26 rfl (lv_at hl 1 rfl) ?_
    refine lv_aload_n hx hb dX7_fly_27 rfl (lv_at hl 0 rfl) ?_
    obtain ⟨hK_x0, h⟩ := h
    refine x_g_257 C hR hK_x0 q_3_19 dX7_fly_28 ?_
    obtain ⟨a101, ea101, h⟩ := h
    refine x_some ea101 ?_
    obtain ⟨hK_a101, h⟩ := h
    refine x_alen13 C hR hK_a101 dX7_fly_31 ?_
    refine lv_topi (fun x102 ex102 => ?_)
    replace h := h x102 ex102
    refine lv_icmp_ge (tgt := 169) hx hb dX7_fly_32 (by decide) (fun hc103 => ?_) (fun hc103 => ?_)
    · replace h := h.1 hc103
      refine lv_iconst (v := 0) hx hb dX7_fly_169 (by decide) ?_
      refine lv_istore_n (lv' := [(1, .int (0 : Int32)), (0, .ref x0)]) hx hb dX7_fly_170 rfl hl (by decide) rfl (fun ls hl => ?_)
      obtain ⟨n9, h⟩ := h
      exact t_X7_fly_b171 C hml hr hlocks  n9 x0 (0 : Int32) S h H locs ls hR hS (lv_sub (l' := [(0, .ref x0), (1, .int (0 : Int32))]) hl [1, 0] rfl)
    · replace h := h.2 hc103
      refine lv_aload_n hx hb dX7_fly_35 rfl (lv_at hl 0 rfl) ?_
      refine x_g_257 C hR hK_x0 q_3_19 dX7_fly_36 ?_
      obtain ⟨a104, ea104, h⟩ := h
      refine x_some ea104 ?_
      refine lv_iload_n hx hb dX7_fly_39 rfl (lv_at hl 1 rfl) ?_
      obtain ⟨hK_a104, h⟩ := h
      obtain ⟨hi105, a106, ea106, h⟩ := h
      refine x_aald13 C hR hK_a104 hi105 dX7_fly_40 ?_
      refine x_some ea106 ?_
      refine lv_bipush (v := 8) hx hb dX7_fly_41 (by decide) ?_
      obtain ⟨hK_a106, h⟩ := h
      obtain ⟨hi107, h⟩ := h
      refine x_iald C hR hK_a106 hi107 dX7_fly_43 ?_
      refine lv_topi (fun x108 ex108 => ?_)
      replace h := h x108 ex108
      refine lv_bipush (v := 20) hx hb dX7_fly_44 (by decide) ?_
      refine lv_icmp_le (tgt := 63) hx hb dX7_fly_46 (by decide) (fun hc109 => ?_) (fun hc109 => ?_)
      · replace h := h.1 hc109
        refine lv_iconst (v := 0) hx hb dX7_fly_63 (by decide) ?_
        exact t_X7_fly_b64 C hml hr hlocks (fun x0 x1 S h => ih x0 x1 S h) h H locs ls hR hS (lv_sub (l' := [(0, .ref x0), (1, .int x1)]) hl [0, 1] rfl)
      · replace h := h.2 hc109
        refine lv_aload_n hx hb dX7_fly_49 rfl (lv_at hl 0 rfl) ?_
        refine x_g_257 C hR hK_x0 q_3_19 dX7_fly_50 ?_
        obtain ⟨a110, ea110, h⟩ := h
        refine x_some ea110 ?_
        refine lv_iload_n hx hb dX7_fly_53 rfl (lv_at hl 1 rfl) ?_
        obtain ⟨hK_a110, h⟩ := h
        obtain ⟨hi111, a112, ea112, h⟩ := h
        refine x_aald13 C hR hK_a110 hi111 dX7_fly_54 ?_
        refine x_some ea112 ?_
        refine lv_bipush (v := 8) hx hb dX7_fly_55 (by decide) ?_
        obtain ⟨hK_a112, h⟩ := h
        obtain ⟨hi113, h⟩ := h
        refine x_iald C hR hK_a112 hi113 dX7_fly_57 ?_
        refine lv_topi (fun x114 ex114 => ?_)
        replace h := h x114 ex114
        refine lv_iconst (v := 5) hx hb dX7_fly_58 (by decide) ?_
        refine lv_idiv hx hb dX7_fly_59 (by decide) ?_
        refine lv_topi (fun x115 ex115 => ?_)
        replace h := h x115 ex115
        refine lv_goto (tgt := 64) hx hb dX7_fly_60 (by decide) ?_
        exact t_X7_fly_b64 C hml hr hlocks (fun x0 x1 S h => ih x0 x1 S h) h H locs ls hR hS (lv_sub (l' := [(0, .ref x0), (1, .int x1)]) hl [0, 1] rfl)
set_option maxHeartbeats 4000000 in
theorem t_X7_fly_b2 {Q : sT → Prop} (C : x_C p s m args c cX7_fly RX7 gg) (hml : c.maxLocals = 5) (hr : meth.sig.returnType = none) (hlocks : meth.locks = false)   : ∀ (n : Nat) (x0 : Nat) (x1 : Int32) (S : sT), w_X7_fly_b2  Q n x0 x1 S → x_X p l e r_X7_fly s m args below meth c gg 5 0 0 (MQ below (va_Qv Q (fun S1 t => s_Rep gg S1 t.heap) (s_A gg)) args s 0 0 (s_A gg)) 2 [(0, .ref x0), (1, .int x1)] [] S := by
  obtain ⟨hx, hb, -⟩ := id C
  intro n
  induction n with
  | zero => intro x0 x1 S h; exact absurd h id
  | succ n ih =>
    intro x0 x1 S h H locs ls hR hS hl
    unfold w_X7_fly_b2 at h
    refine lv_iload_n hx hb dX7_fly_2 rfl (lv_at hl 1 rfl) ?_
    refine lv_aload_n hx hb dX7_fly_3 rfl (lv_at hl 0 rfl) ?_
    obtain ⟨hK_x0, h⟩ := h
    refine x_g_257 C hR hK_x0 q_3_19 dX7_fly_4 ?_
    obtain ⟨a101, ea101, h⟩ := h
    refine x_some ea101 ?_
    obtain ⟨hK_a101, h⟩ := h
    refine x_alen13 C hR hK_a101 dX7_fly_7 ?_
    refine lv_topi (fun x102 ex102 => ?_)
    replace h := h x102 ex102
    refine lv_icmp_ge (tgt := 24) hx hb dX7_fly_8 (by decide) (fun hc103 => ?_) (fun hc103 => ?_)
    · replace h := h.1 hc103
      refine lv_iconst (v := 0) hx hb dX7_fly_24 (by decide) ?_
      refine lv_istore_n (lv' := [(1, .int (0 : Int32)), (0, .ref x0)]) hx hb dX7_fly_25 rfl hl (by decide) rfl (fun ls hl => ?_)
      obtain ⟨n9, h⟩ := h
      exact t_X7_fly_b26 C hml hr hlocks  n9 x0 (0 : Int32) S h H locs ls hR hS (lv_sub (l' := [(0, .ref x0), (1, .int (0 : Int32))]) hl [1, 0] rfl)
    · replace h := h.2 hc103
      refine lv_aload_n hx hb dX7_fly_11 rfl (lv_at hl 0 rfl) ?_
      refine x_g_260 C hR hK_x0 q_3_16 dX7_fly_12 ?_
      obtain ⟨a104, ea104, h⟩ := h
      refine x_some ea104 ?_
      refine lv_iload_n hx hb dX7_fly_15 rfl (lv_at hl 1 rfl) ?_
      refine lv_iconst (v := 0) hx hb dX7_fly_16 (by decide) ?_
      obtain ⟨hK_a104, h⟩ := h
      obtain ⟨hi105, h⟩ := h
      refine x_iast C hR hK_a104 hS hi105 dX7_fly_17 (fun H locs hR hS => ?_)
      obtain ⟨S106, eS106⟩ : ∃ z : sT, z = s_sB S a104 (Int32.toNatClampNeg x1) (0 : Int32) := ⟨_, rfl⟩
      rw [← eS106] at hR
      replace h := h S106 eS106
      have hK_x0 : s_K S106 x0 = 9 := by rw [eS106]; exact hK_x0
      have hK_a101 : s_K S106 a101 = 13 := by rw [eS106]; exact hK_a101
      have hK_a104 : s_K S106 a104 = 11 := by rw [eS106]; exact hK_a104
      obtain ⟨x107, ex107⟩ : ∃ z : Int32, z = x1 + 1 := ⟨_, rfl⟩
      replace h := h x107 ex107
      refine lv_iinc (v := x107) (lv' := [(1, .int x107), (0, .ref x0)]) hx hb dX7_fly_18 hl (k := 1) rfl (by rw [ex107]; rfl) (by decide) rfl (fun ls hl => ?_)
      refine lv_goto (tgt := 2) hx hb dX7_fly_21 (by decide) ?_
      exact ih x0 x107 S106 h H locs ls hR hS (lv_sub (l' := [(0, .ref x0), (1, .int x107)]) hl [1, 0] rfl)
set_option maxHeartbeats 4000000 in
theorem t_X7_fly_b0 {Q : sT → Prop} (C : x_C p s m args c cX7_fly RX7 gg) (hml : c.maxLocals = 5) (hr : meth.sig.returnType = none) (hlocks : meth.locks = false) {x0 : Nat}  {S : sT}  (h : w_X7_fly_b0 x0 S  Q) : x_X p l e r_X7_fly s m args below meth c gg 5 0 0 (MQ below (va_Qv Q (fun S1 t => s_Rep gg S1 t.heap) (s_A gg)) args s 0 0 (s_A gg)) 0 [(0, .ref x0)] [] S := by
  unfold w_X7_fly_b0 at h
  obtain ⟨hx, hb, -⟩ := id C
  intro H locs ls hR hS hl
  refine lv_iconst (v := 0) hx hb dX7_fly_0 (by decide) ?_
  refine lv_istore_n (lv' := [(1, .int (0 : Int32)), (0, .ref x0)]) hx hb dX7_fly_1 rfl hl (by decide) rfl (fun ls hl => ?_)
  obtain ⟨n9, h⟩ := h
  exact t_X7_fly_b2 C hml hr hlocks  n9 x0 (0 : Int32) S h H locs ls hR hS (lv_sub (l' := [(0, .ref x0), (1, .int (0 : Int32))]) hl [1, 0] rfl)
theorem m_X7_fly (l : Launch) (gg : sG) (x0 : Nat) (S : sT) {Q : sT → Prop} (h : w_X7_fly x0 S Q) : x_Mv l gg yX7_fly (x_ws yX7_fly cX7_fly 5 none) r_X7_fly [.ref x0] S Q 0 0 := by
  refine x_ofW (cc := cX7_fly) (own := RX7) (by decide +kernel) rfl (Nat.le_of_ble_eq_true rfl) ?_
  intro p e s m args below meth c C hml hr hlocks hin ht H locs ls hR hS hl
  exact t_X7_fly_b0 C hml hr hlocks h H locs ls hR hS (lv_sub (l' := [(0, .ref x0)]) hl [0] rfl)
def w_X7_live_b45 (x1 : Nat) (x2 : Int32) (S : sT)  (Q : sT → Prop) : Prop :=
∀ x101 : Int32, x101 = s_min (99 : Int32) x2 →
    ∀ x102 : Int32, x102 = s_max (0 : Int32) x101 →
    s_K S x1 = 11 ∧
    vp_in (8 : Int32) (s_N S x1) ∧
    ∀ S104 : sT, S104 = s_sB S x1 (Int32.toNatClampNeg (8 : Int32)) x102 →
    Q S104
def w_X7_live_b34 (x1 : Nat) (x2 : Int32) (S : sT)  (Q : sT → Prop) : Prop :=
s_K S x1 = 11 ∧
    vp_in (16 : Int32) (s_N S x1) ∧
    ∀ x102 : Int32, x102 = s_B S x1 (Int32.toNatClampNeg (16 : Int32)) →
    ((¬ x102 = (1 : Int32) → w_X7_live_b45 x1 x2 S  Q) ∧
    (x102 = (1 : Int32) → ∀ x104 : Int32, x104 = x2 + (-4) →
    w_X7_live_b45 x1 x104 S  Q))
def w_X7_live_b0 (x1 : Nat) (S : sT)  (Q : sT → Prop) : Prop :=
s_K S x1 = 11 ∧
    vp_in (8 : Int32) (s_N S x1) ∧
    ∀ x102 : Int32, x102 = s_B S x1 (Int32.toNatClampNeg (8 : Int32)) →
    vp_in (4 : Int32) (s_N S x1) ∧
    ∀ x104 : Int32, x104 = s_B S x1 (Int32.toNatClampNeg (4 : Int32)) →
    (((2 : Int32) ≤ x104 → vp_in (4 : Int32) (s_N S x1) ∧
    ∀ x107 : Int32, x107 = s_B S x1 (Int32.toNatClampNeg (4 : Int32)) →
    (((5 : Int32) ≤ x107 → w_X7_live_b34 x1 x102 S  Q) ∧
    (¬ (5 : Int32) ≤ x107 → ∀ x109 : Int32, x109 = x102 / (4 : Int32) →
    ∀ x110 : Int32, x110 = (1 : Int32) + x109 →
    ∀ x111 : Int32, x111 = x102 + x110 →
    w_X7_live_b34 x1 x111 S  Q))) ∧
    (¬ (2 : Int32) ≤ x104 → ∀ x112 : Int32, x112 = x102 / (2 : Int32) →
    w_X7_live_b34 x1 x112 S  Q))
def w_X7_live (x0 : Nat) (x1 : Nat) (S : sT) (Q : sT → Prop) : Prop := w_X7_live_b0 x1 S Q
def r_X7_live : Room := x_rm 1 40 0 0
theorem b_X7_live : x_BV yX7_live cX7_live 3 none 1 := ⟨q_27_18, q_27_16, q_27_17, q_3_7, by decide +kernel⟩
set_option maxHeartbeats 4000000 in
theorem t_X7_live_b45 {Q : sT → Prop} (C : x_C p s m args c cX7_live RX7 gg) (hml : c.maxLocals = 3) (hr : meth.sig.returnType = none) (hlocks : meth.locks = false) {x1 : Nat} {x2 : Int32}  {S : sT}  (h : w_X7_live_b45 x1 x2 S  Q) : x_X p l e r_X7_live s m args below meth c gg 3 0 0 (MQ below (va_Qv Q (fun S1 t => s_Rep gg S1 t.heap) (s_A gg)) args s 0 0 (s_A gg)) 45 [(1, .ref x1), (2, .int x2)] [] S := by
  unfold w_X7_live_b45 at h
  obtain ⟨hx, hb, -⟩ := id C
  intro H locs ls hR hS hl
  refine lv_aload_n hx hb dX7_live_45 rfl (lv_at hl 0 rfl) ?_
  refine lv_bipush (v := 8) hx hb dX7_live_46 (by decide) ?_
  refine lv_iconst (v := 0) hx hb dX7_live_48 (by decide) ?_
  refine lv_bipush (v := 99) hx hb dX7_live_49 (by decide) ?_
  refine lv_iload_n hx hb dX7_live_51 rfl (lv_at hl 1 rfl) ?_
  refine va_mmin hx hb (by rw [hml]; exact hl.1.symm) C.2.2.2.1 (C.2.2.1 _ q_27_6) (C.2.2.1 _ q_7_15) (C.2.2.1 _ q_6_13) (C.2.2.1 _ q_7_16) (Nat.le_of_ble_eq_true rfl) (Nat.le_of_ble_eq_true rfl) (Nat.zero_le _) (Nat.zero_le _) dX7_live_52 ?_
  refine lv_topi (fun x101 ex101 => ?_)
  replace h := h x101 ex101
  refine va_mmax hx hb (by rw [hml]; exact hl.1.symm) C.2.2.2.1 (C.2.2.1 _ q_27_5) (C.2.2.1 _ q_6_12) (C.2.2.1 _ q_6_13) (C.2.2.1 _ q_6_14) (Nat.le_of_ble_eq_true rfl) (Nat.le_of_ble_eq_true rfl) (Nat.zero_le _) (Nat.zero_le _) dX7_live_55 ?_
  refine lv_topi (fun x102 ex102 => ?_)
  replace h := h x102 ex102
  obtain ⟨hK_x1, h⟩ := h
  obtain ⟨hi103, h⟩ := h
  refine x_iast C hR hK_x1 hS hi103 dX7_live_58 (fun H locs hR hS => ?_)
  obtain ⟨S104, eS104⟩ : ∃ z : sT, z = s_sB S x1 (Int32.toNatClampNeg (8 : Int32)) x102 := ⟨_, rfl⟩
  rw [← eS104] at hR
  replace h := h S104 eS104
  have hK_x1 : s_K S104 x1 = 11 := by rw [eS104]; exact hK_x1
  exact W.vret hx hb hr (fun t ht hW => ⟨⟨S104, rfl, h, x_rt ht hR⟩, hS.F ht⟩) hS.2.2 dX7_live_59
set_option maxHeartbeats 4000000 in
theorem t_X7_live_b34 {Q : sT → Prop} (C : x_C p s m args c cX7_live RX7 gg) (hml : c.maxLocals = 3) (hr : meth.sig.returnType = none) (hlocks : meth.locks = false) {x1 : Nat} {x2 : Int32}  {S : sT}  (h : w_X7_live_b34 x1 x2 S  Q) : x_X p l e r_X7_live s m args below meth c gg 3 0 0 (MQ below (va_Qv Q (fun S1 t => s_Rep gg S1 t.heap) (s_A gg)) args s 0 0 (s_A gg)) 34 [(1, .ref x1), (2, .int x2)] [] S := by
  unfold w_X7_live_b34 at h
  obtain ⟨hx, hb, -⟩ := id C
  intro H locs ls hR hS hl
  refine lv_aload_n hx hb dX7_live_34 rfl (lv_at hl 0 rfl) ?_
  refine lv_bipush (v := 16) hx hb dX7_live_35 (by decide) ?_
  obtain ⟨hK_x1, h⟩ := h
  obtain ⟨hi101, h⟩ := h
  refine x_iald C hR hK_x1 hi101 dX7_live_37 ?_
  refine lv_topi (fun x102 ex102 => ?_)
  replace h := h x102 ex102
  refine lv_iconst (v := 1) hx hb dX7_live_38 (by decide) ?_
  refine lv_icmp_ne (tgt := 45) hx hb dX7_live_39 (by decide) (fun hc103 => ?_) (fun hc103 => ?_)
  · replace h := h.1 hc103
    exact t_X7_live_b45 C hml hr hlocks  h H locs ls hR hS (lv_sub (l' := [(1, .ref x1), (2, .int x2)]) hl [0, 1] rfl)
  · replace h := h.2 hc103
    obtain ⟨x104, ex104⟩ : ∃ z : Int32, z = x2 + (-4) := ⟨_, rfl⟩
    replace h := h x104 ex104
    refine lv_iinc (v := x104) (lv' := [(2, .int x104), (1, .ref x1)]) hx hb dX7_live_42 hl (k := 1) rfl (by rw [ex104]; rfl) (by decide) rfl (fun ls hl => ?_)
    exact t_X7_live_b45 C hml hr hlocks  h H locs ls hR hS (lv_sub (l' := [(1, .ref x1), (2, .int x104)]) hl [1, 0] rfl)
set_option maxHeartbeats 4000000 in
theorem t_X7_live_b0 {Q : sT → Prop} (C : x_C p s m args c cX7_live RX7 gg) (hml : c.maxLocals = 3) (hr : meth.sig.returnType = none) (hlocks : meth.locks = false) {x1 : Nat}  {S : sT}  (h : w_X7_live_b0 x1 S  Q) : x_X p l e r_X7_live s m args below meth c gg 3 0 0 (MQ below (va_Qv Q (fun S1 t => s_Rep gg S1 t.heap) (s_A gg)) args s 0 0 (s_A gg)) 0 [(1, .ref x1)] [] S := by
  unfold w_X7_live_b0 at h
  obtain ⟨hx, hb, -⟩ := id C
  intro H locs ls hR hS hl
  refine lv_aload_n hx hb dX7_live_0 rfl (lv_at hl 0 rfl) ?_
  refine lv_bipush (v := 8) hx hb dX7_live_1 (by decide) ?_
  obtain ⟨hK_x1, h⟩ := h
  obtain ⟨hi101, h⟩ := h
  refine x_iald C hR hK_x1 hi101 dX7_live_3 ?_
  refine lv_topi (fun x102 ex102 => ?_)
  replace h := h x102 ex102
  refine lv_istore_n (lv' := [(2, .int x102), (1, .ref x1)]) hx hb dX7_live_4 rfl hl (by decide) rfl (fun ls hl => ?_)
  refine lv_aload_n hx hb dX7_live_5 rfl (lv_at hl 1 rfl) ?_
  refine lv_iconst (v := 4) hx hb dX7_live_6 (by decide) ?_
  obtain ⟨hi103, h⟩ := h
  refine x_iald C hR hK_x1 hi103 dX7_live_7 ?_
  refine lv_topi (fun x104 ex104 => ?_)
  replace h := h x104 ex104
  refine lv_iconst (v := 2) hx hb dX7_live_8 (by decide) ?_
  refine lv_icmp_ge (tgt := 19) hx hb dX7_live_9 (by decide) (fun hc105 => ?_) (fun hc105 => ?_)
  · replace h := h.1 hc105
    refine lv_aload_n hx hb dX7_live_19 rfl (lv_at hl 1 rfl) ?_
    refine lv_iconst (v := 4) hx hb dX7_live_20 (by decide) ?_
    obtain ⟨hi106, h⟩ := h
    refine x_iald C hR hK_x1 hi106 dX7_live_21 ?_
    refine lv_topi (fun x107 ex107 => ?_)
    replace h := h x107 ex107
    refine lv_iconst (v := 5) hx hb dX7_live_22 (by decide) ?_
    refine lv_icmp_ge (tgt := 34) hx hb dX7_live_23 (by decide) (fun hc108 => ?_) (fun hc108 => ?_)
    · replace h := h.1 hc108
      exact t_X7_live_b34 C hml hr hlocks  h H locs ls hR hS (lv_sub (l' := [(1, .ref x1), (2, .int x102)]) hl [1, 0] rfl)
    · replace h := h.2 hc108
      refine lv_iload_n hx hb dX7_live_26 rfl (lv_at hl 0 rfl) ?_
      refine lv_iconst (v := 1) hx hb dX7_live_27 (by decide) ?_
      refine lv_iload_n hx hb dX7_live_28 rfl (lv_at hl 0 rfl) ?_
      refine lv_iconst (v := 4) hx hb dX7_live_29 (by decide) ?_
      refine lv_idiv hx hb dX7_live_30 (by decide) ?_
      refine lv_topi (fun x109 ex109 => ?_)
      replace h := h x109 ex109
      refine lv_iadd hx hb dX7_live_31 ?_
      refine lv_topi (fun x110 ex110 => ?_)
      replace h := h x110 ex110
      refine lv_iadd hx hb dX7_live_32 ?_
      refine lv_topi (fun x111 ex111 => ?_)
      replace h := h x111 ex111
      refine lv_istore_n (lv' := [(2, .int x111), (1, .ref x1)]) hx hb dX7_live_33 rfl hl (by decide) rfl (fun ls hl => ?_)
      exact t_X7_live_b34 C hml hr hlocks  h H locs ls hR hS (lv_sub (l' := [(1, .ref x1), (2, .int x111)]) hl [1, 0] rfl)
  · replace h := h.2 hc105
    refine lv_iload_n hx hb dX7_live_12 rfl (lv_at hl 0 rfl) ?_
    refine lv_iconst (v := 2) hx hb dX7_live_13 (by decide) ?_
    refine lv_idiv hx hb dX7_live_14 (by decide) ?_
    refine lv_topi (fun x112 ex112 => ?_)
    replace h := h x112 ex112
    refine lv_istore_n (lv' := [(2, .int x112), (1, .ref x1)]) hx hb dX7_live_15 rfl hl (by decide) rfl (fun ls hl => ?_)
    refine lv_goto (tgt := 34) hx hb dX7_live_16 (by decide) ?_
    exact t_X7_live_b34 C hml hr hlocks  h H locs ls hR hS (lv_sub (l' := [(1, .ref x1), (2, .int x112)]) hl [1, 0] rfl)
theorem m_X7_live (l : Launch) (gg : sG) (x0 : Nat) (x1 : Nat) (S : sT) {Q : sT → Prop} (h : w_X7_live x0 x1 S Q) : x_Mv l gg yX7_live (x_ws yX7_live cX7_live 3 none) r_X7_live [.ref x0, .ref x1] S Q 0 0 := by
  refine x_ofW (cc := cX7_live) (own := RX7) (by decide +kernel) rfl (Nat.le_of_ble_eq_true rfl) ?_
  intro p e s m args below meth c C hml hr hlocks hin ht H locs ls hR hS hl
  exact t_X7_live_b0 C hml hr hlocks h H locs ls hR hS (lv_sub (l' := [(1, .ref x1)]) hl [1] rfl)
def w_X7_grow_b215  (S : sT)  (Q : sT → Prop) : Prop :=
Q S
def w_X7_grow_b192 (x1 : Nat) (y0 : Int32) (y1 : Int32) (y2 : Int32) (y3 : Nat) (S : sT)  (Q : sT → Prop) : Prop :=
∀ x101 : Int32, x101 = y1 + y0 →
    s_K S y3 = 11 ∧
    vp_in y2 (s_N S y3) ∧
    ∀ S103 : sT, S103 = s_sB S y3 (Int32.toNatClampNeg y2) x101 →
    s_K S103 x1 = 11 ∧
    vp_in (4 : Int32) (s_N S103 x1) ∧
    ∀ x105 : Int32, x105 = s_B S103 x1 (Int32.toNatClampNeg (4 : Int32)) →
    (((5 : Int32) ≤ x105 → w_X7_grow_b215  S103  Q) ∧
    (¬ (5 : Int32) ≤ x105 → vp_in (9 : Int32) (s_N S103 x1) ∧
    ∀ x108 : Int32, x108 = s_B S103 x1 (Int32.toNatClampNeg (9 : Int32)) →
    ∀ x109 : Int32, x109 = x108 - (1 : Int32) →
    ∀ x110 : Int32, x110 = s_max (0 : Int32) x109 →
    vp_in (9 : Int32) (s_N S103 x1) ∧
    ∀ S112 : sT, S112 = s_sB S103 x1 (Int32.toNatClampNeg (9 : Int32)) x110 →
    w_X7_grow_b215  S112  Q))
def w_X7_grow_b184 (x1 : Nat) (y0 : Int32) (y1 : Int32) (y2 : Int32) (y3 : Int32) (y4 : Nat) (S : sT)  (Q : sT → Prop) : Prop :=
((y1 < y0 → w_X7_grow_b192 x1 (0 : Int32) y2 y3 y4 S  Q) ∧
    (¬ y1 < y0 → w_X7_grow_b192 x1 (1 : Int32) y2 y3 y4 S  Q))
def w_X7_grow_b158 (x1 : Nat) (x6 : Int32) (y0 : Int32) (y1 : Int32) (y2 : Int32) (y3 : Nat) (S : sT)  (Q : sT → Prop) : Prop :=
∀ x101 : Int32, x101 = y1 + y0 →
    s_K S x1 = 11 ∧
    vp_in (6 : Int32) (s_N S x1) ∧
    ∀ x103 : Int32, x103 = s_B S x1 (Int32.toNatClampNeg (6 : Int32)) →
    ((¬ x6 = (2 : Int32) → ∀ x105 : Int32, x105 = (50 : Int32) * x6 →
    ∀ x106 : Int32, x106 = (150 : Int32) + x105 →
    w_X7_grow_b184 x1 x106 x103 x101 y2 y3 S  Q) ∧
    (x6 = (2 : Int32) → w_X7_grow_b184 x1 (260 : Int32) x103 x101 y2 y3 S  Q))
def w_X7_grow_b137 (x1 : Nat) (x6 : Int32) (y0 : Int32) (y1 : Int32) (y2 : Int32) (y3 : Nat) (S : sT)  (Q : sT → Prop) : Prop :=
∀ x101 : Int32, x101 = y1 + y0 →
    s_K S x1 = 11 ∧
    vp_in (6 : Int32) (s_N S x1) ∧
    ∀ x103 : Int32, x103 = s_B S x1 (Int32.toNatClampNeg (6 : Int32)) →
    ∀ x104 : Int32, x104 = (40 : Int32) * x6 →
    ∀ x105 : Int32, x105 = (100 : Int32) + x104 →
    ((x103 < x105 → w_X7_grow_b158 x1 x6 (0 : Int32) x101 y2 y3 S  Q) ∧
    (¬ x103 < x105 → w_X7_grow_b158 x1 x6 (1 : Int32) x101 y2 y3 S  Q))
def w_X7_grow_b78 (x0 : Nat) (x1 : Nat) (y0 : Int32) (y1 : Int32) (S : sT)  (Q : sT → Prop) : Prop :=
∀ x101 : Int32, x101 = y1 + y0 →
    s_K S x1 = 11 ∧
    vp_in (7 : Int32) (s_N S x1) ∧
    ∀ x103 : Int32, x103 = s_B S x1 (Int32.toNatClampNeg (7 : Int32)) →
    ∀ x104 : Int32, x104 = x103 - x101 →
    ∀ x105 : Int32, x105 = s_max (0 : Int32) x104 →
    vp_in (7 : Int32) (s_N S x1) ∧
    ∀ S107 : sT, S107 = s_sB S x1 (Int32.toNatClampNeg (7 : Int32)) x105 →
    vp_in (6 : Int32) (s_N S107 x1) ∧
    ∀ x109 : Int32, x109 = s_B S107 x1 (Int32.toNatClampNeg (6 : Int32)) →
    s_K S107 x0 = 9 ∧
    ∃ a110 : Nat, s_R S107 258 x0 = some a110 ∧
    s_K S107 a110 = 11 ∧
    vp_in (2 : Int32) (s_N S107 a110) ∧
    ∀ x112 : Int32, x112 = s_B S107 a110 (Int32.toNatClampNeg (2 : Int32)) →
    ∀ x113 : Int32, x113 = x109 + x112 →
    vp_in (6 : Int32) (s_N S107 x1) ∧
    ∀ S115 : sT, S115 = s_sB S107 x1 (Int32.toNatClampNeg (6 : Int32)) x113 →
    vp_in (5 : Int32) (s_N S115 x1) ∧
    ∀ x117 : Int32, x117 = s_B S115 x1 (Int32.toNatClampNeg (5 : Int32)) →
    vp_in (6 : Int32) (s_N S115 x1) ∧
    ∀ x119 : Int32, x119 = s_B S115 x1 (Int32.toNatClampNeg (6 : Int32)) →
    ∀ x120 : Int32, x120 = (20 : Int32) * x117 →
    ∀ x121 : Int32, x121 = (60 : Int32) + x120 →
    ((x119 < x121 → w_X7_grow_b137 x1 x117 (0 : Int32) (2 : Int32) (4 : Int32) x1 S115  Q) ∧
    (¬ x119 < x121 → w_X7_grow_b137 x1 x117 (1 : Int32) (2 : Int32) (4 : Int32) x1 S115  Q))
def w_X7_grow_b44 (x0 : Nat) (x1 : Nat) (x3 : Int32) (y0 : Int32) (S : sT)  (Q : sT → Prop) : Prop :=
s_K S x1 = 11 ∧
    vp_in (8 : Int32) (s_N S x1) ∧
    ∀ x102 : Int32, x102 = s_B S x1 (Int32.toNatClampNeg (8 : Int32)) →
    ∀ x103 : Int32, x103 = x102 / (20 : Int32) →
    vp_in (1 : Int32) (s_N S x1) ∧
    ∀ x105 : Int32, x105 = s_B S x1 (Int32.toNatClampNeg (1 : Int32)) →
    (((2 : Int32) ≤ x105 → vp_in (1 : Int32) (s_N S x1) ∧
    ∀ x108 : Int32, x108 = s_B S x1 (Int32.toNatClampNeg (1 : Int32)) →
    ((x108 ≤ (20 : Int32) → w_X7_grow_b78 x0 x1 (0 : Int32) x103 S  Q) ∧
    (¬ x108 ≤ (20 : Int32) → w_X7_grow_b78 x0 x1 y0 x103 S  Q))) ∧
    (¬ (2 : Int32) ≤ x105 → w_X7_grow_b78 x0 x1 x3 x103 S  Q))
def w_X7_grow_b25 (x0 : Nat) (x1 : Nat) (x2 : Int32) (y0 : Int32) (S : sT)  (Q : sT → Prop) : Prop :=
((¬ x2 = 0 → ((¬ x2 = (1 : Int32) → w_X7_grow_b44 x0 x1 y0 (1 : Int32) S  Q) ∧
    (x2 = (1 : Int32) → w_X7_grow_b44 x0 x1 y0 (4 : Int32) S  Q))) ∧
    (x2 = 0 → w_X7_grow_b44 x0 x1 y0 (2 : Int32) S  Q))
def w_X7_grow_b0 (x0 : Nat) (x1 : Nat) (S : sT)  (Q : sT → Prop) : Prop :=
s_K S x1 = 11 ∧
    vp_in (4 : Int32) (s_N S x1) ∧
    ∀ x102 : Int32, x102 = s_B S x1 (Int32.toNatClampNeg (4 : Int32)) →
    ∀ x103 : Int32, x103 = x102 - (2 : Int32) →
    ((¬ x103 = 0 → ((¬ x103 = (1 : Int32) → w_X7_grow_b25 x0 x1 x103 (1 : Int32) S  Q) ∧
    (x103 = (1 : Int32) → w_X7_grow_b25 x0 x1 x103 (6 : Int32) S  Q))) ∧
    (x103 = 0 → w_X7_grow_b25 x0 x1 x103 (3 : Int32) S  Q))
def w_X7_grow (x0 : Nat) (x1 : Nat) (S : sT) (Q : sT → Prop) : Prop := w_X7_grow_b0 x0 x1 S Q
def r_X7_grow : Room := x_rm 1 40 0 0
theorem b_X7_grow : x_BV yX7_grow cX7_grow 7 none 1 := ⟨q_27_14, q_27_12, q_27_13, q_3_7, by decide +kernel⟩
set_option maxHeartbeats 4000000 in
theorem t_X7_grow_b215 {Q : sT → Prop} (C : x_C p s m args c cX7_grow RX7 gg) (hml : c.maxLocals = 7) (hr : meth.sig.returnType = none) (hlocks : meth.locks = false)   {S : sT}  (h : w_X7_grow_b215  S  Q) : x_X p l e r_X7_grow s m args below meth c gg 7 0 0 (MQ below (va_Qv Q (fun S1 t => s_Rep gg S1 t.heap) (s_A gg)) args s 0 0 (s_A gg)) 215 [] [] S := by
  unfold w_X7_grow_b215 at h
  obtain ⟨hx, hb, -⟩ := id C
  intro H locs ls hR hS hl
  exact W.vret hx hb hr (fun t ht hW => ⟨⟨S, rfl, h, x_rt ht hR⟩, hS.F ht⟩) hS.2.2 dX7_grow_215
set_option maxHeartbeats 4000000 in
theorem t_X7_grow_b192 {Q : sT → Prop} (C : x_C p s m args c cX7_grow RX7 gg) (hml : c.maxLocals = 7) (hr : meth.sig.returnType = none) (hlocks : meth.locks = false) {x1 : Nat} {y0 : Int32} {y1 : Int32} {y2 : Int32} {y3 : Nat}  {S : sT}  (h : w_X7_grow_b192 x1 y0 y1 y2 y3 S  Q) : x_X p l e r_X7_grow s m args below meth c gg 7 0 0 (MQ below (va_Qv Q (fun S1 t => s_Rep gg S1 t.heap) (s_A gg)) args s 0 0 (s_A gg)) 192 [(1, .ref x1)] [.int y0, .int y1, .int y2, .ref y3] S := by
  unfold w_X7_grow_b192 at h
  obtain ⟨hx, hb, -⟩ := id C
  intro H locs ls hR hS hl
  refine lv_iadd hx hb dX7_grow_192 ?_
  refine lv_topi (fun x101 ex101 => ?_)
  replace h := h x101 ex101
  obtain ⟨hK_y3, h⟩ := h
  obtain ⟨hi102, h⟩ := h
  refine x_iast C hR hK_y3 hS hi102 dX7_grow_193 (fun H locs hR hS => ?_)
  obtain ⟨S103, eS103⟩ : ∃ z : sT, z = s_sB S y3 (Int32.toNatClampNeg y2) x101 := ⟨_, rfl⟩
  rw [← eS103] at hR
  replace h := h S103 eS103
  have hK_y3 : s_K S103 y3 = 11 := by rw [eS103]; exact hK_y3
  refine lv_aload_n hx hb dX7_grow_194 rfl (lv_at hl 0 rfl) ?_
  refine lv_iconst (v := 4) hx hb dX7_grow_195 (by decide) ?_
  obtain ⟨hK_x1, h⟩ := h
  obtain ⟨hi104, h⟩ := h
  refine x_iald C hR hK_x1 hi104 dX7_grow_196 ?_
  refine lv_topi (fun x105 ex105 => ?_)
  replace h := h x105 ex105
  refine lv_iconst (v := 5) hx hb dX7_grow_197 (by decide) ?_
  refine lv_icmp_ge (tgt := 215) hx hb dX7_grow_198 (by decide) (fun hc106 => ?_) (fun hc106 => ?_)
  · replace h := h.1 hc106
    exact t_X7_grow_b215 C hml hr hlocks  h H locs ls hR hS (lv_sub (l' := []) hl [] rfl)
  · replace h := h.2 hc106
    refine lv_aload_n hx hb dX7_grow_201 rfl (lv_at hl 0 rfl) ?_
    refine lv_bipush (v := 9) hx hb dX7_grow_202 (by decide) ?_
    refine lv_iconst (v := 0) hx hb dX7_grow_204 (by decide) ?_
    refine lv_aload_n hx hb dX7_grow_205 rfl (lv_at hl 0 rfl) ?_
    refine lv_bipush (v := 9) hx hb dX7_grow_206 (by decide) ?_
    obtain ⟨hi107, h⟩ := h
    refine x_iald C hR hK_x1 hi107 dX7_grow_208 ?_
    refine lv_topi (fun x108 ex108 => ?_)
    replace h := h x108 ex108
    refine lv_iconst (v := 1) hx hb dX7_grow_209 (by decide) ?_
    refine lv_isub hx hb dX7_grow_210 ?_
    refine lv_topi (fun x109 ex109 => ?_)
    replace h := h x109 ex109
    refine va_mmax hx hb (by rw [hml]; exact hl.1.symm) C.2.2.2.1 (C.2.2.1 _ q_27_5) (C.2.2.1 _ q_6_12) (C.2.2.1 _ q_6_13) (C.2.2.1 _ q_6_14) (Nat.le_of_ble_eq_true rfl) (Nat.le_of_ble_eq_true rfl) (Nat.zero_le _) (Nat.zero_le _) dX7_grow_211 ?_
    refine lv_topi (fun x110 ex110 => ?_)
    replace h := h x110 ex110
    obtain ⟨hi111, h⟩ := h
    refine x_iast C hR hK_x1 hS hi111 dX7_grow_214 (fun H locs hR hS => ?_)
    obtain ⟨S112, eS112⟩ : ∃ z : sT, z = s_sB S103 x1 (Int32.toNatClampNeg (9 : Int32)) x110 := ⟨_, rfl⟩
    rw [← eS112] at hR
    replace h := h S112 eS112
    have hK_y3 : s_K S112 y3 = 11 := by rw [eS112]; exact hK_y3
    have hK_x1 : s_K S112 x1 = 11 := by rw [eS112]; exact hK_x1
    exact t_X7_grow_b215 C hml hr hlocks  h H locs ls hR hS (lv_sub (l' := []) hl [] rfl)
set_option maxHeartbeats 4000000 in
theorem t_X7_grow_b184 {Q : sT → Prop} (C : x_C p s m args c cX7_grow RX7 gg) (hml : c.maxLocals = 7) (hr : meth.sig.returnType = none) (hlocks : meth.locks = false) {x1 : Nat} {y0 : Int32} {y1 : Int32} {y2 : Int32} {y3 : Int32} {y4 : Nat}  {S : sT}  (h : w_X7_grow_b184 x1 y0 y1 y2 y3 y4 S  Q) : x_X p l e r_X7_grow s m args below meth c gg 7 0 0 (MQ below (va_Qv Q (fun S1 t => s_Rep gg S1 t.heap) (s_A gg)) args s 0 0 (s_A gg)) 184 [(1, .ref x1)] [.int y0, .int y1, .int y2, .int y3, .ref y4] S := by
  unfold w_X7_grow_b184 at h
  obtain ⟨hx, hb, -⟩ := id C
  intro H locs ls hR hS hl
  refine lv_icmp_lt (tgt := 191) hx hb dX7_grow_184 (by decide) (fun hc101 => ?_) (fun hc101 => ?_)
  · replace h := h.1 hc101
    refine lv_iconst (v := 0) hx hb dX7_grow_191 (by decide) ?_
    exact t_X7_grow_b192 C hml hr hlocks  h H locs ls hR hS (lv_sub (l' := [(1, .ref x1)]) hl [0] rfl)
  · replace h := h.2 hc101
    refine lv_iconst (v := 1) hx hb dX7_grow_187 (by decide) ?_
    refine lv_goto (tgt := 192) hx hb dX7_grow_188 (by decide) ?_
    exact t_X7_grow_b192 C hml hr hlocks  h H locs ls hR hS (lv_sub (l' := [(1, .ref x1)]) hl [0] rfl)
set_option maxHeartbeats 4000000 in
theorem t_X7_grow_b158 {Q : sT → Prop} (C : x_C p s m args c cX7_grow RX7 gg) (hml : c.maxLocals = 7) (hr : meth.sig.returnType = none) (hlocks : meth.locks = false) {x1 : Nat} {x6 : Int32} {y0 : Int32} {y1 : Int32} {y2 : Int32} {y3 : Nat}  {S : sT}  (h : w_X7_grow_b158 x1 x6 y0 y1 y2 y3 S  Q) : x_X p l e r_X7_grow s m args below meth c gg 7 0 0 (MQ below (va_Qv Q (fun S1 t => s_Rep gg S1 t.heap) (s_A gg)) args s 0 0 (s_A gg)) 158 [(1, .ref x1), (6, .int x6)] [.int y0, .int y1, .int y2, .ref y3] S := by
  unfold w_X7_grow_b158 at h
  obtain ⟨hx, hb, -⟩ := id C
  intro H locs ls hR hS hl
  refine lv_iadd hx hb dX7_grow_158 ?_
  refine lv_topi (fun x101 ex101 => ?_)
  replace h := h x101 ex101
  refine lv_aload_n hx hb dX7_grow_159 rfl (lv_at hl 0 rfl) ?_
  refine lv_bipush (v := 6) hx hb dX7_grow_160 (by decide) ?_
  obtain ⟨hK_x1, h⟩ := h
  obtain ⟨hi102, h⟩ := h
  refine x_iald C hR hK_x1 hi102 dX7_grow_162 ?_
  refine lv_topi (fun x103 ex103 => ?_)
  replace h := h x103 ex103
  refine lv_iload hx hb dX7_grow_163 (lv_at hl 1 rfl) ?_
  refine lv_iconst (v := 2) hx hb dX7_grow_165 (by decide) ?_
  refine lv_icmp_ne (tgt := 175) hx hb dX7_grow_166 (by decide) (fun hc104 => ?_) (fun hc104 => ?_)
  · replace h := h.1 hc104
    refine lv_sipush (v := 150) hx hb dX7_grow_175 (by decide) ?_
    refine lv_bipush (v := 50) hx hb dX7_grow_178 (by decide) ?_
    refine lv_iload hx hb dX7_grow_180 (lv_at hl 1 rfl) ?_
    refine lv_imul hx hb dX7_grow_182 ?_
    refine lv_topi (fun x105 ex105 => ?_)
    replace h := h x105 ex105
    refine lv_iadd hx hb dX7_grow_183 ?_
    refine lv_topi (fun x106 ex106 => ?_)
    replace h := h x106 ex106
    exact t_X7_grow_b184 C hml hr hlocks  h H locs ls hR hS (lv_sub (l' := [(1, .ref x1)]) hl [0] rfl)
  · replace h := h.2 hc104
    refine lv_sipush (v := 260) hx hb dX7_grow_169 (by decide) ?_
    refine lv_goto (tgt := 184) hx hb dX7_grow_172 (by decide) ?_
    exact t_X7_grow_b184 C hml hr hlocks  h H locs ls hR hS (lv_sub (l' := [(1, .ref x1)]) hl [0] rfl)
set_option maxHeartbeats 4000000 in
theorem t_X7_grow_b137 {Q : sT → Prop} (C : x_C p s m args c cX7_grow RX7 gg) (hml : c.maxLocals = 7) (hr : meth.sig.returnType = none) (hlocks : meth.locks = false) {x1 : Nat} {x6 : Int32} {y0 : Int32} {y1 : Int32} {y2 : Int32} {y3 : Nat}  {S : sT}  (h : w_X7_grow_b137 x1 x6 y0 y1 y2 y3 S  Q) : x_X p l e r_X7_grow s m args below meth c gg 7 0 0 (MQ below (va_Qv Q (fun S1 t => s_Rep gg S1 t.heap) (s_A gg)) args s 0 0 (s_A gg)) 137 [(1, .ref x1), (6, .int x6)] [.int y0, .int y1, .int y2, .ref y3] S := by
  unfold w_X7_grow_b137 at h
  obtain ⟨hx, hb, -⟩ := id C
  intro H locs ls hR hS hl
  refine lv_iadd hx hb dX7_grow_137 ?_
  refine lv_topi (fun x101 ex101 => ?_)
  replace h := h x101 ex101
  refine lv_aload_n hx hb dX7_grow_138 rfl (lv_at hl 0 rfl) ?_
  refine lv_bipush (v := 6) hx hb dX7_grow_139 (by decide) ?_
  obtain ⟨hK_x1, h⟩ := h
  obtain ⟨hi102, h⟩ := h
  refine x_iald C hR hK_x1 hi102 dX7_grow_141 ?_
  refine lv_topi (fun x103 ex103 => ?_)
  replace h := h x103 ex103
  refine lv_bipush (v := 100) hx hb dX7_grow_142 (by decide) ?_
  refine lv_bipush (v := 40) hx hb dX7_grow_144 (by decide) ?_
  refine lv_iload hx hb dX7_grow_146 (lv_at hl 1 rfl) ?_
  refine lv_imul hx hb dX7_grow_148 ?_
  refine lv_topi (fun x104 ex104 => ?_)
  replace h := h x104 ex104
  refine lv_iadd hx hb dX7_grow_149 ?_
  refine lv_topi (fun x105 ex105 => ?_)
  replace h := h x105 ex105
  refine lv_icmp_lt (tgt := 157) hx hb dX7_grow_150 (by decide) (fun hc106 => ?_) (fun hc106 => ?_)
  · replace h := h.1 hc106
    refine lv_iconst (v := 0) hx hb dX7_grow_157 (by decide) ?_
    exact t_X7_grow_b158 C hml hr hlocks  h H locs ls hR hS (lv_sub (l' := [(1, .ref x1), (6, .int x6)]) hl [0, 1] rfl)
  · replace h := h.2 hc106
    refine lv_iconst (v := 1) hx hb dX7_grow_153 (by decide) ?_
    refine lv_goto (tgt := 158) hx hb dX7_grow_154 (by decide) ?_
    exact t_X7_grow_b158 C hml hr hlocks  h H locs ls hR hS (lv_sub (l' := [(1, .ref x1), (6, .int x6)]) hl [0, 1] rfl)
set_option maxHeartbeats 4000000 in
theorem t_X7_grow_b78 {Q : sT → Prop} (C : x_C p s m args c cX7_grow RX7 gg) (hml : c.maxLocals = 7) (hr : meth.sig.returnType = none) (hlocks : meth.locks = false) {x0 : Nat} {x1 : Nat} {y0 : Int32} {y1 : Int32}  {S : sT}  (h : w_X7_grow_b78 x0 x1 y0 y1 S  Q) : x_X p l e r_X7_grow s m args below meth c gg 7 0 0 (MQ below (va_Qv Q (fun S1 t => s_Rep gg S1 t.heap) (s_A gg)) args s 0 0 (s_A gg)) 78 [(0, .ref x0), (1, .ref x1)] [.int y0, .int y1] S := by
  unfold w_X7_grow_b78 at h
  obtain ⟨hx, hb, -⟩ := id C
  intro H locs ls hR hS hl
  refine lv_iadd hx hb dX7_grow_78 ?_
  refine lv_topi (fun x101 ex101 => ?_)
  replace h := h x101 ex101
  refine lv_istore (lv' := [(5, .int x101), (0, .ref x0), (1, .ref x1)]) hx hb dX7_grow_79 hl (by decide) rfl (fun ls hl => ?_)
  refine lv_aload_n hx hb dX7_grow_81 rfl (lv_at hl 2 rfl) ?_
  refine lv_bipush (v := 7) hx hb dX7_grow_82 (by decide) ?_
  refine lv_iconst (v := 0) hx hb dX7_grow_84 (by decide) ?_
  refine lv_aload_n hx hb dX7_grow_85 rfl (lv_at hl 2 rfl) ?_
  refine lv_bipush (v := 7) hx hb dX7_grow_86 (by decide) ?_
  obtain ⟨hK_x1, h⟩ := h
  obtain ⟨hi102, h⟩ := h
  refine x_iald C hR hK_x1 hi102 dX7_grow_88 ?_
  refine lv_topi (fun x103 ex103 => ?_)
  replace h := h x103 ex103
  refine lv_iload hx hb dX7_grow_89 (lv_at hl 0 rfl) ?_
  refine lv_isub hx hb dX7_grow_91 ?_
  refine lv_topi (fun x104 ex104 => ?_)
  replace h := h x104 ex104
  refine va_mmax hx hb (by rw [hml]; exact hl.1.symm) C.2.2.2.1 (C.2.2.1 _ q_27_5) (C.2.2.1 _ q_6_12) (C.2.2.1 _ q_6_13) (C.2.2.1 _ q_6_14) (Nat.le_of_ble_eq_true rfl) (Nat.le_of_ble_eq_true rfl) (Nat.zero_le _) (Nat.zero_le _) dX7_grow_92 ?_
  refine lv_topi (fun x105 ex105 => ?_)
  replace h := h x105 ex105
  obtain ⟨hi106, h⟩ := h
  refine x_iast C hR hK_x1 hS hi106 dX7_grow_95 (fun H locs hR hS => ?_)
  obtain ⟨S107, eS107⟩ : ∃ z : sT, z = s_sB S x1 (Int32.toNatClampNeg (7 : Int32)) x105 := ⟨_, rfl⟩
  rw [← eS107] at hR
  replace h := h S107 eS107
  have hK_x1 : s_K S107 x1 = 11 := by rw [eS107]; exact hK_x1
  refine lv_aload_n hx hb dX7_grow_96 rfl (lv_at hl 2 rfl) ?_
  refine lv_bipush (v := 6) hx hb dX7_grow_97 (by decide) ?_
  refine lv_dup2_11 hx hb dX7_grow_99 rfl rfl ?_
  obtain ⟨hi108, h⟩ := h
  refine x_iald C hR hK_x1 hi108 dX7_grow_100 ?_
  refine lv_topi (fun x109 ex109 => ?_)
  replace h := h x109 ex109
  refine lv_aload_n hx hb dX7_grow_101 rfl (lv_at hl 1 rfl) ?_
  obtain ⟨hK_x0, h⟩ := h
  refine x_g_258 C hR hK_x0 q_3_14 dX7_grow_102 ?_
  obtain ⟨a110, ea110, h⟩ := h
  refine x_some ea110 ?_
  refine lv_iconst (v := 2) hx hb dX7_grow_105 (by decide) ?_
  obtain ⟨hK_a110, h⟩ := h
  obtain ⟨hi111, h⟩ := h
  refine x_iald C hR hK_a110 hi111 dX7_grow_106 ?_
  refine lv_topi (fun x112 ex112 => ?_)
  replace h := h x112 ex112
  refine lv_iadd hx hb dX7_grow_107 ?_
  refine lv_topi (fun x113 ex113 => ?_)
  replace h := h x113 ex113
  obtain ⟨hi114, h⟩ := h
  refine x_iast C hR hK_x1 hS hi114 dX7_grow_108 (fun H locs hR hS => ?_)
  obtain ⟨S115, eS115⟩ : ∃ z : sT, z = s_sB S107 x1 (Int32.toNatClampNeg (6 : Int32)) x113 := ⟨_, rfl⟩
  rw [← eS115] at hR
  replace h := h S115 eS115
  have hK_x1 : s_K S115 x1 = 11 := by rw [eS115]; exact hK_x1
  have hK_x0 : s_K S115 x0 = 9 := by rw [eS115]; exact hK_x0
  have hK_a110 : s_K S115 a110 = 11 := by rw [eS115]; exact hK_a110
  refine lv_aload_n hx hb dX7_grow_109 rfl (lv_at hl 2 rfl) ?_
  refine lv_iconst (v := 5) hx hb dX7_grow_110 (by decide) ?_
  obtain ⟨hi116, h⟩ := h
  refine x_iald C hR hK_x1 hi116 dX7_grow_111 ?_
  refine lv_topi (fun x117 ex117 => ?_)
  replace h := h x117 ex117
  refine lv_istore (lv' := [(6, .int x117), (5, .int x101), (0, .ref x0), (1, .ref x1)]) hx hb dX7_grow_112 hl (by decide) rfl (fun ls hl => ?_)
  refine lv_aload_n hx hb dX7_grow_114 rfl (lv_at hl 3 rfl) ?_
  refine lv_iconst (v := 4) hx hb dX7_grow_115 (by decide) ?_
  refine lv_iconst (v := 2) hx hb dX7_grow_116 (by decide) ?_
  refine lv_aload_n hx hb dX7_grow_117 rfl (lv_at hl 3 rfl) ?_
  refine lv_bipush (v := 6) hx hb dX7_grow_118 (by decide) ?_
  obtain ⟨hi118, h⟩ := h
  refine x_iald C hR hK_x1 hi118 dX7_grow_120 ?_
  refine lv_topi (fun x119 ex119 => ?_)
  replace h := h x119 ex119
  refine lv_bipush (v := 60) hx hb dX7_grow_121 (by decide) ?_
  refine lv_bipush (v := 20) hx hb dX7_grow_123 (by decide) ?_
  refine lv_iload hx hb dX7_grow_125 (lv_at hl 0 rfl) ?_
  refine lv_imul hx hb dX7_grow_127 ?_
  refine lv_topi (fun x120 ex120 => ?_)
  replace h := h x120 ex120
  refine lv_iadd hx hb dX7_grow_128 ?_
  refine lv_topi (fun x121 ex121 => ?_)
  replace h := h x121 ex121
  refine lv_icmp_lt (tgt := 136) hx hb dX7_grow_129 (by decide) (fun hc122 => ?_) (fun hc122 => ?_)
  · replace h := h.1 hc122
    refine lv_iconst (v := 0) hx hb dX7_grow_136 (by decide) ?_
    exact t_X7_grow_b137 C hml hr hlocks  h H locs ls hR hS (lv_sub (l' := [(1, .ref x1), (6, .int x117)]) hl [3, 0] rfl)
  · replace h := h.2 hc122
    refine lv_iconst (v := 1) hx hb dX7_grow_132 (by decide) ?_
    refine lv_goto (tgt := 137) hx hb dX7_grow_133 (by decide) ?_
    exact t_X7_grow_b137 C hml hr hlocks  h H locs ls hR hS (lv_sub (l' := [(1, .ref x1), (6, .int x117)]) hl [3, 0] rfl)
set_option maxHeartbeats 4000000 in
theorem t_X7_grow_b44 {Q : sT → Prop} (C : x_C p s m args c cX7_grow RX7 gg) (hml : c.maxLocals = 7) (hr : meth.sig.returnType = none) (hlocks : meth.locks = false) {x0 : Nat} {x1 : Nat} {x3 : Int32} {y0 : Int32}  {S : sT}  (h : w_X7_grow_b44 x0 x1 x3 y0 S  Q) : x_X p l e r_X7_grow s m args below meth c gg 7 0 0 (MQ below (va_Qv Q (fun S1 t => s_Rep gg S1 t.heap) (s_A gg)) args s 0 0 (s_A gg)) 44 [(0, .ref x0), (1, .ref x1), (3, .int x3)] [.int y0] S := by
  unfold w_X7_grow_b44 at h
  obtain ⟨hx, hb, -⟩ := id C
  intro H locs ls hR hS hl
  refine lv_istore (lv' := [(4, .int y0), (0, .ref x0), (1, .ref x1), (3, .int x3)]) hx hb dX7_grow_44 hl (by decide) rfl (fun ls hl => ?_)
  refine lv_aload_n hx hb dX7_grow_46 rfl (lv_at hl 2 rfl) ?_
  refine lv_bipush (v := 8) hx hb dX7_grow_47 (by decide) ?_
  obtain ⟨hK_x1, h⟩ := h
  obtain ⟨hi101, h⟩ := h
  refine x_iald C hR hK_x1 hi101 dX7_grow_49 ?_
  refine lv_topi (fun x102 ex102 => ?_)
  replace h := h x102 ex102
  refine lv_bipush (v := 20) hx hb dX7_grow_50 (by decide) ?_
  refine lv_idiv hx hb dX7_grow_52 (by decide) ?_
  refine lv_topi (fun x103 ex103 => ?_)
  replace h := h x103 ex103
  refine lv_aload_n hx hb dX7_grow_53 rfl (lv_at hl 2 rfl) ?_
  refine lv_iconst (v := 1) hx hb dX7_grow_54 (by decide) ?_
  obtain ⟨hi104, h⟩ := h
  refine x_iald C hR hK_x1 hi104 dX7_grow_55 ?_
  refine lv_topi (fun x105 ex105 => ?_)
  replace h := h x105 ex105
  refine lv_iconst (v := 2) hx hb dX7_grow_56 (by decide) ?_
  refine lv_icmp_ge (tgt := 64) hx hb dX7_grow_57 (by decide) (fun hc106 => ?_) (fun hc106 => ?_)
  · replace h := h.1 hc106
    refine lv_aload_n hx hb dX7_grow_64 rfl (lv_at hl 2 rfl) ?_
    refine lv_iconst (v := 1) hx hb dX7_grow_65 (by decide) ?_
    obtain ⟨hi107, h⟩ := h
    refine x_iald C hR hK_x1 hi107 dX7_grow_66 ?_
    refine lv_topi (fun x108 ex108 => ?_)
    replace h := h x108 ex108
    refine lv_bipush (v := 20) hx hb dX7_grow_67 (by decide) ?_
    refine lv_icmp_le (tgt := 77) hx hb dX7_grow_69 (by decide) (fun hc109 => ?_) (fun hc109 => ?_)
    · replace h := h.1 hc109
      refine lv_iconst (v := 0) hx hb dX7_grow_77 (by decide) ?_
      exact t_X7_grow_b78 C hml hr hlocks  h H locs ls hR hS (lv_sub (l' := [(0, .ref x0), (1, .ref x1)]) hl [1, 2] rfl)
    · replace h := h.2 hc109
      refine lv_iload hx hb dX7_grow_72 (lv_at hl 0 rfl) ?_
      refine lv_goto (tgt := 78) hx hb dX7_grow_74 (by decide) ?_
      exact t_X7_grow_b78 C hml hr hlocks  h H locs ls hR hS (lv_sub (l' := [(0, .ref x0), (1, .ref x1)]) hl [1, 2] rfl)
  · replace h := h.2 hc106
    refine lv_iload_n hx hb dX7_grow_60 rfl (lv_at hl 3 rfl) ?_
    refine lv_goto (tgt := 78) hx hb dX7_grow_61 (by decide) ?_
    exact t_X7_grow_b78 C hml hr hlocks  h H locs ls hR hS (lv_sub (l' := [(0, .ref x0), (1, .ref x1)]) hl [1, 2] rfl)
set_option maxHeartbeats 4000000 in
theorem t_X7_grow_b25 {Q : sT → Prop} (C : x_C p s m args c cX7_grow RX7 gg) (hml : c.maxLocals = 7) (hr : meth.sig.returnType = none) (hlocks : meth.locks = false) {x0 : Nat} {x1 : Nat} {x2 : Int32} {y0 : Int32}  {S : sT}  (h : w_X7_grow_b25 x0 x1 x2 y0 S  Q) : x_X p l e r_X7_grow s m args below meth c gg 7 0 0 (MQ below (va_Qv Q (fun S1 t => s_Rep gg S1 t.heap) (s_A gg)) args s 0 0 (s_A gg)) 25 [(0, .ref x0), (1, .ref x1), (2, .int x2)] [.int y0] S := by
  unfold w_X7_grow_b25 at h
  obtain ⟨hx, hb, -⟩ := id C
  intro H locs ls hR hS hl
  refine lv_istore_n (lv' := [(3, .int y0), (0, .ref x0), (1, .ref x1), (2, .int x2)]) hx hb dX7_grow_25 rfl hl (by decide) rfl (fun ls hl => ?_)
  refine lv_iload_n hx hb dX7_grow_26 rfl (lv_at hl 3 rfl) ?_
  refine lv_if_ne (tgt := 34) hx hb dX7_grow_27 (by decide) (fun hc101 => ?_) (fun hc101 => ?_)
  · replace h := h.1 hc101
    refine lv_iload_n hx hb dX7_grow_34 rfl (lv_at hl 3 rfl) ?_
    refine lv_iconst (v := 1) hx hb dX7_grow_35 (by decide) ?_
    refine lv_icmp_ne (tgt := 43) hx hb dX7_grow_36 (by decide) (fun hc102 => ?_) (fun hc102 => ?_)
    · replace h := h.1 hc102
      refine lv_iconst (v := 1) hx hb dX7_grow_43 (by decide) ?_
      exact t_X7_grow_b44 C hml hr hlocks  h H locs ls hR hS (lv_sub (l' := [(0, .ref x0), (1, .ref x1), (3, .int y0)]) hl [1, 2, 0] rfl)
    · replace h := h.2 hc102
      refine lv_iconst (v := 4) hx hb dX7_grow_39 (by decide) ?_
      refine lv_goto (tgt := 44) hx hb dX7_grow_40 (by decide) ?_
      exact t_X7_grow_b44 C hml hr hlocks  h H locs ls hR hS (lv_sub (l' := [(0, .ref x0), (1, .ref x1), (3, .int y0)]) hl [1, 2, 0] rfl)
  · replace h := h.2 hc101
    refine lv_iconst (v := 2) hx hb dX7_grow_30 (by decide) ?_
    refine lv_goto (tgt := 44) hx hb dX7_grow_31 (by decide) ?_
    exact t_X7_grow_b44 C hml hr hlocks  h H locs ls hR hS (lv_sub (l' := [(0, .ref x0), (1, .ref x1), (3, .int y0)]) hl [1, 2, 0] rfl)
set_option maxHeartbeats 4000000 in
theorem t_X7_grow_b0 {Q : sT → Prop} (C : x_C p s m args c cX7_grow RX7 gg) (hml : c.maxLocals = 7) (hr : meth.sig.returnType = none) (hlocks : meth.locks = false) {x0 : Nat} {x1 : Nat}  {S : sT}  (h : w_X7_grow_b0 x0 x1 S  Q) : x_X p l e r_X7_grow s m args below meth c gg 7 0 0 (MQ below (va_Qv Q (fun S1 t => s_Rep gg S1 t.heap) (s_A gg)) args s 0 0 (s_A gg)) 0 [(0, .ref x0), (1, .ref x1)] [] S := by
  unfold w_X7_grow_b0 at h
  obtain ⟨hx, hb, -⟩ := id C
  intro H locs ls hR hS hl
  refine lv_aload_n hx hb dX7_grow_0 rfl (lv_at hl 1 rfl) ?_
  refine lv_iconst (v := 4) hx hb dX7_grow_1 (by decide) ?_
  obtain ⟨hK_x1, h⟩ := h
  obtain ⟨hi101, h⟩ := h
  refine x_iald C hR hK_x1 hi101 dX7_grow_2 ?_
  refine lv_topi (fun x102 ex102 => ?_)
  replace h := h x102 ex102
  refine lv_iconst (v := 2) hx hb dX7_grow_3 (by decide) ?_
  refine lv_isub hx hb dX7_grow_4 ?_
  refine lv_topi (fun x103 ex103 => ?_)
  replace h := h x103 ex103
  refine lv_istore_n (lv' := [(2, .int x103), (0, .ref x0), (1, .ref x1)]) hx hb dX7_grow_5 rfl hl (by decide) rfl (fun ls hl => ?_)
  refine lv_iload_n hx hb dX7_grow_6 rfl (lv_at hl 0 rfl) ?_
  refine lv_if_ne (tgt := 14) hx hb dX7_grow_7 (by decide) (fun hc104 => ?_) (fun hc104 => ?_)
  · replace h := h.1 hc104
    refine lv_iload_n hx hb dX7_grow_14 rfl (lv_at hl 0 rfl) ?_
    refine lv_iconst (v := 1) hx hb dX7_grow_15 (by decide) ?_
    refine lv_icmp_ne (tgt := 24) hx hb dX7_grow_16 (by decide) (fun hc105 => ?_) (fun hc105 => ?_)
    · replace h := h.1 hc105
      refine lv_iconst (v := 1) hx hb dX7_grow_24 (by decide) ?_
      exact t_X7_grow_b25 C hml hr hlocks  h H locs ls hR hS (lv_sub (l' := [(0, .ref x0), (1, .ref x1), (2, .int x103)]) hl [1, 2, 0] rfl)
    · replace h := h.2 hc105
      refine lv_bipush (v := 6) hx hb dX7_grow_19 (by decide) ?_
      refine lv_goto (tgt := 25) hx hb dX7_grow_21 (by decide) ?_
      exact t_X7_grow_b25 C hml hr hlocks  h H locs ls hR hS (lv_sub (l' := [(0, .ref x0), (1, .ref x1), (2, .int x103)]) hl [1, 2, 0] rfl)
  · replace h := h.2 hc104
    refine lv_iconst (v := 3) hx hb dX7_grow_10 (by decide) ?_
    refine lv_goto (tgt := 25) hx hb dX7_grow_11 (by decide) ?_
    exact t_X7_grow_b25 C hml hr hlocks  h H locs ls hR hS (lv_sub (l' := [(0, .ref x0), (1, .ref x1), (2, .int x103)]) hl [1, 2, 0] rfl)
theorem m_X7_grow (l : Launch) (gg : sG) (x0 : Nat) (x1 : Nat) (S : sT) {Q : sT → Prop} (h : w_X7_grow x0 x1 S Q) : x_Mv l gg yX7_grow (x_ws yX7_grow cX7_grow 7 none) r_X7_grow [.ref x0, .ref x1] S Q 0 0 := by
  refine x_ofW (cc := cX7_grow) (own := RX7) (by decide +kernel) rfl (Nat.le_of_ble_eq_true rfl) ?_
  intro p e s m args below meth c C hml hr hlocks hin ht H locs ls hR hS hl
  exact t_X7_grow_b0 C hml hr hlocks h H locs ls hR hS (lv_sub (l' := [(0, .ref x0), (1, .ref x1)]) hl [0, 1] rfl)
def w_X7_below_b52 (y0 : Int32) (S : sT)  (Q : Int32 → sT → Prop) : Prop :=
Q y0 S
def w_X7_below_b38 (x0 : Nat) (x2 : Int32) (S : sT)  (Q : Int32 → sT → Prop) : Prop :=
s_K S x0 = 9 ∧
    ∃ a101 : Nat, s_R S 257 x0 = some a101 ∧
    s_K S a101 = 13 ∧
    ∀ x102 : Int32, x102 = nI (s_N S a101) →
    ((x102 ≤ x2 → w_X7_below_b52 (-1 : Int32) S  Q) ∧
    (¬ x102 ≤ x2 → w_X7_below_b52 x2 S  Q))
def w_X7_below_b4  (Q : Int32 → sT → Prop) : Nat → Nat → Int32 → Int32 → sT → Prop
  | 0 => fun _ _ _ _ => False
  | n + 1 => fun x0 x1 x2 S =>
s_K S x0 = 9 ∧
    ∃ a101 : Nat, s_R S 257 x0 = some a101 ∧
    s_K S a101 = 13 ∧
    ∀ x102 : Int32, x102 = nI (s_N S a101) →
    ((x102 ≤ x2 → w_X7_below_b38 x0 x2 S  Q) ∧
    (¬ x102 ≤ x2 → ∃ a104 : Nat, s_R S 257 x0 = some a104 ∧
    s_K S a104 = 13 ∧
    vp_in x2 (s_N S a104) ∧
    ∃ a106 : Nat, s_P S a104 (Int32.toNatClampNeg x2) = some a106 ∧
    s_K S a106 = 11 ∧
    vp_in (0 : Int32) (s_N S a106) ∧
    ∀ x108 : Int32, x108 = s_B S a106 (Int32.toNatClampNeg (0 : Int32)) →
    ∃ a109 : Nat, s_R S 257 x0 = some a109 ∧
    s_K S a109 = 13 ∧
    vp_in x1 (s_N S a109) ∧
    ∃ a111 : Nat, s_P S a109 (Int32.toNatClampNeg x1) = some a111 ∧
    s_K S a111 = 11 ∧
    vp_in (0 : Int32) (s_N S a111) ∧
    ∀ x113 : Int32, x113 = s_B S a111 (Int32.toNatClampNeg (0 : Int32)) →
    ((x108 = x113 → w_X7_below_b38 x0 x2 S  Q) ∧
    (¬ x108 = x113 → ∀ x115 : Int32, x115 = x2 + 1 →
    w_X7_below_b4  Q n x0 x1 x115 S))))
def w_X7_below_b0 (x0 : Nat) (x1 : Int32) (S : sT)  (Q : Int32 → sT → Prop) : Prop :=
∀ x101 : Int32, x101 = x1 + (1 : Int32) →
    ∃ n9 : Nat, w_X7_below_b4  Q n9 x0 x1 x101 S
def w_X7_below (x0 : Nat) (x1 : Int32) (S : sT) (Q : Int32 → sT → Prop) : Prop := w_X7_below_b0 x0 x1 S Q
def r_X7_below : Room := x_rm 0 0 0 0
theorem b_X7_below : x_BV yX7_below cX7_below 3 (some .int) 1 := ⟨q_27_10, q_27_8, q_27_9, q_3_7, by decide +kernel⟩
set_option maxHeartbeats 4000000 in
theorem t_X7_below_b52 {Q : Int32 → sT → Prop} (C : x_C p s m args c cX7_below RX7 gg) (hml : c.maxLocals = 3) (hr : meth.sig.returnType = (some .int)) (hlocks : meth.locks = false) {y0 : Int32}  {S : sT}  (h : w_X7_below_b52 y0 S  Q) : x_X p l e r_X7_below s m args below meth c gg 3 0 0 (MQ below (va_Qi Q (fun S1 t => s_Rep gg S1 t.heap) (s_A gg)) args s 0 0 (s_A gg)) 52 [] [.int y0] S := by
  unfold w_X7_below_b52 at h
  obtain ⟨hx, hb, -⟩ := id C
  intro H locs ls hR hS hl
  exact W.iret (v := y0) hx hb hr (fun t ht hW => ⟨⟨y0, S, rfl, h, x_rt ht hR⟩, hS.F ht⟩) hS.2.2 dX7_below_52
set_option maxHeartbeats 4000000 in
theorem t_X7_below_b38 {Q : Int32 → sT → Prop} (C : x_C p s m args c cX7_below RX7 gg) (hml : c.maxLocals = 3) (hr : meth.sig.returnType = (some .int)) (hlocks : meth.locks = false) {x0 : Nat} {x2 : Int32}  {S : sT}  (h : w_X7_below_b38 x0 x2 S  Q) : x_X p l e r_X7_below s m args below meth c gg 3 0 0 (MQ below (va_Qi Q (fun S1 t => s_Rep gg S1 t.heap) (s_A gg)) args s 0 0 (s_A gg)) 38 [(0, .ref x0), (2, .int x2)] [] S := by
  unfold w_X7_below_b38 at h
  obtain ⟨hx, hb, -⟩ := id C
  intro H locs ls hR hS hl
  refine lv_iload_n hx hb dX7_below_38 rfl (lv_at hl 1 rfl) ?_
  refine lv_aload_n hx hb dX7_below_39 rfl (lv_at hl 0 rfl) ?_
  obtain ⟨hK_x0, h⟩ := h
  refine x_g_257 C hR hK_x0 q_3_19 dX7_below_40 ?_
  obtain ⟨a101, ea101, h⟩ := h
  refine x_some ea101 ?_
  obtain ⟨hK_a101, h⟩ := h
  refine x_alen13 C hR hK_a101 dX7_below_43 ?_
  refine lv_topi (fun x102 ex102 => ?_)
  replace h := h x102 ex102
  refine lv_icmp_ge (tgt := 51) hx hb dX7_below_44 (by decide) (fun hc103 => ?_) (fun hc103 => ?_)
  · replace h := h.1 hc103
    refine lv_iconst (v := (-1)) hx hb dX7_below_51 (by decide) ?_
    exact t_X7_below_b52 C hml hr hlocks  h H locs ls hR hS (lv_sub (l' := []) hl [] rfl)
  · replace h := h.2 hc103
    refine lv_iload_n hx hb dX7_below_47 rfl (lv_at hl 1 rfl) ?_
    refine lv_goto (tgt := 52) hx hb dX7_below_48 (by decide) ?_
    exact t_X7_below_b52 C hml hr hlocks  h H locs ls hR hS (lv_sub (l' := []) hl [] rfl)
set_option maxHeartbeats 4000000 in
theorem t_X7_below_b4 {Q : Int32 → sT → Prop} (C : x_C p s m args c cX7_below RX7 gg) (hml : c.maxLocals = 3) (hr : meth.sig.returnType = (some .int)) (hlocks : meth.locks = false)   : ∀ (n : Nat) (x0 : Nat) (x1 : Int32) (x2 : Int32) (S : sT), w_X7_below_b4  Q n x0 x1 x2 S → x_X p l e r_X7_below s m args below meth c gg 3 0 0 (MQ below (va_Qi Q (fun S1 t => s_Rep gg S1 t.heap) (s_A gg)) args s 0 0 (s_A gg)) 4 [(0, .ref x0), (1, .int x1), (2, .int x2)] [] S := by
  obtain ⟨hx, hb, -⟩ := id C
  intro n
  induction n with
  | zero => intro x0 x1 x2 S h; exact absurd h id
  | succ n ih =>
    intro x0 x1 x2 S h H locs ls hR hS hl
    unfold w_X7_below_b4 at h
    refine lv_iload_n hx hb dX7_below_4 rfl (lv_at hl 2 rfl) ?_
    refine lv_aload_n hx hb dX7_below_5 rfl (lv_at hl 0 rfl) ?_
    obtain ⟨hK_x0, h⟩ := h
    refine x_g_257 C hR hK_x0 q_3_19 dX7_below_6 ?_
    obtain ⟨a101, ea101, h⟩ := h
    refine x_some ea101 ?_
    obtain ⟨hK_a101, h⟩ := h
    refine x_alen13 C hR hK_a101 dX7_below_9 ?_
    refine lv_topi (fun x102 ex102 => ?_)
    replace h := h x102 ex102
    refine lv_icmp_ge (tgt := 38) hx hb dX7_below_10 (by decide) (fun hc103 => ?_) (fun hc103 => ?_)
    · replace h := h.1 hc103
      exact t_X7_below_b38 C hml hr hlocks  h H locs ls hR hS (lv_sub (l' := [(0, .ref x0), (2, .int x2)]) hl [0, 2] rfl)
    · replace h := h.2 hc103
      refine lv_aload_n hx hb dX7_below_13 rfl (lv_at hl 0 rfl) ?_
      refine x_g_257 C hR hK_x0 q_3_19 dX7_below_14 ?_
      obtain ⟨a104, ea104, h⟩ := h
      refine x_some ea104 ?_
      refine lv_iload_n hx hb dX7_below_17 rfl (lv_at hl 2 rfl) ?_
      obtain ⟨hK_a104, h⟩ := h
      obtain ⟨hi105, a106, ea106, h⟩ := h
      refine x_aald13 C hR hK_a104 hi105 dX7_below_18 ?_
      refine x_some ea106 ?_
      refine lv_iconst (v := 0) hx hb dX7_below_19 (by decide) ?_
      obtain ⟨hK_a106, h⟩ := h
      obtain ⟨hi107, h⟩ := h
      refine x_iald C hR hK_a106 hi107 dX7_below_20 ?_
      refine lv_topi (fun x108 ex108 => ?_)
      replace h := h x108 ex108
      refine lv_aload_n hx hb dX7_below_21 rfl (lv_at hl 0 rfl) ?_
      refine x_g_257 C hR hK_x0 q_3_19 dX7_below_22 ?_
      obtain ⟨a109, ea109, h⟩ := h
      refine x_some ea109 ?_
      refine lv_iload_n hx hb dX7_below_25 rfl (lv_at hl 1 rfl) ?_
      obtain ⟨hK_a109, h⟩ := h
      obtain ⟨hi110, a111, ea111, h⟩ := h
      refine x_aald13 C hR hK_a109 hi110 dX7_below_26 ?_
      refine x_some ea111 ?_
      refine lv_iconst (v := 0) hx hb dX7_below_27 (by decide) ?_
      obtain ⟨hK_a111, h⟩ := h
      obtain ⟨hi112, h⟩ := h
      refine x_iald C hR hK_a111 hi112 dX7_below_28 ?_
      refine lv_topi (fun x113 ex113 => ?_)
      replace h := h x113 ex113
      refine lv_icmp_eq (tgt := 38) hx hb dX7_below_29 (by decide) (fun hc114 => ?_) (fun hc114 => ?_)
      · replace h := h.1 hc114
        exact t_X7_below_b38 C hml hr hlocks  h H locs ls hR hS (lv_sub (l' := [(0, .ref x0), (2, .int x2)]) hl [0, 2] rfl)
      · replace h := h.2 hc114
        obtain ⟨x115, ex115⟩ : ∃ z : Int32, z = x2 + 1 := ⟨_, rfl⟩
        replace h := h x115 ex115
        refine lv_iinc (v := x115) (lv' := [(2, .int x115), (0, .ref x0), (1, .int x1)]) hx hb dX7_below_32 hl (k := 2) rfl (by rw [ex115]; rfl) (by decide) rfl (fun ls hl => ?_)
        refine lv_goto (tgt := 4) hx hb dX7_below_35 (by decide) ?_
        exact ih x0 x1 x115 S h H locs ls hR hS (lv_sub (l' := [(0, .ref x0), (1, .int x1), (2, .int x115)]) hl [1, 2, 0] rfl)
set_option maxHeartbeats 4000000 in
theorem t_X7_below_b0 {Q : Int32 → sT → Prop} (C : x_C p s m args c cX7_below RX7 gg) (hml : c.maxLocals = 3) (hr : meth.sig.returnType = (some .int)) (hlocks : meth.locks = false) {x0 : Nat} {x1 : Int32}  {S : sT}  (h : w_X7_below_b0 x0 x1 S  Q) : x_X p l e r_X7_below s m args below meth c gg 3 0 0 (MQ below (va_Qi Q (fun S1 t => s_Rep gg S1 t.heap) (s_A gg)) args s 0 0 (s_A gg)) 0 [(0, .ref x0), (1, .int x1)] [] S := by
  unfold w_X7_below_b0 at h
  obtain ⟨hx, hb, -⟩ := id C
  intro H locs ls hR hS hl
  refine lv_iload_n hx hb dX7_below_0 rfl (lv_at hl 1 rfl) ?_
  refine lv_iconst (v := 1) hx hb dX7_below_1 (by decide) ?_
  refine lv_iadd hx hb dX7_below_2 ?_
  refine lv_topi (fun x101 ex101 => ?_)
  replace h := h x101 ex101
  refine lv_istore_n (lv' := [(2, .int x101), (0, .ref x0), (1, .int x1)]) hx hb dX7_below_3 rfl hl (by decide) rfl (fun ls hl => ?_)
  obtain ⟨n9, h⟩ := h
  exact t_X7_below_b4 C hml hr hlocks  n9 x0 x1 x101 S h H locs ls hR hS (lv_sub (l' := [(0, .ref x0), (1, .int x1), (2, .int x101)]) hl [1, 2, 0] rfl)
theorem m_X7_below (l : Launch) (gg : sG) (x0 : Nat) (x1 : Int32) (S : sT) {Q : Int32 → sT → Prop} (h : w_X7_below x0 x1 S Q) : x_Mi l gg yX7_below (x_ws yX7_below cX7_below 3 (some .int)) r_X7_below [.ref x0, .int x1] S Q 0 0 := by
  refine x_ofW (cc := cX7_below) (own := RX7) (by decide +kernel) rfl (Nat.le_of_ble_eq_true rfl) ?_
  intro p e s m args below meth c C hml hr hlocks hin ht H locs ls hR hS hl
  exact t_X7_below_b0 C hml hr hlocks h H locs ls hR hS (lv_sub (l' := [(0, .ref x0), (1, .int x1)]) hl [0, 1] rfl)
def w_X7_stand_b239 (x0 : Nat) (x2 : Nat) (S : sT)  (Q : sT → Prop) : Prop :=
s_K S x0 = 9 ∧
    w_X7_live x0 x2 S (fun S101 =>
    Q S101)
def w_X7_stand_b229 (x0 : Nat) (x2 : Nat) (x6 : Int32) (S : sT)  (Q : sT → Prop) : Prop :=
((x6 = 0 → w_X7_stand_b239 x0 x2 S  Q) ∧
    (¬ x6 = 0 → s_K S x0 = 9 ∧
    w_X7_grow x0 x2 S (fun S102 =>
    w_X7_stand_b239 x0 x2 S102  Q)))
def w_X7_stand_b202 (x0 : Nat) (x2 : Nat) (x6 : Int32) (y0 : Int32) (y1 : Int32) (y2 : Nat) (S : sT)  (Q : sT → Prop) : Prop :=
s_K S y2 = 11 ∧
    vp_in y1 (s_N S y2) ∧
    ∀ S102 : sT, S102 = s_sB S y2 (Int32.toNatClampNeg y1) y0 →
    s_K S102 x2 = 11 ∧
    vp_in (3 : Int32) (s_N S102 x2) ∧
    ∀ x104 : Int32, x104 = s_B S102 x2 (Int32.toNatClampNeg (3 : Int32)) →
    ((x104 ≤ 0 → w_X7_stand_b229 x0 x2 x6 S102  Q) ∧
    (¬ x104 ≤ 0 → vp_in (3 : Int32) (s_N S102 x2) ∧
    ∀ x107 : Int32, x107 = s_B S102 x2 (Int32.toNatClampNeg (3 : Int32)) →
    ∀ x108 : Int32, x108 = x107 - x107 / (3 : Int32) * (3 : Int32) →
    ((¬ x108 = 0 → w_X7_stand_b229 x0 x2 x6 S102  Q) ∧
    (x108 = 0 → vp_in (2 : Int32) (s_N S102 x2) ∧
    ∀ x111 : Int32, x111 = s_B S102 x2 (Int32.toNatClampNeg (2 : Int32)) →
    ∀ x112 : Int32, x112 = x111 + (1 : Int32) →
    ∀ x113 : Int32, x113 = s_min (3 : Int32) x112 →
    vp_in (2 : Int32) (s_N S102 x2) ∧
    ∀ S115 : sT, S115 = s_sB S102 x2 (Int32.toNatClampNeg (2 : Int32)) x113 →
    w_X7_stand_b229 x0 x2 x6 S115  Q))))
def w_X7_stand_b160 (x0 : Nat) (x2 : Nat) (x6 : Int32) (y0 : Int32) (y1 : Int32) (S : sT)  (Q : sT → Prop) : Prop :=
∀ x101 : Int32, x101 = s_min y1 y0 →
    s_K S x2 = 11 ∧
    vp_in (1 : Int32) (s_N S x2) ∧
    ∀ x103 : Int32, x103 = s_B S x2 (Int32.toNatClampNeg (1 : Int32)) →
    ∀ x104 : Int32, x104 = x103 - x101 →
    vp_in (1 : Int32) (s_N S x2) ∧
    ∀ S106 : sT, S106 = s_sB S x2 (Int32.toNatClampNeg (1 : Int32)) x104 →
    s_K S106 x0 = 9 ∧
    ∃ a107 : Nat, s_R S106 258 x0 = some a107 ∧
    s_K S106 a107 = 11 ∧
    vp_in (7 : Int32) (s_N S106 a107) ∧
    ∀ x109 : Int32, x109 = s_B S106 a107 (Int32.toNatClampNeg (7 : Int32)) →
    ∀ x110 : Int32, x110 = x109 + x101 →
    vp_in (7 : Int32) (s_N S106 a107) ∧
    ∀ S112 : sT, S112 = s_sB S106 a107 (Int32.toNatClampNeg (7 : Int32)) x110 →
    vp_in (1 : Int32) (s_N S112 x2) ∧
    ∀ x114 : Int32, x114 = s_B S112 x2 (Int32.toNatClampNeg (1 : Int32)) →
    ((¬ x114 = 0 → w_X7_stand_b202 x0 x2 x6 (0 : Int32) (3 : Int32) x2 S112  Q) ∧
    (x114 = 0 → vp_in (3 : Int32) (s_N S112 x2) ∧
    ∀ x117 : Int32, x117 = s_B S112 x2 (Int32.toNatClampNeg (3 : Int32)) →
    ∀ x118 : Int32, x118 = x117 + (1 : Int32) →
    w_X7_stand_b202 x0 x2 x6 x118 (3 : Int32) x2 S112  Q))
def w_X7_stand_b137 (x0 : Nat) (x2 : Nat) (S : sT)  (Q : sT → Prop) : Prop :=
s_K S x2 = 11 ∧
    vp_in (4 : Int32) (s_N S x2) ∧
    ∀ x102 : Int32, x102 = s_B S x2 (Int32.toNatClampNeg (4 : Int32)) →
    w_X8_is x102 (2 : Int32) (4 : Int32) S (fun x104 S103 =>
    s_K S103 x2 = 11 ∧
    vp_in (1 : Int32) (s_N S103 x2) ∧
    ∀ x106 : Int32, x106 = s_B S103 x2 (Int32.toNatClampNeg (1 : Int32)) →
    ((x104 = 0 → w_X7_stand_b160 x0 x2 x104 (1 : Int32) x106 S103  Q) ∧
    (¬ x104 = 0 → w_X7_stand_b160 x0 x2 x104 (2 : Int32) x106 S103  Q)))
def w_X7_stand_b0 (x0 : Nat) (x1 : Int32) (S : sT)  (Q : sT → Prop) : Prop :=
s_K S x0 = 9 ∧
    ∃ a101 : Nat, s_R S 257 x0 = some a101 ∧
    s_K S a101 = 13 ∧
    vp_in x1 (s_N S a101) ∧
    ∃ a103 : Nat, s_P S a101 (Int32.toNatClampNeg x1) = some a103 ∧
    s_K S a103 = 11 ∧
    vp_in (1 : Int32) (s_N S a103) ∧
    ∀ x105 : Int32, x105 = s_B S a103 (Int32.toNatClampNeg (1 : Int32)) →
    vp_in (11 : Int32) (s_N S a103) ∧
    ∀ x107 : Int32, x107 = s_B S a103 (Int32.toNatClampNeg (11 : Int32)) →
    ∃ a108 : Nat, s_R S 258 x0 = some a108 ∧
    s_K S a108 = 11 ∧
    vp_in (3 : Int32) (s_N S a108) ∧
    ∀ x110 : Int32, x110 = s_B S a108 (Int32.toNatClampNeg (3 : Int32)) →
    ∀ x111 : Int32, x111 = x107 + x110 →
    ∃ a112 : Nat, s_R S 259 x0 = some a112 ∧
    s_K S a112 = 11 ∧
    vp_in x1 (s_N S a112) ∧
    ∀ x114 : Int32, x114 = s_B S a112 (Int32.toNatClampNeg x1) →
    ∀ x115 : Int32, x115 = x111 + x114 →
    ∀ x116 : Int32, x116 = x105 + x115 →
    vp_in (1 : Int32) (s_N S a103) ∧
    ∀ S118 : sT, S118 = s_sB S a103 (Int32.toNatClampNeg (1 : Int32)) x116 →
    vp_in (1 : Int32) (s_N S118 a103) ∧
    ∀ x120 : Int32, x120 = s_B S118 a103 (Int32.toNatClampNeg (1 : Int32)) →
    vp_in (14 : Int32) (s_N S118 a103) ∧
    ∀ x122 : Int32, x122 = s_B S118 a103 (Int32.toNatClampNeg (14 : Int32)) →
    ∀ x123 : Int32, x123 = x120 - x122 →
    ∀ x124 : Int32, x124 = s_max (0 : Int32) x123 →
    vp_in (1 : Int32) (s_N S118 a103) ∧
    ∀ x126 : Int32, x126 = s_B S118 a103 (Int32.toNatClampNeg (1 : Int32)) →
    ∀ x127 : Int32, x127 = x126 - x124 →
    vp_in (1 : Int32) (s_N S118 a103) ∧
    ∀ S129 : sT, S129 = s_sB S118 a103 (Int32.toNatClampNeg (1 : Int32)) x127 →
    vp_in (1 : Int32) (s_N S129 a103) ∧
    ∀ x131 : Int32, x131 = s_B S129 a103 (Int32.toNatClampNeg (1 : Int32)) →
    vp_in (2 : Int32) (s_N S129 a103) ∧
    ∀ x133 : Int32, x133 = s_B S129 a103 (Int32.toNatClampNeg (2 : Int32)) →
    ∀ x134 : Int32, x134 = (1 : Int32) + x133 →
    ∀ x135 : Int32, x135 = s_min x131 x134 →
    vp_in (1 : Int32) (s_N S129 a103) ∧
    ∀ x137 : Int32, x137 = s_B S129 a103 (Int32.toNatClampNeg (1 : Int32)) →
    ∀ x138 : Int32, x138 = x137 - x135 →
    vp_in (1 : Int32) (s_N S129 a103) ∧
    ∀ S140 : sT, S140 = s_sB S129 a103 (Int32.toNatClampNeg (1 : Int32)) x138 →
    ∃ a141 : Nat, s_R S140 258 x0 = some a141 ∧
    s_K S140 a141 = 11 ∧
    vp_in (6 : Int32) (s_N S140 a141) ∧
    ∀ x143 : Int32, x143 = s_B S140 a141 (Int32.toNatClampNeg (6 : Int32)) →
    ∀ x144 : Int32, x144 = x135 / (2 : Int32) →
    ∀ x145 : Int32, x145 = x135 - x144 →
    ∀ x146 : Int32, x146 = x143 + x145 →
    vp_in (6 : Int32) (s_N S140 a141) ∧
    ∀ S148 : sT, S148 = s_sB S140 a141 (Int32.toNatClampNeg (6 : Int32)) x146 →
    w_X7_below x0 x1 S148 (fun x150 S149 =>
    ((¬ x150 = (-1 : Int32) → s_K S149 x0 = 9 ∧
    ∃ a152 : Nat, s_R S149 259 x0 = some a152 ∧
    s_K S149 a152 = 11 ∧
    vp_in x150 (s_N S149 a152) ∧
    ∀ x154 : Int32, x154 = s_B S149 a152 (Int32.toNatClampNeg x150) →
    ∀ x155 : Int32, x155 = x135 / (2 : Int32) →
    ∀ x156 : Int32, x156 = x124 + x155 →
    ∀ x157 : Int32, x157 = x154 + x156 →
    vp_in x150 (s_N S149 a152) ∧
    ∀ S159 : sT, S159 = s_sB S149 a152 (Int32.toNatClampNeg x150) x157 →
    w_X7_stand_b137 x0 a103 S159  Q) ∧
    (x150 = (-1 : Int32) → s_K S149 x0 = 9 ∧
    ∃ a160 : Nat, s_R S149 258 x0 = some a160 ∧
    s_K S149 a160 = 11 ∧
    vp_in (8 : Int32) (s_N S149 a160) ∧
    ∀ x162 : Int32, x162 = s_B S149 a160 (Int32.toNatClampNeg (8 : Int32)) →
    ∀ x163 : Int32, x163 = x135 / (2 : Int32) →
    ∀ x164 : Int32, x164 = x124 + x163 →
    ∀ x165 : Int32, x165 = x162 + x164 →
    vp_in (8 : Int32) (s_N S149 a160) ∧
    ∀ S167 : sT, S167 = s_sB S149 a160 (Int32.toNatClampNeg (8 : Int32)) x165 →
    w_X7_stand_b137 x0 a103 S167  Q)))
def w_X7_stand (x0 : Nat) (x1 : Int32) (S : sT) (Q : sT → Prop) : Prop := w_X7_stand_b0 x0 x1 S Q
def r_X7_stand : Room := x_rm 2 66 0 0
theorem b_X7_stand : x_BV yX7_stand cX7_stand 8 none 1 := ⟨q_27_4, q_27_2, q_27_3, q_3_7, by decide +kernel⟩
set_option maxHeartbeats 4000000 in
theorem t_X7_stand_b239 {Q : sT → Prop} (C : x_C p s m args c cX7_stand RX7 gg) (hml : c.maxLocals = 8) (hr : meth.sig.returnType = none) (hlocks : meth.locks = false) {x0 : Nat} {x2 : Nat}  {S : sT}  (h : w_X7_stand_b239 x0 x2 S  Q) : x_X p l e r_X7_stand s m args below meth c gg 8 0 0 (MQ below (va_Qv Q (fun S1 t => s_Rep gg S1 t.heap) (s_A gg)) args s 0 0 (s_A gg)) 239 [(0, .ref x0), (2, .ref x2)] [] S := by
  unfold w_X7_stand_b239 at h
  obtain ⟨hx, hb, -⟩ := id C
  intro H locs ls hR hS hl
  refine lv_aload_n hx hb dX7_stand_239 rfl (lv_at hl 0 rfl) ?_
  refine lv_aload_n hx hb dX7_stand_240 rfl (lv_at hl 1 rfl) ?_
  obtain ⟨hK_x0, h⟩ := h
  refine x_kv (x_runV (As := [.ref x2]) (rest := []) C hml hR hS (m_X7_live l gg x0 x2 S h) b_X7_live q_27_15 (by rw [hK_x0]; decide) (s_E_8 hK_x0) rfl rfl rfl rfl ⟨Nat.le_of_ble_eq_true rfl, Nat.le_of_ble_eq_true rfl⟩ rfl hl.1 (Nat.le_of_ble_eq_true rfl) dX7_stand_241 ⟨Nat.le_refl _, Nat.le_refl _⟩) hS (fun S101 H locs hn hR hS => ?_)
  replace h := hn
  clear hn
  exact W.vret hx hb hr (fun t ht hW => ⟨⟨S101, rfl, h, x_rt ht hR⟩, hS.F ht⟩) hS.2.2 dX7_stand_244
set_option maxHeartbeats 4000000 in
theorem t_X7_stand_b229 {Q : sT → Prop} (C : x_C p s m args c cX7_stand RX7 gg) (hml : c.maxLocals = 8) (hr : meth.sig.returnType = none) (hlocks : meth.locks = false) {x0 : Nat} {x2 : Nat} {x6 : Int32}  {S : sT}  (h : w_X7_stand_b229 x0 x2 x6 S  Q) : x_X p l e r_X7_stand s m args below meth c gg 8 0 0 (MQ below (va_Qv Q (fun S1 t => s_Rep gg S1 t.heap) (s_A gg)) args s 0 0 (s_A gg)) 229 [(0, .ref x0), (2, .ref x2), (6, .int x6)] [] S := by
  unfold w_X7_stand_b229 at h
  obtain ⟨hx, hb, -⟩ := id C
  intro H locs ls hR hS hl
  refine lv_iload hx hb dX7_stand_229 (lv_at hl 2 rfl) ?_
  refine lv_if_eq (tgt := 239) hx hb dX7_stand_231 (by decide) (fun hc101 => ?_) (fun hc101 => ?_)
  · replace h := h.1 hc101
    exact t_X7_stand_b239 C hml hr hlocks  h H locs ls hR hS (lv_sub (l' := [(0, .ref x0), (2, .ref x2)]) hl [0, 1] rfl)
  · replace h := h.2 hc101
    refine lv_aload_n hx hb dX7_stand_234 rfl (lv_at hl 0 rfl) ?_
    refine lv_aload_n hx hb dX7_stand_235 rfl (lv_at hl 1 rfl) ?_
    obtain ⟨hK_x0, h⟩ := h
    refine x_kv (x_runV (As := [.ref x2]) (rest := []) C hml hR hS (m_X7_grow l gg x0 x2 S h) b_X7_grow q_27_11 (by rw [hK_x0]; decide) (s_E_8 hK_x0) rfl rfl rfl rfl ⟨Nat.le_of_ble_eq_true rfl, Nat.le_of_ble_eq_true rfl⟩ rfl hl.1 (Nat.le_of_ble_eq_true rfl) dX7_stand_236 ⟨Nat.le_refl _, Nat.le_refl _⟩) hS (fun S102 H locs hn hR hS => ?_)
    replace h := hn
    clear hn
    exact t_X7_stand_b239 C hml hr hlocks  h H locs ls hR hS (lv_sub (l' := [(0, .ref x0), (2, .ref x2)]) hl [0, 1] rfl)
set_option maxHeartbeats 4000000 in
theorem t_X7_stand_b202 {Q : sT → Prop} (C : x_C p s m args c cX7_stand RX7 gg) (hml : c.maxLocals = 8) (hr : meth.sig.returnType = none) (hlocks : meth.locks = false) {x0 : Nat} {x2 : Nat} {x6 : Int32} {y0 : Int32} {y1 : Int32} {y2 : Nat}  {S : sT}  (h : w_X7_stand_b202 x0 x2 x6 y0 y1 y2 S  Q) : x_X p l e r_X7_stand s m args below meth c gg 8 0 0 (MQ below (va_Qv Q (fun S1 t => s_Rep gg S1 t.heap) (s_A gg)) args s 0 0 (s_A gg)) 202 [(0, .ref x0), (2, .ref x2), (6, .int x6)] [.int y0, .int y1, .ref y2] S := by
  unfold w_X7_stand_b202 at h
  obtain ⟨hx, hb, -⟩ := id C
  intro H locs ls hR hS hl
  obtain ⟨hK_y2, h⟩ := h
  obtain ⟨hi101, h⟩ := h
  refine x_iast C hR hK_y2 hS hi101 dX7_stand_202 (fun H locs hR hS => ?_)
  obtain ⟨S102, eS102⟩ : ∃ z : sT, z = s_sB S y2 (Int32.toNatClampNeg y1) y0 := ⟨_, rfl⟩
  rw [← eS102] at hR
  replace h := h S102 eS102
  have hK_y2 : s_K S102 y2 = 11 := by rw [eS102]; exact hK_y2
  refine lv_aload_n hx hb dX7_stand_203 rfl (lv_at hl 1 rfl) ?_
  refine lv_iconst (v := 3) hx hb dX7_stand_204 (by decide) ?_
  obtain ⟨hK_x2, h⟩ := h
  obtain ⟨hi103, h⟩ := h
  refine x_iald C hR hK_x2 hi103 dX7_stand_205 ?_
  refine lv_topi (fun x104 ex104 => ?_)
  replace h := h x104 ex104
  refine lv_if_le (tgt := 229) hx hb dX7_stand_206 (by decide) (fun hc105 => ?_) (fun hc105 => ?_)
  · replace h := h.1 hc105
    exact t_X7_stand_b229 C hml hr hlocks  h H locs ls hR hS (lv_sub (l' := [(0, .ref x0), (2, .ref x2), (6, .int x6)]) hl [0, 1, 2] rfl)
  · replace h := h.2 hc105
    refine lv_aload_n hx hb dX7_stand_209 rfl (lv_at hl 1 rfl) ?_
    refine lv_iconst (v := 3) hx hb dX7_stand_210 (by decide) ?_
    obtain ⟨hi106, h⟩ := h
    refine x_iald C hR hK_x2 hi106 dX7_stand_211 ?_
    refine lv_topi (fun x107 ex107 => ?_)
    replace h := h x107 ex107
    refine lv_iconst (v := 3) hx hb dX7_stand_212 (by decide) ?_
    refine lv_irem hx hb dX7_stand_213 (by decide) ?_
    refine lv_topi (fun x108 ex108 => ?_)
    replace h := h x108 ex108
    refine lv_if_ne (tgt := 229) hx hb dX7_stand_214 (by decide) (fun hc109 => ?_) (fun hc109 => ?_)
    · replace h := h.1 hc109
      exact t_X7_stand_b229 C hml hr hlocks  h H locs ls hR hS (lv_sub (l' := [(0, .ref x0), (2, .ref x2), (6, .int x6)]) hl [0, 1, 2] rfl)
    · replace h := h.2 hc109
      refine lv_aload_n hx hb dX7_stand_217 rfl (lv_at hl 1 rfl) ?_
      refine lv_iconst (v := 2) hx hb dX7_stand_218 (by decide) ?_
      refine lv_iconst (v := 3) hx hb dX7_stand_219 (by decide) ?_
      refine lv_aload_n hx hb dX7_stand_220 rfl (lv_at hl 1 rfl) ?_
      refine lv_iconst (v := 2) hx hb dX7_stand_221 (by decide) ?_
      obtain ⟨hi110, h⟩ := h
      refine x_iald C hR hK_x2 hi110 dX7_stand_222 ?_
      refine lv_topi (fun x111 ex111 => ?_)
      replace h := h x111 ex111
      refine lv_iconst (v := 1) hx hb dX7_stand_223 (by decide) ?_
      refine lv_iadd hx hb dX7_stand_224 ?_
      refine lv_topi (fun x112 ex112 => ?_)
      replace h := h x112 ex112
      refine va_mmin hx hb (by rw [hml]; exact hl.1.symm) C.2.2.2.1 (C.2.2.1 _ q_27_6) (C.2.2.1 _ q_7_15) (C.2.2.1 _ q_6_13) (C.2.2.1 _ q_7_16) (Nat.le_of_ble_eq_true rfl) (Nat.le_of_ble_eq_true rfl) (Nat.zero_le _) (Nat.zero_le _) dX7_stand_225 ?_
      refine lv_topi (fun x113 ex113 => ?_)
      replace h := h x113 ex113
      obtain ⟨hi114, h⟩ := h
      refine x_iast C hR hK_x2 hS hi114 dX7_stand_228 (fun H locs hR hS => ?_)
      obtain ⟨S115, eS115⟩ : ∃ z : sT, z = s_sB S102 x2 (Int32.toNatClampNeg (2 : Int32)) x113 := ⟨_, rfl⟩
      rw [← eS115] at hR
      replace h := h S115 eS115
      have hK_y2 : s_K S115 y2 = 11 := by rw [eS115]; exact hK_y2
      have hK_x2 : s_K S115 x2 = 11 := by rw [eS115]; exact hK_x2
      exact t_X7_stand_b229 C hml hr hlocks  h H locs ls hR hS (lv_sub (l' := [(0, .ref x0), (2, .ref x2), (6, .int x6)]) hl [0, 1, 2] rfl)
set_option maxHeartbeats 4000000 in
theorem t_X7_stand_b160 {Q : sT → Prop} (C : x_C p s m args c cX7_stand RX7 gg) (hml : c.maxLocals = 8) (hr : meth.sig.returnType = none) (hlocks : meth.locks = false) {x0 : Nat} {x2 : Nat} {x6 : Int32} {y0 : Int32} {y1 : Int32}  {S : sT}  (h : w_X7_stand_b160 x0 x2 x6 y0 y1 S  Q) : x_X p l e r_X7_stand s m args below meth c gg 8 0 0 (MQ below (va_Qv Q (fun S1 t => s_Rep gg S1 t.heap) (s_A gg)) args s 0 0 (s_A gg)) 160 [(0, .ref x0), (2, .ref x2), (6, .int x6)] [.int y0, .int y1] S := by
  unfold w_X7_stand_b160 at h
  obtain ⟨hx, hb, -⟩ := id C
  intro H locs ls hR hS hl
  refine va_mmin hx hb (by rw [hml]; exact hl.1.symm) C.2.2.2.1 (C.2.2.1 _ q_27_6) (C.2.2.1 _ q_7_15) (C.2.2.1 _ q_6_13) (C.2.2.1 _ q_7_16) (Nat.le_of_ble_eq_true rfl) (Nat.le_of_ble_eq_true rfl) (Nat.zero_le _) (Nat.zero_le _) dX7_stand_160 ?_
  refine lv_topi (fun x101 ex101 => ?_)
  replace h := h x101 ex101
  refine lv_istore (lv' := [(7, .int x101), (0, .ref x0), (2, .ref x2), (6, .int x6)]) hx hb dX7_stand_163 hl (by decide) rfl (fun ls hl => ?_)
  refine lv_aload_n hx hb dX7_stand_165 rfl (lv_at hl 2 rfl) ?_
  refine lv_iconst (v := 1) hx hb dX7_stand_166 (by decide) ?_
  refine lv_dup2_11 hx hb dX7_stand_167 rfl rfl ?_
  obtain ⟨hK_x2, h⟩ := h
  obtain ⟨hi102, h⟩ := h
  refine x_iald C hR hK_x2 hi102 dX7_stand_168 ?_
  refine lv_topi (fun x103 ex103 => ?_)
  replace h := h x103 ex103
  refine lv_iload hx hb dX7_stand_169 (lv_at hl 0 rfl) ?_
  refine lv_isub hx hb dX7_stand_171 ?_
  refine lv_topi (fun x104 ex104 => ?_)
  replace h := h x104 ex104
  obtain ⟨hi105, h⟩ := h
  refine x_iast C hR hK_x2 hS hi105 dX7_stand_172 (fun H locs hR hS => ?_)
  obtain ⟨S106, eS106⟩ : ∃ z : sT, z = s_sB S x2 (Int32.toNatClampNeg (1 : Int32)) x104 := ⟨_, rfl⟩
  rw [← eS106] at hR
  replace h := h S106 eS106
  have hK_x2 : s_K S106 x2 = 11 := by rw [eS106]; exact hK_x2
  refine lv_aload_n hx hb dX7_stand_173 rfl (lv_at hl 1 rfl) ?_
  obtain ⟨hK_x0, h⟩ := h
  refine x_g_258 C hR hK_x0 q_3_14 dX7_stand_174 ?_
  obtain ⟨a107, ea107, h⟩ := h
  refine x_some ea107 ?_
  refine lv_bipush (v := 7) hx hb dX7_stand_177 (by decide) ?_
  refine lv_dup2_11 hx hb dX7_stand_179 rfl rfl ?_
  obtain ⟨hK_a107, h⟩ := h
  obtain ⟨hi108, h⟩ := h
  refine x_iald C hR hK_a107 hi108 dX7_stand_180 ?_
  refine lv_topi (fun x109 ex109 => ?_)
  replace h := h x109 ex109
  refine lv_iload hx hb dX7_stand_181 (lv_at hl 0 rfl) ?_
  refine lv_iadd hx hb dX7_stand_183 ?_
  refine lv_topi (fun x110 ex110 => ?_)
  replace h := h x110 ex110
  obtain ⟨hi111, h⟩ := h
  refine x_iast C hR hK_a107 hS hi111 dX7_stand_184 (fun H locs hR hS => ?_)
  obtain ⟨S112, eS112⟩ : ∃ z : sT, z = s_sB S106 a107 (Int32.toNatClampNeg (7 : Int32)) x110 := ⟨_, rfl⟩
  rw [← eS112] at hR
  replace h := h S112 eS112
  have hK_x2 : s_K S112 x2 = 11 := by rw [eS112]; exact hK_x2
  have hK_x0 : s_K S112 x0 = 9 := by rw [eS112]; exact hK_x0
  have hK_a107 : s_K S112 a107 = 11 := by rw [eS112]; exact hK_a107
  refine lv_aload_n hx hb dX7_stand_185 rfl (lv_at hl 2 rfl) ?_
  refine lv_iconst (v := 3) hx hb dX7_stand_186 (by decide) ?_
  refine lv_aload_n hx hb dX7_stand_187 rfl (lv_at hl 2 rfl) ?_
  refine lv_iconst (v := 1) hx hb dX7_stand_188 (by decide) ?_
  obtain ⟨hi113, h⟩ := h
  refine x_iald C hR hK_x2 hi113 dX7_stand_189 ?_
  refine lv_topi (fun x114 ex114 => ?_)
  replace h := h x114 ex114
  refine lv_if_ne (tgt := 201) hx hb dX7_stand_190 (by decide) (fun hc115 => ?_) (fun hc115 => ?_)
  · replace h := h.1 hc115
    refine lv_iconst (v := 0) hx hb dX7_stand_201 (by decide) ?_
    exact t_X7_stand_b202 C hml hr hlocks  h H locs ls hR hS (lv_sub (l' := [(0, .ref x0), (2, .ref x2), (6, .int x6)]) hl [1, 2, 3] rfl)
  · replace h := h.2 hc115
    refine lv_aload_n hx hb dX7_stand_193 rfl (lv_at hl 2 rfl) ?_
    refine lv_iconst (v := 3) hx hb dX7_stand_194 (by decide) ?_
    obtain ⟨hi116, h⟩ := h
    refine x_iald C hR hK_x2 hi116 dX7_stand_195 ?_
    refine lv_topi (fun x117 ex117 => ?_)
    replace h := h x117 ex117
    refine lv_iconst (v := 1) hx hb dX7_stand_196 (by decide) ?_
    refine lv_iadd hx hb dX7_stand_197 ?_
    refine lv_topi (fun x118 ex118 => ?_)
    replace h := h x118 ex118
    refine lv_goto (tgt := 202) hx hb dX7_stand_198 (by decide) ?_
    exact t_X7_stand_b202 C hml hr hlocks  h H locs ls hR hS (lv_sub (l' := [(0, .ref x0), (2, .ref x2), (6, .int x6)]) hl [1, 2, 3] rfl)
set_option maxHeartbeats 4000000 in
theorem t_X7_stand_b137 {Q : sT → Prop} (C : x_C p s m args c cX7_stand RX7 gg) (hml : c.maxLocals = 8) (hr : meth.sig.returnType = none) (hlocks : meth.locks = false) {x0 : Nat} {x2 : Nat}  {S : sT}  (h : w_X7_stand_b137 x0 x2 S  Q) : x_X p l e r_X7_stand s m args below meth c gg 8 0 0 (MQ below (va_Qv Q (fun S1 t => s_Rep gg S1 t.heap) (s_A gg)) args s 0 0 (s_A gg)) 137 [(0, .ref x0), (2, .ref x2)] [] S := by
  unfold w_X7_stand_b137 at h
  obtain ⟨hx, hb, -⟩ := id C
  intro H locs ls hR hS hl
  refine lv_aload_n hx hb dX7_stand_137 rfl (lv_at hl 1 rfl) ?_
  refine lv_iconst (v := 4) hx hb dX7_stand_138 (by decide) ?_
  obtain ⟨hK_x2, h⟩ := h
  obtain ⟨hi101, h⟩ := h
  refine x_iald C hR hK_x2 hi101 dX7_stand_139 ?_
  refine lv_topi (fun x102 ex102 => ?_)
  replace h := h x102 ex102
  refine lv_iconst (v := 2) hx hb dX7_stand_140 (by decide) ?_
  refine lv_iconst (v := 4) hx hb dX7_stand_141 (by decide) ?_
  refine x_ki (x_runSN (As := [.int x102, .int (2 : Int32), .int (4 : Int32)]) (rest := []) (host := "SubakhallModel") C hml hR hS (m_X8_is l gg x102 (2 : Int32) (4 : Int32) S h) b_X8_is xm_0 rfl rfl ⟨Nat.le_of_ble_eq_true rfl, Nat.le_of_ble_eq_true rfl⟩ rfl hl.1 (Nat.le_of_ble_eq_true rfl) dX7_stand_142 ⟨Nat.le_refl _, Nat.le_refl _⟩) hS (fun x104 S103 H locs hn hR hS => ?_)
  replace h := hn
  clear hn
  refine lv_istore (lv' := [(6, .int x104), (0, .ref x0), (2, .ref x2)]) hx hb dX7_stand_145 hl (by decide) rfl (fun ls hl => ?_)
  refine lv_aload_n hx hb dX7_stand_147 rfl (lv_at hl 2 rfl) ?_
  refine lv_iconst (v := 1) hx hb dX7_stand_148 (by decide) ?_
  obtain ⟨hK_x2, h⟩ := h
  obtain ⟨hi105, h⟩ := h
  refine x_iald C hR hK_x2 hi105 dX7_stand_149 ?_
  refine lv_topi (fun x106 ex106 => ?_)
  replace h := h x106 ex106
  refine lv_iload hx hb dX7_stand_150 (lv_at hl 0 rfl) ?_
  refine lv_if_eq (tgt := 159) hx hb dX7_stand_152 (by decide) (fun hc107 => ?_) (fun hc107 => ?_)
  · replace h := h.1 hc107
    refine lv_iconst (v := 1) hx hb dX7_stand_159 (by decide) ?_
    exact t_X7_stand_b160 C hml hr hlocks  h H locs ls hR hS (lv_sub (l' := [(0, .ref x0), (2, .ref x2), (6, .int x104)]) hl [1, 2, 0] rfl)
  · replace h := h.2 hc107
    refine lv_iconst (v := 2) hx hb dX7_stand_155 (by decide) ?_
    refine lv_goto (tgt := 160) hx hb dX7_stand_156 (by decide) ?_
    exact t_X7_stand_b160 C hml hr hlocks  h H locs ls hR hS (lv_sub (l' := [(0, .ref x0), (2, .ref x2), (6, .int x104)]) hl [1, 2, 0] rfl)
set_option maxHeartbeats 4000000 in
theorem t_X7_stand_b0 {Q : sT → Prop} (C : x_C p s m args c cX7_stand RX7 gg) (hml : c.maxLocals = 8) (hr : meth.sig.returnType = none) (hlocks : meth.locks = false) {x0 : Nat} {x1 : Int32}  {S : sT}  (h : w_X7_stand_b0 x0 x1 S  Q) : x_X p l e r_X7_stand s m args below meth c gg 8 0 0 (MQ below (va_Qv Q (fun S1 t => s_Rep gg S1 t.heap) (s_A gg)) args s 0 0 (s_A gg)) 0 [(0, .ref x0), (1, .int x1)] [] S := by
  unfold w_X7_stand_b0 at h
  obtain ⟨hx, hb, -⟩ := id C
  intro H locs ls hR hS hl
  refine lv_aload_n hx hb dX7_stand_0 rfl (lv_at hl 0 rfl) ?_
  obtain ⟨hK_x0, h⟩ := h
  refine x_g_257 C hR hK_x0 q_3_19 dX7_stand_1 ?_
  obtain ⟨a101, ea101, h⟩ := h
  refine x_some ea101 ?_
  refine lv_iload_n hx hb dX7_stand_4 rfl (lv_at hl 1 rfl) ?_
  obtain ⟨hK_a101, h⟩ := h
  obtain ⟨hi102, a103, ea103, h⟩ := h
  refine x_aald13 C hR hK_a101 hi102 dX7_stand_5 ?_
  refine x_some ea103 ?_
  refine lv_astore_n (lv' := [(2, .ref a103), (0, .ref x0), (1, .int x1)]) hx hb dX7_stand_6 rfl hl (by decide) rfl (fun ls hl => ?_)
  refine lv_aload_n hx hb dX7_stand_7 rfl (lv_at hl 0 rfl) ?_
  refine lv_iconst (v := 1) hx hb dX7_stand_8 (by decide) ?_
  refine lv_dup2_11 hx hb dX7_stand_9 rfl rfl ?_
  obtain ⟨hK_a103, h⟩ := h
  obtain ⟨hi104, h⟩ := h
  refine x_iald C hR hK_a103 hi104 dX7_stand_10 ?_
  refine lv_topi (fun x105 ex105 => ?_)
  replace h := h x105 ex105
  refine lv_aload_n hx hb dX7_stand_11 rfl (lv_at hl 0 rfl) ?_
  refine lv_bipush (v := 11) hx hb dX7_stand_12 (by decide) ?_
  obtain ⟨hi106, h⟩ := h
  refine x_iald C hR hK_a103 hi106 dX7_stand_14 ?_
  refine lv_topi (fun x107 ex107 => ?_)
  replace h := h x107 ex107
  refine lv_aload_n hx hb dX7_stand_15 rfl (lv_at hl 1 rfl) ?_
  refine x_g_258 C hR hK_x0 q_3_14 dX7_stand_16 ?_
  obtain ⟨a108, ea108, h⟩ := h
  refine x_some ea108 ?_
  refine lv_iconst (v := 3) hx hb dX7_stand_19 (by decide) ?_
  obtain ⟨hK_a108, h⟩ := h
  obtain ⟨hi109, h⟩ := h
  refine x_iald C hR hK_a108 hi109 dX7_stand_20 ?_
  refine lv_topi (fun x110 ex110 => ?_)
  replace h := h x110 ex110
  refine lv_iadd hx hb dX7_stand_21 ?_
  refine lv_topi (fun x111 ex111 => ?_)
  replace h := h x111 ex111
  refine lv_aload_n hx hb dX7_stand_22 rfl (lv_at hl 1 rfl) ?_
  refine x_g_259 C hR hK_x0 q_3_15 dX7_stand_23 ?_
  obtain ⟨a112, ea112, h⟩ := h
  refine x_some ea112 ?_
  refine lv_iload_n hx hb dX7_stand_26 rfl (lv_at hl 2 rfl) ?_
  obtain ⟨hK_a112, h⟩ := h
  obtain ⟨hi113, h⟩ := h
  refine x_iald C hR hK_a112 hi113 dX7_stand_27 ?_
  refine lv_topi (fun x114 ex114 => ?_)
  replace h := h x114 ex114
  refine lv_iadd hx hb dX7_stand_28 ?_
  refine lv_topi (fun x115 ex115 => ?_)
  replace h := h x115 ex115
  refine lv_iadd hx hb dX7_stand_29 ?_
  refine lv_topi (fun x116 ex116 => ?_)
  replace h := h x116 ex116
  obtain ⟨hi117, h⟩ := h
  refine x_iast C hR hK_a103 hS hi117 dX7_stand_30 (fun H locs hR hS => ?_)
  obtain ⟨S118, eS118⟩ : ∃ z : sT, z = s_sB S a103 (Int32.toNatClampNeg (1 : Int32)) x116 := ⟨_, rfl⟩
  rw [← eS118] at hR
  replace h := h S118 eS118
  have hK_x0 : s_K S118 x0 = 9 := by rw [eS118]; exact hK_x0
  have hK_a101 : s_K S118 a101 = 13 := by rw [eS118]; exact hK_a101
  have hK_a103 : s_K S118 a103 = 11 := by rw [eS118]; exact hK_a103
  have hK_a108 : s_K S118 a108 = 11 := by rw [eS118]; exact hK_a108
  have hK_a112 : s_K S118 a112 = 11 := by rw [eS118]; exact hK_a112
  refine lv_iconst (v := 0) hx hb dX7_stand_31 (by decide) ?_
  refine lv_aload_n hx hb dX7_stand_32 rfl (lv_at hl 0 rfl) ?_
  refine lv_iconst (v := 1) hx hb dX7_stand_33 (by decide) ?_
  obtain ⟨hi119, h⟩ := h
  refine x_iald C hR hK_a103 hi119 dX7_stand_34 ?_
  refine lv_topi (fun x120 ex120 => ?_)
  replace h := h x120 ex120
  refine lv_aload_n hx hb dX7_stand_35 rfl (lv_at hl 0 rfl) ?_
  refine lv_bipush (v := 14) hx hb dX7_stand_36 (by decide) ?_
  obtain ⟨hi121, h⟩ := h
  refine x_iald C hR hK_a103 hi121 dX7_stand_38 ?_
  refine lv_topi (fun x122 ex122 => ?_)
  replace h := h x122 ex122
  refine lv_isub hx hb dX7_stand_39 ?_
  refine lv_topi (fun x123 ex123 => ?_)
  replace h := h x123 ex123
  refine va_mmax hx hb (by rw [hml]; exact hl.1.symm) C.2.2.2.1 (C.2.2.1 _ q_27_5) (C.2.2.1 _ q_6_12) (C.2.2.1 _ q_6_13) (C.2.2.1 _ q_6_14) (Nat.le_of_ble_eq_true rfl) (Nat.le_of_ble_eq_true rfl) (Nat.zero_le _) (Nat.zero_le _) dX7_stand_40 ?_
  refine lv_topi (fun x124 ex124 => ?_)
  replace h := h x124 ex124
  refine lv_istore_n (lv' := [(3, .int x124), (2, .ref a103), (0, .ref x0), (1, .int x1)]) hx hb dX7_stand_43 rfl hl (by decide) rfl (fun ls hl => ?_)
  refine lv_aload_n hx hb dX7_stand_44 rfl (lv_at hl 1 rfl) ?_
  refine lv_iconst (v := 1) hx hb dX7_stand_45 (by decide) ?_
  refine lv_dup2_11 hx hb dX7_stand_46 rfl rfl ?_
  obtain ⟨hi125, h⟩ := h
  refine x_iald C hR hK_a103 hi125 dX7_stand_47 ?_
  refine lv_topi (fun x126 ex126 => ?_)
  replace h := h x126 ex126
  refine lv_iload_n hx hb dX7_stand_48 rfl (lv_at hl 0 rfl) ?_
  refine lv_isub hx hb dX7_stand_49 ?_
  refine lv_topi (fun x127 ex127 => ?_)
  replace h := h x127 ex127
  obtain ⟨hi128, h⟩ := h
  refine x_iast C hR hK_a103 hS hi128 dX7_stand_50 (fun H locs hR hS => ?_)
  obtain ⟨S129, eS129⟩ : ∃ z : sT, z = s_sB S118 a103 (Int32.toNatClampNeg (1 : Int32)) x127 := ⟨_, rfl⟩
  rw [← eS129] at hR
  replace h := h S129 eS129
  have hK_x0 : s_K S129 x0 = 9 := by rw [eS129]; exact hK_x0
  have hK_a101 : s_K S129 a101 = 13 := by rw [eS129]; exact hK_a101
  have hK_a103 : s_K S129 a103 = 11 := by rw [eS129]; exact hK_a103
  have hK_a108 : s_K S129 a108 = 11 := by rw [eS129]; exact hK_a108
  have hK_a112 : s_K S129 a112 = 11 := by rw [eS129]; exact hK_a112
  refine lv_aload_n hx hb dX7_stand_51 rfl (lv_at hl 1 rfl) ?_
  refine lv_iconst (v := 1) hx hb dX7_stand_52 (by decide) ?_
  obtain ⟨hi130, h⟩ := h
  refine x_iald C hR hK_a103 hi130 dX7_stand_53 ?_
  refine lv_topi (fun x131 ex131 => ?_)
  replace h := h x131 ex131
  refine lv_iconst (v := 1) hx hb dX7_stand_54 (by decide) ?_
  refine lv_aload_n hx hb dX7_stand_55 rfl (lv_at hl 1 rfl) ?_
  refine lv_iconst (v := 2) hx hb dX7_stand_56 (by decide) ?_
  obtain ⟨hi132, h⟩ := h
  refine x_iald C hR hK_a103 hi132 dX7_stand_57 ?_
  refine lv_topi (fun x133 ex133 => ?_)
  replace h := h x133 ex133
  refine lv_iadd hx hb dX7_stand_58 ?_
  refine lv_topi (fun x134 ex134 => ?_)
  replace h := h x134 ex134
  refine va_mmin hx hb (by rw [hml]; exact hl.1.symm) C.2.2.2.1 (C.2.2.1 _ q_27_6) (C.2.2.1 _ q_7_15) (C.2.2.1 _ q_6_13) (C.2.2.1 _ q_7_16) (Nat.le_of_ble_eq_true rfl) (Nat.le_of_ble_eq_true rfl) (Nat.zero_le _) (Nat.zero_le _) dX7_stand_59 ?_
  refine lv_topi (fun x135 ex135 => ?_)
  replace h := h x135 ex135
  refine lv_istore (lv' := [(4, .int x135), (3, .int x124), (2, .ref a103), (0, .ref x0), (1, .int x1)]) hx hb dX7_stand_62 hl (by decide) rfl (fun ls hl => ?_)
  refine lv_aload_n hx hb dX7_stand_64 rfl (lv_at hl 2 rfl) ?_
  refine lv_iconst (v := 1) hx hb dX7_stand_65 (by decide) ?_
  refine lv_dup2_11 hx hb dX7_stand_66 rfl rfl ?_
  obtain ⟨hi136, h⟩ := h
  refine x_iald C hR hK_a103 hi136 dX7_stand_67 ?_
  refine lv_topi (fun x137 ex137 => ?_)
  replace h := h x137 ex137
  refine lv_iload hx hb dX7_stand_68 (lv_at hl 0 rfl) ?_
  refine lv_isub hx hb dX7_stand_70 ?_
  refine lv_topi (fun x138 ex138 => ?_)
  replace h := h x138 ex138
  obtain ⟨hi139, h⟩ := h
  refine x_iast C hR hK_a103 hS hi139 dX7_stand_71 (fun H locs hR hS => ?_)
  obtain ⟨S140, eS140⟩ : ∃ z : sT, z = s_sB S129 a103 (Int32.toNatClampNeg (1 : Int32)) x138 := ⟨_, rfl⟩
  rw [← eS140] at hR
  replace h := h S140 eS140
  have hK_x0 : s_K S140 x0 = 9 := by rw [eS140]; exact hK_x0
  have hK_a101 : s_K S140 a101 = 13 := by rw [eS140]; exact hK_a101
  have hK_a103 : s_K S140 a103 = 11 := by rw [eS140]; exact hK_a103
  have hK_a108 : s_K S140 a108 = 11 := by rw [eS140]; exact hK_a108
  have hK_a112 : s_K S140 a112 = 11 := by rw [eS140]; exact hK_a112
  refine lv_aload_n hx hb dX7_stand_72 rfl (lv_at hl 3 rfl) ?_
  refine x_g_258 C hR hK_x0 q_3_14 dX7_stand_73 ?_
  obtain ⟨a141, ea141, h⟩ := h
  refine x_some ea141 ?_
  refine lv_bipush (v := 6) hx hb dX7_stand_76 (by decide) ?_
  refine lv_dup2_11 hx hb dX7_stand_78 rfl rfl ?_
  obtain ⟨hK_a141, h⟩ := h
  obtain ⟨hi142, h⟩ := h
  refine x_iald C hR hK_a141 hi142 dX7_stand_79 ?_
  refine lv_topi (fun x143 ex143 => ?_)
  replace h := h x143 ex143
  refine lv_iload hx hb dX7_stand_80 (lv_at hl 0 rfl) ?_
  refine lv_iload hx hb dX7_stand_82 (lv_at hl 0 rfl) ?_
  refine lv_iconst (v := 2) hx hb dX7_stand_84 (by decide) ?_
  refine lv_idiv hx hb dX7_stand_85 (by decide) ?_
  refine lv_topi (fun x144 ex144 => ?_)
  replace h := h x144 ex144
  refine lv_isub hx hb dX7_stand_86 ?_
  refine lv_topi (fun x145 ex145 => ?_)
  replace h := h x145 ex145
  refine lv_iadd hx hb dX7_stand_87 ?_
  refine lv_topi (fun x146 ex146 => ?_)
  replace h := h x146 ex146
  obtain ⟨hi147, h⟩ := h
  refine x_iast C hR hK_a141 hS hi147 dX7_stand_88 (fun H locs hR hS => ?_)
  obtain ⟨S148, eS148⟩ : ∃ z : sT, z = s_sB S140 a141 (Int32.toNatClampNeg (6 : Int32)) x146 := ⟨_, rfl⟩
  rw [← eS148] at hR
  replace h := h S148 eS148
  have hK_x0 : s_K S148 x0 = 9 := by rw [eS148]; exact hK_x0
  have hK_a101 : s_K S148 a101 = 13 := by rw [eS148]; exact hK_a101
  have hK_a103 : s_K S148 a103 = 11 := by rw [eS148]; exact hK_a103
  have hK_a108 : s_K S148 a108 = 11 := by rw [eS148]; exact hK_a108
  have hK_a112 : s_K S148 a112 = 11 := by rw [eS148]; exact hK_a112
  have hK_a141 : s_K S148 a141 = 11 := by rw [eS148]; exact hK_a141
  refine lv_aload_n hx hb dX7_stand_89 rfl (lv_at hl 3 rfl) ?_
  refine lv_iload_n hx hb dX7_stand_90 rfl (lv_at hl 4 rfl) ?_
  refine x_ki (x_runV (As := [.int x1]) (rest := []) C hml hR hS (m_X7_below l gg x0 x1 S148 h) b_X7_below q_27_7 (by rw [hK_x0]; decide) (s_E_8 hK_x0) rfl rfl rfl rfl ⟨Nat.le_of_ble_eq_true rfl, Nat.le_of_ble_eq_true rfl⟩ rfl hl.1 (Nat.le_of_ble_eq_true rfl) dX7_stand_91 ⟨Nat.le_refl _, Nat.le_refl _⟩) hS (fun x150 S149 H locs hn hR hS => ?_)
  replace h := hn
  clear hn
  refine lv_istore (lv' := [(5, .int x150), (4, .int x135), (3, .int x124), (2, .ref a103), (0, .ref x0), (1, .int x1)]) hx hb dX7_stand_94 hl (by decide) rfl (fun ls hl => ?_)
  refine lv_iload hx hb dX7_stand_96 (lv_at hl 0 rfl) ?_
  refine lv_iconst (v := (-1)) hx hb dX7_stand_98 (by decide) ?_
  refine lv_icmp_ne (tgt := 121) hx hb dX7_stand_99 (by decide) (fun hc151 => ?_) (fun hc151 => ?_)
  · replace h := h.1 hc151
    refine lv_aload_n hx hb dX7_stand_121 rfl (lv_at hl 4 rfl) ?_
    obtain ⟨hK_x0, h⟩ := h
    refine x_g_259 C hR hK_x0 q_3_15 dX7_stand_122 ?_
    obtain ⟨a152, ea152, h⟩ := h
    refine x_some ea152 ?_
    refine lv_iload hx hb dX7_stand_125 (lv_at hl 0 rfl) ?_
    refine lv_dup2_11 hx hb dX7_stand_127 rfl rfl ?_
    obtain ⟨hK_a152, h⟩ := h
    obtain ⟨hi153, h⟩ := h
    refine x_iald C hR hK_a152 hi153 dX7_stand_128 ?_
    refine lv_topi (fun x154 ex154 => ?_)
    replace h := h x154 ex154
    refine lv_iload_n hx hb dX7_stand_129 rfl (lv_at hl 2 rfl) ?_
    refine lv_iload hx hb dX7_stand_130 (lv_at hl 1 rfl) ?_
    refine lv_iconst (v := 2) hx hb dX7_stand_132 (by decide) ?_
    refine lv_idiv hx hb dX7_stand_133 (by decide) ?_
    refine lv_topi (fun x155 ex155 => ?_)
    replace h := h x155 ex155
    refine lv_iadd hx hb dX7_stand_134 ?_
    refine lv_topi (fun x156 ex156 => ?_)
    replace h := h x156 ex156
    refine lv_iadd hx hb dX7_stand_135 ?_
    refine lv_topi (fun x157 ex157 => ?_)
    replace h := h x157 ex157
    obtain ⟨hi158, h⟩ := h
    refine x_iast C hR hK_a152 hS hi158 dX7_stand_136 (fun H locs hR hS => ?_)
    obtain ⟨S159, eS159⟩ : ∃ z : sT, z = s_sB S149 a152 (Int32.toNatClampNeg x150) x157 := ⟨_, rfl⟩
    rw [← eS159] at hR
    replace h := h S159 eS159
    have hK_x0 : s_K S159 x0 = 9 := by rw [eS159]; exact hK_x0
    have hK_a152 : s_K S159 a152 = 11 := by rw [eS159]; exact hK_a152
    exact t_X7_stand_b137 C hml hr hlocks  h H locs ls hR hS (lv_sub (l' := [(0, .ref x0), (2, .ref a103)]) hl [4, 3] rfl)
  · replace h := h.2 hc151
    refine lv_aload_n hx hb dX7_stand_102 rfl (lv_at hl 4 rfl) ?_
    obtain ⟨hK_x0, h⟩ := h
    refine x_g_258 C hR hK_x0 q_3_14 dX7_stand_103 ?_
    obtain ⟨a160, ea160, h⟩ := h
    refine x_some ea160 ?_
    refine lv_bipush (v := 8) hx hb dX7_stand_106 (by decide) ?_
    refine lv_dup2_11 hx hb dX7_stand_108 rfl rfl ?_
    obtain ⟨hK_a160, h⟩ := h
    obtain ⟨hi161, h⟩ := h
    refine x_iald C hR hK_a160 hi161 dX7_stand_109 ?_
    refine lv_topi (fun x162 ex162 => ?_)
    replace h := h x162 ex162
    refine lv_iload_n hx hb dX7_stand_110 rfl (lv_at hl 2 rfl) ?_
    refine lv_iload hx hb dX7_stand_111 (lv_at hl 1 rfl) ?_
    refine lv_iconst (v := 2) hx hb dX7_stand_113 (by decide) ?_
    refine lv_idiv hx hb dX7_stand_114 (by decide) ?_
    refine lv_topi (fun x163 ex163 => ?_)
    replace h := h x163 ex163
    refine lv_iadd hx hb dX7_stand_115 ?_
    refine lv_topi (fun x164 ex164 => ?_)
    replace h := h x164 ex164
    refine lv_iadd hx hb dX7_stand_116 ?_
    refine lv_topi (fun x165 ex165 => ?_)
    replace h := h x165 ex165
    obtain ⟨hi166, h⟩ := h
    refine x_iast C hR hK_a160 hS hi166 dX7_stand_117 (fun H locs hR hS => ?_)
    obtain ⟨S167, eS167⟩ : ∃ z : sT, z = s_sB S149 a160 (Int32.toNatClampNeg (8 : Int32)) x165 := ⟨_, rfl⟩
    rw [← eS167] at hR
    replace h := h S167 eS167
    have hK_x0 : s_K S167 x0 = 9 := by rw [eS167]; exact hK_x0
    have hK_a160 : s_K S167 a160 = 11 := by rw [eS167]; exact hK_a160
    refine lv_goto (tgt := 137) hx hb dX7_stand_118 (by decide) ?_
    exact t_X7_stand_b137 C hml hr hlocks  h H locs ls hR hS (lv_sub (l' := [(0, .ref x0), (2, .ref a103)]) hl [4, 3] rfl)
theorem m_X7_stand (l : Launch) (gg : sG) (x0 : Nat) (x1 : Int32) (S : sT) {Q : sT → Prop} (h : w_X7_stand x0 x1 S Q) : x_Mv l gg yX7_stand (x_ws yX7_stand cX7_stand 8 none) r_X7_stand [.ref x0, .int x1] S Q 0 0 := by
  refine x_ofW (cc := cX7_stand) (own := RX7) (by decide +kernel) rfl (Nat.le_of_ble_eq_true rfl) ?_
  intro p e s m args below meth c C hml hr hlocks hin ht H locs ls hR hS hl
  exact t_X7_stand_b0 C hml hr hlocks h H locs ls hR hS (lv_sub (l' := [(0, .ref x0), (1, .int x1)]) hl [0, 1] rfl)
def w_X7_takes_b42 (y0 : Int32) (S : sT)  (Q : Int32 → sT → Prop) : Prop :=
(y0 = 0 ∨ y0 = 1) ∧
    Q y0 S
def w_X7_takes_b41  (S : sT)  (Q : Int32 → sT → Prop) : Prop :=
w_X7_takes_b42 (0 : Int32) S  Q
def w_X7_takes_b0 (x0 : Nat) (x1 : Int32) (x2 : Int32) (S : sT)  (Q : Int32 → sT → Prop) : Prop :=
s_K S x0 = 9 ∧
    ∃ a101 : Nat, s_R S 257 x0 = some a101 ∧
    s_K S a101 = 13 ∧
    vp_in x2 (s_N S a101) ∧
    ∃ a103 : Nat, s_P S a101 (Int32.toNatClampNeg x2) = some a103 ∧
    s_K S a103 = 11 ∧
    vp_in (0 : Int32) (s_N S a103) ∧
    ∀ x105 : Int32, x105 = s_B S a103 (Int32.toNatClampNeg (0 : Int32)) →
    ((¬ x105 = x1 → w_X7_takes_b41  S  Q) ∧
    (x105 = x1 → ∃ a107 : Nat, s_R S 257 x0 = some a107 ∧
    s_K S a107 = 13 ∧
    vp_in x2 (s_N S a107) ∧
    ∃ a109 : Nat, s_P S a107 (Int32.toNatClampNeg x2) = some a109 ∧
    s_K S a109 = 11 ∧
    vp_in (12 : Int32) (s_N S a109) ∧
    ∀ x111 : Int32, x111 = s_B S a109 (Int32.toNatClampNeg (12 : Int32)) →
    ((¬ x111 = (1 : Int32) → w_X7_takes_b41  S  Q) ∧
    (x111 = (1 : Int32) → ∃ a113 : Nat, s_R S 257 x0 = some a113 ∧
    s_K S a113 = 13 ∧
    vp_in x2 (s_N S a113) ∧
    ∃ a115 : Nat, s_P S a113 (Int32.toNatClampNeg x2) = some a115 ∧
    s_K S a115 = 11 ∧
    vp_in (17 : Int32) (s_N S a115) ∧
    ∀ x117 : Int32, x117 = s_B S a115 (Int32.toNatClampNeg (17 : Int32)) →
    ((x117 < 0 → w_X7_takes_b41  S  Q) ∧
    (¬ x117 < 0 → w_X7_takes_b42 (1 : Int32) S  Q))))))
def w_X7_takes (x0 : Nat) (x1 : Int32) (x2 : Int32) (S : sT) (Q : Int32 → sT → Prop) : Prop := w_X7_takes_b0 x0 x1 x2 S Q
def r_X7_takes : Room := x_rm 0 0 0 0
theorem b_X7_takes : x_BV yX7_takes cX7_takes 3 (some .boolean) 2 := ⟨q_26_20, q_26_18, q_26_19, q_3_7, by decide +kernel⟩
set_option maxHeartbeats 4000000 in
theorem t_X7_takes_b42 {Q : Int32 → sT → Prop} (C : x_C p s m args c cX7_takes RX7 gg) (hml : c.maxLocals = 3) (hr : meth.sig.returnType = (some .boolean)) (hlocks : meth.locks = false) {y0 : Int32}  {S : sT}  (h : w_X7_takes_b42 y0 S  Q) : x_X p l e r_X7_takes s m args below meth c gg 3 0 0 (MQ below (va_Qi Q (fun S1 t => s_Rep gg S1 t.heap) (s_A gg)) args s 0 0 (s_A gg)) 42 [] [.int y0] S := by
  unfold w_X7_takes_b42 at h
  obtain ⟨hx, hb, -⟩ := id C
  intro H locs ls hR hS hl
  obtain ⟨hz101, h⟩ := h
  exact W.zret (v := y0) hx hb hr (zb_n hz101) (fun t ht hW => ⟨⟨y0, S, rfl, h, x_rt ht hR⟩, hS.F ht⟩) hS.2.2 dX7_takes_42
set_option maxHeartbeats 4000000 in
theorem t_X7_takes_b41 {Q : Int32 → sT → Prop} (C : x_C p s m args c cX7_takes RX7 gg) (hml : c.maxLocals = 3) (hr : meth.sig.returnType = (some .boolean)) (hlocks : meth.locks = false)   {S : sT}  (h : w_X7_takes_b41  S  Q) : x_X p l e r_X7_takes s m args below meth c gg 3 0 0 (MQ below (va_Qi Q (fun S1 t => s_Rep gg S1 t.heap) (s_A gg)) args s 0 0 (s_A gg)) 41 [] [] S := by
  unfold w_X7_takes_b41 at h
  obtain ⟨hx, hb, -⟩ := id C
  intro H locs ls hR hS hl
  refine lv_iconst (v := 0) hx hb dX7_takes_41 (by decide) ?_
  exact t_X7_takes_b42 C hml hr hlocks  h H locs ls hR hS (lv_sub (l' := []) hl [] rfl)
set_option maxHeartbeats 4000000 in
theorem t_X7_takes_b0 {Q : Int32 → sT → Prop} (C : x_C p s m args c cX7_takes RX7 gg) (hml : c.maxLocals = 3) (hr : meth.sig.returnType = (some .boolean)) (hlocks : meth.locks = false) {x0 : Nat} {x1 : Int32} {x2 : Int32}  {S : sT}  (h : w_X7_takes_b0 x0 x1 x2 S  Q) : x_X p l e r_X7_takes s m args below meth c gg 3 0 0 (MQ below (va_Qi Q (fun S1 t => s_Rep gg S1 t.heap) (s_A gg)) args s 0 0 (s_A gg)) 0 [(0, .ref x0), (1, .int x1), (2, .int x2)] [] S := by
  unfold w_X7_takes_b0 at h
  obtain ⟨hx, hb, -⟩ := id C
  intro H locs ls hR hS hl
  refine lv_aload_n hx hb dX7_takes_0 rfl (lv_at hl 0 rfl) ?_
  obtain ⟨hK_x0, h⟩ := h
  refine x_g_257 C hR hK_x0 q_3_19 dX7_takes_1 ?_
  obtain ⟨a101, ea101, h⟩ := h
  refine x_some ea101 ?_
  refine lv_iload_n hx hb dX7_takes_4 rfl (lv_at hl 2 rfl) ?_
  obtain ⟨hK_a101, h⟩ := h
  obtain ⟨hi102, a103, ea103, h⟩ := h
  refine x_aald13 C hR hK_a101 hi102 dX7_takes_5 ?_
  refine x_some ea103 ?_
  refine lv_iconst (v := 0) hx hb dX7_takes_6 (by decide) ?_
  obtain ⟨hK_a103, h⟩ := h
  obtain ⟨hi104, h⟩ := h
  refine x_iald C hR hK_a103 hi104 dX7_takes_7 ?_
  refine lv_topi (fun x105 ex105 => ?_)
  replace h := h x105 ex105
  refine lv_iload_n hx hb dX7_takes_8 rfl (lv_at hl 1 rfl) ?_
  refine lv_icmp_ne (tgt := 41) hx hb dX7_takes_9 (by decide) (fun hc106 => ?_) (fun hc106 => ?_)
  · replace h := h.1 hc106
    exact t_X7_takes_b41 C hml hr hlocks  h H locs ls hR hS (lv_sub (l' := []) hl [] rfl)
  · replace h := h.2 hc106
    refine lv_aload_n hx hb dX7_takes_12 rfl (lv_at hl 0 rfl) ?_
    refine x_g_257 C hR hK_x0 q_3_19 dX7_takes_13 ?_
    obtain ⟨a107, ea107, h⟩ := h
    refine x_some ea107 ?_
    refine lv_iload_n hx hb dX7_takes_16 rfl (lv_at hl 2 rfl) ?_
    obtain ⟨hK_a107, h⟩ := h
    obtain ⟨hi108, a109, ea109, h⟩ := h
    refine x_aald13 C hR hK_a107 hi108 dX7_takes_17 ?_
    refine x_some ea109 ?_
    refine lv_bipush (v := 12) hx hb dX7_takes_18 (by decide) ?_
    obtain ⟨hK_a109, h⟩ := h
    obtain ⟨hi110, h⟩ := h
    refine x_iald C hR hK_a109 hi110 dX7_takes_20 ?_
    refine lv_topi (fun x111 ex111 => ?_)
    replace h := h x111 ex111
    refine lv_iconst (v := 1) hx hb dX7_takes_21 (by decide) ?_
    refine lv_icmp_ne (tgt := 41) hx hb dX7_takes_22 (by decide) (fun hc112 => ?_) (fun hc112 => ?_)
    · replace h := h.1 hc112
      exact t_X7_takes_b41 C hml hr hlocks  h H locs ls hR hS (lv_sub (l' := []) hl [] rfl)
    · replace h := h.2 hc112
      refine lv_aload_n hx hb dX7_takes_25 rfl (lv_at hl 0 rfl) ?_
      refine x_g_257 C hR hK_x0 q_3_19 dX7_takes_26 ?_
      obtain ⟨a113, ea113, h⟩ := h
      refine x_some ea113 ?_
      refine lv_iload_n hx hb dX7_takes_29 rfl (lv_at hl 2 rfl) ?_
      obtain ⟨hK_a113, h⟩ := h
      obtain ⟨hi114, a115, ea115, h⟩ := h
      refine x_aald13 C hR hK_a113 hi114 dX7_takes_30 ?_
      refine x_some ea115 ?_
      refine lv_bipush (v := 17) hx hb dX7_takes_31 (by decide) ?_
      obtain ⟨hK_a115, h⟩ := h
      obtain ⟨hi116, h⟩ := h
      refine x_iald C hR hK_a115 hi116 dX7_takes_33 ?_
      refine lv_topi (fun x117 ex117 => ?_)
      replace h := h x117 ex117
      refine lv_if_lt (tgt := 41) hx hb dX7_takes_34 (by decide) (fun hc118 => ?_) (fun hc118 => ?_)
      · replace h := h.1 hc118
        exact t_X7_takes_b41 C hml hr hlocks  h H locs ls hR hS (lv_sub (l' := []) hl [] rfl)
      · replace h := h.2 hc118
        refine lv_iconst (v := 1) hx hb dX7_takes_37 (by decide) ?_
        refine lv_goto (tgt := 42) hx hb dX7_takes_38 (by decide) ?_
        exact t_X7_takes_b42 C hml hr hlocks  h H locs ls hR hS (lv_sub (l' := []) hl [] rfl)
theorem m_X7_takes (l : Launch) (gg : sG) (x0 : Nat) (x1 : Int32) (x2 : Int32) (S : sT) {Q : Int32 → sT → Prop} (h : w_X7_takes x0 x1 x2 S Q) : x_Mi l gg yX7_takes (x_ws yX7_takes cX7_takes 3 (some .boolean)) r_X7_takes [.ref x0, .int x1, .int x2] S Q 0 0 := by
  refine x_ofW (cc := cX7_takes) (own := RX7) (by decide +kernel) rfl (Nat.le_of_ble_eq_true rfl) ?_
  intro p e s m args below meth c C hml hr hlocks hin ht H locs ls hR hS hl
  exact t_X7_takes_b0 C hml hr hlocks h H locs ls hR hS (lv_sub (l' := [(0, .ref x0), (1, .int x1), (2, .int x2)]) hl [0, 1, 2] rfl)
def w_X7_next_b67 (y0 : Int32) (S : sT)  (Q : Int32 → sT → Prop) : Prop :=
Q y0 S
def w_X7_next_b51 (x0 : Nat) (x1 : Int32) (x2 : Int32) (x3 : Int32) (x4 : Int32) (S : sT) (kk13 : Nat → Int32 → Int32 → Int32 → Int32 → sT → Prop) (Q : Int32 → sT → Prop) : Prop :=
∀ x101 : Int32, x101 = x4 + (-1) →
    kk13 x0 x1 x2 x3 x101 S
def w_X7_next_b13  (Q : Int32 → sT → Prop) : Nat → Nat → Int32 → Int32 → Int32 → Int32 → sT → Prop
  | 0 => fun _ _ _ _ _ _ => False
  | n + 1 => fun x0 x1 x2 x3 x4 S =>
((x4 < 0 → ((¬ x3 = (-1 : Int32) → w_X7_next_b67 x3 S  Q) ∧
    (x3 = (-1 : Int32) → w_X7_next_b67 x2 S  Q))) ∧
    (¬ x4 < 0 → s_K S x0 = 9 ∧
    w_X7_takes x0 x1 x4 S (fun x104 S103 =>
    ((¬ x104 = 0 → s_K S103 x0 = 9 ∧
    ∃ a106 : Nat, s_R S103 256 x0 = some a106 ∧
    s_K S103 a106 = 13 ∧
    vp_in x1 (s_N S103 a106) ∧
    ∃ a108 : Nat, s_P S103 a106 (Int32.toNatClampNeg x1) = some a108 ∧
    s_K S103 a108 = 11 ∧
    vp_in (7 : Int32) (s_N S103 a108) ∧
    ∀ x110 : Int32, x110 = s_B S103 a108 (Int32.toNatClampNeg (7 : Int32)) →
    ((x4 ≤ x110 → w_X7_next_b51 x0 x1 x4 x3 x4 S103 (fun x0 x1 x2 x3 x4 S => w_X7_next_b13  Q n x0 x1 x2 x3 x4 S) Q) ∧
    (¬ x4 ≤ x110 → w_X7_next_b51 x0 x1 x4 x4 x4 S103 (fun x0 x1 x2 x3 x4 S => w_X7_next_b13  Q n x0 x1 x2 x3 x4 S) Q))) ∧
    (x104 = 0 → w_X7_next_b51 x0 x1 x2 x3 x4 S103 (fun x0 x1 x2 x3 x4 S => w_X7_next_b13  Q n x0 x1 x2 x3 x4 S) Q)))))
def w_X7_next_b0 (x0 : Nat) (x1 : Int32) (S : sT)  (Q : Int32 → sT → Prop) : Prop :=
s_K S x0 = 9 ∧
    ∃ a101 : Nat, s_R S 257 x0 = some a101 ∧
    s_K S a101 = 13 ∧
    ∀ x102 : Int32, x102 = nI (s_N S a101) →
    ∀ x103 : Int32, x103 = x102 - (1 : Int32) →
    ∃ n9 : Nat, w_X7_next_b13  Q n9 x0 x1 (-1 : Int32) (-1 : Int32) x103 S
def w_X7_next (x0 : Nat) (x1 : Int32) (S : sT) (Q : Int32 → sT → Prop) : Prop := w_X7_next_b0 x0 x1 S Q
def r_X7_next : Room := x_rm 1 22 0 0
theorem b_X7_next : x_BV yX7_next cX7_next 5 (some .int) 1 := ⟨q_26_16, q_26_14, q_26_15, q_3_7, by decide +kernel⟩
set_option maxHeartbeats 4000000 in
theorem t_X7_next_b67 {Q : Int32 → sT → Prop} (C : x_C p s m args c cX7_next RX7 gg) (hml : c.maxLocals = 5) (hr : meth.sig.returnType = (some .int)) (hlocks : meth.locks = false) {y0 : Int32}  {S : sT}  (h : w_X7_next_b67 y0 S  Q) : x_X p l e r_X7_next s m args below meth c gg 5 0 0 (MQ below (va_Qi Q (fun S1 t => s_Rep gg S1 t.heap) (s_A gg)) args s 0 0 (s_A gg)) 67 [] [.int y0] S := by
  unfold w_X7_next_b67 at h
  obtain ⟨hx, hb, -⟩ := id C
  intro H locs ls hR hS hl
  exact W.iret (v := y0) hx hb hr (fun t ht hW => ⟨⟨y0, S, rfl, h, x_rt ht hR⟩, hS.F ht⟩) hS.2.2 dX7_next_67
set_option maxHeartbeats 4000000 in
theorem t_X7_next_b51 {Q : Int32 → sT → Prop} (C : x_C p s m args c cX7_next RX7 gg) (hml : c.maxLocals = 5) (hr : meth.sig.returnType = (some .int)) (hlocks : meth.locks = false) {x0 : Nat} {x1 : Int32} {x2 : Int32} {x3 : Int32} {x4 : Int32} {kk13 : Nat → Int32 → Int32 → Int32 → Int32 → sT → Prop} {S : sT} (hk13 : ∀ (x0 : Nat) (x1 : Int32) (x2 : Int32) (x3 : Int32) (x4 : Int32) (S : sT), kk13 x0 x1 x2 x3 x4 S → x_X p l e r_X7_next s m args below meth c gg 5 0 0 (MQ below (va_Qi Q (fun S1 t => s_Rep gg S1 t.heap) (s_A gg)) args s 0 0 (s_A gg)) 13 [(0, .ref x0), (1, .int x1), (2, .int x2), (3, .int x3), (4, .int x4)] [] S) (h : w_X7_next_b51 x0 x1 x2 x3 x4 S kk13 Q) : x_X p l e r_X7_next s m args below meth c gg 5 0 0 (MQ below (va_Qi Q (fun S1 t => s_Rep gg S1 t.heap) (s_A gg)) args s 0 0 (s_A gg)) 51 [(0, .ref x0), (1, .int x1), (2, .int x2), (3, .int x3), (4, .int x4)] [] S := by
  unfold w_X7_next_b51 at h
  obtain ⟨hx, hb, -⟩ := id C
  intro H locs ls hR hS hl
  obtain ⟨x101, ex101⟩ : ∃ z : Int32, z = x4 + (-1) := ⟨_, rfl⟩
  replace h := h x101 ex101
  refine lv_iinc (v := x101) (lv' := [(4, .int x101), (0, .ref x0), (1, .int x1), (2, .int x2), (3, .int x3)]) hx hb dX7_next_51 hl (k := 4) rfl (by rw [ex101]; rfl) (by decide) rfl (fun ls hl => ?_)
  refine lv_goto (tgt := 13) hx hb dX7_next_54 (by decide) ?_
  exact hk13 x0 x1 x2 x3 x101 S h H locs ls hR hS (lv_sub (l' := [(0, .ref x0), (1, .int x1), (2, .int x2), (3, .int x3), (4, .int x101)]) hl [1, 2, 3, 4, 0] rfl)
set_option maxHeartbeats 4000000 in
theorem t_X7_next_b13 {Q : Int32 → sT → Prop} (C : x_C p s m args c cX7_next RX7 gg) (hml : c.maxLocals = 5) (hr : meth.sig.returnType = (some .int)) (hlocks : meth.locks = false)   : ∀ (n : Nat) (x0 : Nat) (x1 : Int32) (x2 : Int32) (x3 : Int32) (x4 : Int32) (S : sT), w_X7_next_b13  Q n x0 x1 x2 x3 x4 S → x_X p l e r_X7_next s m args below meth c gg 5 0 0 (MQ below (va_Qi Q (fun S1 t => s_Rep gg S1 t.heap) (s_A gg)) args s 0 0 (s_A gg)) 13 [(0, .ref x0), (1, .int x1), (2, .int x2), (3, .int x3), (4, .int x4)] [] S := by
  obtain ⟨hx, hb, -⟩ := id C
  intro n
  induction n with
  | zero => intro x0 x1 x2 x3 x4 S h; exact absurd h id
  | succ n ih =>
    intro x0 x1 x2 x3 x4 S h H locs ls hR hS hl
    unfold w_X7_next_b13 at h
    refine lv_iload hx hb dX7_next_13 (lv_at hl 4 rfl) ?_
    refine lv_if_lt (tgt := 57) hx hb dX7_next_15 (by decide) (fun hc101 => ?_) (fun hc101 => ?_)
    · replace h := h.1 hc101
      refine lv_iload_n hx hb dX7_next_57 rfl (lv_at hl 3 rfl) ?_
      refine lv_iconst (v := (-1)) hx hb dX7_next_58 (by decide) ?_
      refine lv_icmp_ne (tgt := 66) hx hb dX7_next_59 (by decide) (fun hc102 => ?_) (fun hc102 => ?_)
      · replace h := h.1 hc102
        refine lv_iload_n hx hb dX7_next_66 rfl (lv_at hl 3 rfl) ?_
        exact t_X7_next_b67 C hml hr hlocks  h H locs ls hR hS (lv_sub (l' := []) hl [] rfl)
      · replace h := h.2 hc102
        refine lv_iload_n hx hb dX7_next_62 rfl (lv_at hl 2 rfl) ?_
        refine lv_goto (tgt := 67) hx hb dX7_next_63 (by decide) ?_
        exact t_X7_next_b67 C hml hr hlocks  h H locs ls hR hS (lv_sub (l' := []) hl [] rfl)
    · replace h := h.2 hc101
      refine lv_aload_n hx hb dX7_next_18 rfl (lv_at hl 0 rfl) ?_
      refine lv_iload_n hx hb dX7_next_19 rfl (lv_at hl 1 rfl) ?_
      refine lv_iload hx hb dX7_next_20 (lv_at hl 4 rfl) ?_
      obtain ⟨hK_x0, h⟩ := h
      refine x_ki (x_runV (As := [.int x1, .int x4]) (rest := []) C hml hR hS (m_X7_takes l gg x0 x1 x4 S h) b_X7_takes q_26_17 (by rw [hK_x0]; decide) (s_E_8 hK_x0) rfl rfl rfl rfl ⟨Nat.le_of_ble_eq_true rfl, Nat.le_of_ble_eq_true rfl⟩ rfl hl.1 (Nat.le_of_ble_eq_true rfl) dX7_next_22 ⟨Nat.le_refl _, Nat.le_refl _⟩) hS (fun x104 S103 H locs hn hR hS => ?_)
      replace h := hn
      clear hn
      refine lv_if_ne (tgt := 31) hx hb dX7_next_25 (by decide) (fun hc105 => ?_) (fun hc105 => ?_)
      · replace h := h.1 hc105
        refine lv_iload hx hb dX7_next_31 (lv_at hl 4 rfl) ?_
        refine lv_istore_n (lv' := [(2, .int x4), (0, .ref x0), (1, .int x1), (3, .int x3), (4, .int x4)]) hx hb dX7_next_33 rfl hl (by decide) rfl (fun ls hl => ?_)
        refine lv_iload hx hb dX7_next_34 (lv_at hl 4 rfl) ?_
        refine lv_aload_n hx hb dX7_next_36 rfl (lv_at hl 1 rfl) ?_
        obtain ⟨hK_x0, h⟩ := h
        refine x_g_256 C hR hK_x0 q_3_18 dX7_next_37 ?_
        obtain ⟨a106, ea106, h⟩ := h
        refine x_some ea106 ?_
        refine lv_iload_n hx hb dX7_next_40 rfl (lv_at hl 2 rfl) ?_
        obtain ⟨hK_a106, h⟩ := h
        obtain ⟨hi107, a108, ea108, h⟩ := h
        refine x_aald13 C hR hK_a106 hi107 dX7_next_41 ?_
        refine x_some ea108 ?_
        refine lv_bipush (v := 7) hx hb dX7_next_42 (by decide) ?_
        obtain ⟨hK_a108, h⟩ := h
        obtain ⟨hi109, h⟩ := h
        refine x_iald C hR hK_a108 hi109 dX7_next_44 ?_
        refine lv_topi (fun x110 ex110 => ?_)
        replace h := h x110 ex110
        refine lv_icmp_le (tgt := 51) hx hb dX7_next_45 (by decide) (fun hc111 => ?_) (fun hc111 => ?_)
        · replace h := h.1 hc111
          exact t_X7_next_b51 C hml hr hlocks (fun x0 x1 x2 x3 x4 S h => ih x0 x1 x2 x3 x4 S h) h H locs ls hR hS (lv_sub (l' := [(0, .ref x0), (1, .int x1), (2, .int x4), (3, .int x3), (4, .int x4)]) hl [1, 2, 0, 3, 4] rfl)
        · replace h := h.2 hc111
          refine lv_iload hx hb dX7_next_48 (lv_at hl 4 rfl) ?_
          refine lv_istore_n (lv' := [(3, .int x4), (2, .int x4), (0, .ref x0), (1, .int x1), (4, .int x4)]) hx hb dX7_next_50 rfl hl (by decide) rfl (fun ls hl => ?_)
          exact t_X7_next_b51 C hml hr hlocks (fun x0 x1 x2 x3 x4 S h => ih x0 x1 x2 x3 x4 S h) h H locs ls hR hS (lv_sub (l' := [(0, .ref x0), (1, .int x1), (2, .int x4), (3, .int x4), (4, .int x4)]) hl [2, 3, 1, 0, 4] rfl)
      · replace h := h.2 hc105
        refine lv_goto (tgt := 51) hx hb dX7_next_28 (by decide) ?_
        exact t_X7_next_b51 C hml hr hlocks (fun x0 x1 x2 x3 x4 S h => ih x0 x1 x2 x3 x4 S h) h H locs ls hR hS (lv_sub (l' := [(0, .ref x0), (1, .int x1), (2, .int x2), (3, .int x3), (4, .int x4)]) hl [0, 1, 2, 3, 4] rfl)
set_option maxHeartbeats 4000000 in
theorem t_X7_next_b0 {Q : Int32 → sT → Prop} (C : x_C p s m args c cX7_next RX7 gg) (hml : c.maxLocals = 5) (hr : meth.sig.returnType = (some .int)) (hlocks : meth.locks = false) {x0 : Nat} {x1 : Int32}  {S : sT}  (h : w_X7_next_b0 x0 x1 S  Q) : x_X p l e r_X7_next s m args below meth c gg 5 0 0 (MQ below (va_Qi Q (fun S1 t => s_Rep gg S1 t.heap) (s_A gg)) args s 0 0 (s_A gg)) 0 [(0, .ref x0), (1, .int x1)] [] S := by
  unfold w_X7_next_b0 at h
  obtain ⟨hx, hb, -⟩ := id C
  intro H locs ls hR hS hl
  refine lv_iconst (v := (-1)) hx hb dX7_next_0 (by decide) ?_
  refine lv_istore_n (lv' := [(2, .int (-1 : Int32)), (0, .ref x0), (1, .int x1)]) hx hb dX7_next_1 rfl hl (by decide) rfl (fun ls hl => ?_)
  refine lv_iconst (v := (-1)) hx hb dX7_next_2 (by decide) ?_
  refine lv_istore_n (lv' := [(3, .int (-1 : Int32)), (2, .int (-1 : Int32)), (0, .ref x0), (1, .int x1)]) hx hb dX7_next_3 rfl hl (by decide) rfl (fun ls hl => ?_)
  refine lv_aload_n hx hb dX7_next_4 rfl (lv_at hl 2 rfl) ?_
  obtain ⟨hK_x0, h⟩ := h
  refine x_g_257 C hR hK_x0 q_3_19 dX7_next_5 ?_
  obtain ⟨a101, ea101, h⟩ := h
  refine x_some ea101 ?_
  obtain ⟨hK_a101, h⟩ := h
  refine x_alen13 C hR hK_a101 dX7_next_8 ?_
  refine lv_topi (fun x102 ex102 => ?_)
  replace h := h x102 ex102
  refine lv_iconst (v := 1) hx hb dX7_next_9 (by decide) ?_
  refine lv_isub hx hb dX7_next_10 ?_
  refine lv_topi (fun x103 ex103 => ?_)
  replace h := h x103 ex103
  refine lv_istore (lv' := [(4, .int x103), (3, .int (-1 : Int32)), (2, .int (-1 : Int32)), (0, .ref x0), (1, .int x1)]) hx hb dX7_next_11 hl (by decide) rfl (fun ls hl => ?_)
  obtain ⟨n9, h⟩ := h
  exact t_X7_next_b13 C hml hr hlocks  n9 x0 x1 (-1 : Int32) (-1 : Int32) x103 S h H locs ls hR hS (lv_sub (l' := [(0, .ref x0), (1, .int x1), (2, .int (-1 : Int32)), (3, .int (-1 : Int32)), (4, .int x103)]) hl [3, 4, 2, 1, 0] rfl)
theorem m_X7_next (l : Launch) (gg : sG) (x0 : Nat) (x1 : Int32) (S : sT) {Q : Int32 → sT → Prop} (h : w_X7_next x0 x1 S Q) : x_Mi l gg yX7_next (x_ws yX7_next cX7_next 5 (some .int)) r_X7_next [.ref x0, .int x1] S Q 0 0 := by
  refine x_ofW (cc := cX7_next) (own := RX7) (by decide +kernel) rfl (Nat.le_of_ble_eq_true rfl) ?_
  intro p e s m args below meth c C hml hr hlocks hin ht H locs ls hR hS hl
  exact t_X7_next_b0 C hml hr hlocks h H locs ls hR hS (lv_sub (l' := [(0, .ref x0), (1, .int x1)]) hl [0, 1] rfl)
def w_X7_divide_b67 (x0 : Nat) (x4 : Int32) (S : sT)  (Q : sT → Prop) : Prop :=
s_K S x0 = 9 ∧
    ∃ a101 : Nat, s_R S 258 x0 = some a101 ∧
    s_K S a101 = 11 ∧
    vp_in (8 : Int32) (s_N S a101) ∧
    ∀ x103 : Int32, x103 = s_B S a101 (Int32.toNatClampNeg (8 : Int32)) →
    ∀ x104 : Int32, x104 = x103 + x4 →
    vp_in (8 : Int32) (s_N S a101) ∧
    ∀ S106 : sT, S106 = s_sB S a101 (Int32.toNatClampNeg (8 : Int32)) x104 →
    Q S106
def w_X7_divide_b253 (x0 : Nat) (x1 : Int32) (x2 : Nat) (x4 : Int32) (x6 : Int32) (x7 : Int32) (S : sT) (kk177 : Nat → Int32 → Nat → Int32 → Int32 → Int32 → sT → Prop) (Q : sT → Prop) : Prop :=
∀ x101 : Int32, x101 = x7 + 1 →
    kk177 x0 x1 x2 x4 x6 x101 S
def w_X7_divide_b177  (Q : sT → Prop) : Nat → Nat → Int32 → Nat → Int32 → Int32 → Int32 → sT → Prop
  | 0 => fun _ _ _ _ _ _ _ => False
  | n + 1 => fun x0 x1 x2 x4 x6 x7 S =>
s_K S x0 = 9 ∧
    ∃ a101 : Nat, s_R S 257 x0 = some a101 ∧
    s_K S a101 = 13 ∧
    ∀ x102 : Int32, x102 = nI (s_N S a101) →
    ((x102 ≤ x7 → Q S) ∧
    (¬ x102 ≤ x7 → w_X7_takes x0 x1 x7 S (fun x105 S104 =>
    ((¬ x105 = 0 → s_K S104 x0 = 9 ∧
    ∃ a107 : Nat, s_R S104 257 x0 = some a107 ∧
    s_K S104 a107 = 13 ∧
    vp_in x7 (s_N S104 a107) ∧
    ∃ a109 : Nat, s_P S104 a107 (Int32.toNatClampNeg x7) = some a109 ∧
    ∃ a110 : Nat, s_R S104 257 x0 = some a110 ∧
    s_K S104 a110 = 13 ∧
    vp_in x7 (s_N S104 a110) ∧
    ∃ a112 : Nat, s_P S104 a110 (Int32.toNatClampNeg x7) = some a112 ∧
    s_K S104 a112 = 11 ∧
    vp_in (13 : Int32) (s_N S104 a112) ∧
    ∀ x114 : Int32, x114 = s_B S104 a112 (Int32.toNatClampNeg (13 : Int32)) →
    ∃ a115 : Nat, s_R S104 257 x0 = some a115 ∧
    s_K S104 a115 = 13 ∧
    vp_in x7 (s_N S104 a115) ∧
    ∃ a117 : Nat, s_P S104 a115 (Int32.toNatClampNeg x7) = some a117 ∧
    s_K S104 a117 = 11 ∧
    vp_in (15 : Int32) (s_N S104 a117) ∧
    ∀ x119 : Int32, x119 = s_B S104 a117 (Int32.toNatClampNeg (15 : Int32)) →
    ∀ x120 : Int32, x120 = x114 + x119 →
    ∀ x121 : Int32, x121 = x4 * x120 →
    ¬ x6 = 0 ∧
    ∀ x123 : Int32, x123 = x121 / x6 →
    s_K S104 a109 = 11 ∧
    vp_in (11 : Int32) (s_N S104 a109) ∧
    ∀ S125 : sT, S125 = s_sB S104 a109 (Int32.toNatClampNeg (11 : Int32)) x123 →
    s_K S125 x2 = 11 ∧
    vp_in (5 : Int32) (s_N S125 x2) ∧
    ∀ x127 : Int32, x127 = s_B S125 x2 (Int32.toNatClampNeg (5 : Int32)) →
    ∃ a128 : Nat, s_R S125 257 x0 = some a128 ∧
    s_K S125 a128 = 13 ∧
    vp_in x7 (s_N S125 a128) ∧
    ∃ a130 : Nat, s_P S125 a128 (Int32.toNatClampNeg x7) = some a130 ∧
    s_K S125 a130 = 11 ∧
    vp_in (11 : Int32) (s_N S125 a130) ∧
    ∀ x132 : Int32, x132 = s_B S125 a130 (Int32.toNatClampNeg (11 : Int32)) →
    ∀ x133 : Int32, x133 = x127 - x132 →
    vp_in (5 : Int32) (s_N S125 x2) ∧
    ∀ S135 : sT, S135 = s_sB S125 x2 (Int32.toNatClampNeg (5 : Int32)) x133 →
    w_X7_divide_b253 x0 x1 x2 x4 x6 x7 S135 (fun x0 x1 x2 x4 x6 x7 S => w_X7_divide_b177  Q n x0 x1 x2 x4 x6 x7 S) Q) ∧
    (x105 = 0 → w_X7_divide_b253 x0 x1 x2 x4 x6 x7 S104 (fun x0 x1 x2 x4 x6 x7 S => w_X7_divide_b177  Q n x0 x1 x2 x4 x6 x7 S) Q)))))
def w_X7_divide_b160 (x0 : Nat) (x1 : Int32) (x2 : Nat) (x4 : Int32) (x7 : Int32) (y0 : Int32) (y1 : Int32) (S : sT) (kk113 : Nat → Int32 → Nat → Int32 → Int32 → Int32 → sT → Prop) (Q : sT → Prop) : Prop :=
∀ x101 : Int32, x101 = y1 + y0 →
    ∀ x102 : Int32, x102 = x7 + 1 →
    kk113 x0 x1 x2 x4 x101 x102 S
def w_X7_divide_b113  (Q : sT → Prop) : Nat → Nat → Int32 → Nat → Int32 → Int32 → Int32 → sT → Prop
  | 0 => fun _ _ _ _ _ _ _ => False
  | n + 1 => fun x0 x1 x2 x4 x6 x7 S =>
s_K S x0 = 9 ∧
    ∃ a101 : Nat, s_R S 257 x0 = some a101 ∧
    s_K S a101 = 13 ∧
    ∀ x102 : Int32, x102 = nI (s_N S a101) →
    ((x102 ≤ x7 → s_K S x2 = 11 ∧
    vp_in (5 : Int32) (s_N S x2) ∧
    ∀ S105 : sT, S105 = s_sB S x2 (Int32.toNatClampNeg (5 : Int32)) x4 →
    ∃ n9 : Nat, w_X7_divide_b177  Q n9 x0 x1 x2 x4 x6 (0 : Int32) S105) ∧
    (¬ x102 ≤ x7 → w_X7_takes x0 x1 x7 S (fun x107 S106 =>
    ((x107 = 0 → w_X7_divide_b160 x0 x1 x2 x4 x7 (0 : Int32) x6 S106 (fun x0 x1 x2 x4 x6 x7 S => w_X7_divide_b113  Q n x0 x1 x2 x4 x6 x7 S) Q) ∧
    (¬ x107 = 0 → s_K S106 x0 = 9 ∧
    ∃ a109 : Nat, s_R S106 257 x0 = some a109 ∧
    s_K S106 a109 = 13 ∧
    vp_in x7 (s_N S106 a109) ∧
    ∃ a111 : Nat, s_P S106 a109 (Int32.toNatClampNeg x7) = some a111 ∧
    s_K S106 a111 = 11 ∧
    vp_in (13 : Int32) (s_N S106 a111) ∧
    ∀ x113 : Int32, x113 = s_B S106 a111 (Int32.toNatClampNeg (13 : Int32)) →
    ∃ a114 : Nat, s_R S106 257 x0 = some a114 ∧
    s_K S106 a114 = 13 ∧
    vp_in x7 (s_N S106 a114) ∧
    ∃ a116 : Nat, s_P S106 a114 (Int32.toNatClampNeg x7) = some a116 ∧
    s_K S106 a116 = 11 ∧
    vp_in (15 : Int32) (s_N S106 a116) ∧
    ∀ x118 : Int32, x118 = s_B S106 a116 (Int32.toNatClampNeg (15 : Int32)) →
    ∀ x119 : Int32, x119 = x113 + x118 →
    w_X7_divide_b160 x0 x1 x2 x4 x7 x119 x6 S106 (fun x0 x1 x2 x4 x6 x7 S => w_X7_divide_b113  Q n x0 x1 x2 x4 x6 x7 S) Q)))))
def w_X7_divide_b0 (x0 : Nat) (x1 : Int32) (S : sT)  (Q : sT → Prop) : Prop :=
s_K S x0 = 9 ∧
    ∃ a101 : Nat, s_R S 256 x0 = some a101 ∧
    s_K S a101 = 13 ∧
    vp_in x1 (s_N S a101) ∧
    ∃ a103 : Nat, s_P S a101 (Int32.toNatClampNeg x1) = some a103 ∧
    s_K S a103 = 11 ∧
    vp_in (9 : Int32) (s_N S a103) ∧
    ∀ x105 : Int32, x105 = s_B S a103 (Int32.toNatClampNeg (9 : Int32)) →
    vp_in (1 : Int32) (s_N S a103) ∧
    ∀ x107 : Int32, x107 = s_B S a103 (Int32.toNatClampNeg (1 : Int32)) →
    ∀ x108 : Int32, x108 = x105 * x107 →
    ∀ x109 : Int32, x109 = x108 / (100 : Int32) →
    vp_in (9 : Int32) (s_N S a103) ∧
    ∀ x111 : Int32, x111 = s_B S a103 (Int32.toNatClampNeg (9 : Int32)) →
    ∀ x112 : Int32, x112 = x111 - x109 →
    vp_in (5 : Int32) (s_N S a103) ∧
    ∀ x114 : Int32, x114 = s_B S a103 (Int32.toNatClampNeg (5 : Int32)) →
    ∀ x115 : Int32, x115 = x112 + x114 →
    ∃ a116 : Nat, s_R S 258 x0 = some a116 ∧
    s_K S a116 = 11 ∧
    vp_in (6 : Int32) (s_N S a116) ∧
    ∀ x118 : Int32, x118 = s_B S a116 (Int32.toNatClampNeg (6 : Int32)) →
    ∀ x119 : Int32, x119 = x118 + x109 →
    vp_in (6 : Int32) (s_N S a116) ∧
    ∀ S121 : sT, S121 = s_sB S a116 (Int32.toNatClampNeg (6 : Int32)) x119 →
    vp_in (5 : Int32) (s_N S121 a103) ∧
    ∀ S123 : sT, S123 = s_sB S121 a103 (Int32.toNatClampNeg (5 : Int32)) (0 : Int32) →
    w_X7_next x0 x1 S123 (fun x125 S124 =>
    ((x125 = (-1 : Int32) → w_X7_divide_b67 x0 x115 S124  Q) ∧
    (¬ x125 = (-1 : Int32) → s_K S124 x0 = 9 ∧
    w_X7_isOpen x0 x1 S124 (fun x128 S127 =>
    ((¬ x128 = 0 → s_K S127 a103 = 11 ∧
    vp_in (6 : Int32) (s_N S127 a103) ∧
    ∀ x131 : Int32, x131 = s_B S127 a103 (Int32.toNatClampNeg (6 : Int32)) →
    ((¬ x131 = (1 : Int32) → ∃ n9 : Nat, w_X7_divide_b113  Q n9 x0 x1 a103 x115 (0 : Int32) (0 : Int32) S127) ∧
    (x131 = (1 : Int32) → s_K S127 x0 = 9 ∧
    ∃ a133 : Nat, s_R S127 257 x0 = some a133 ∧
    s_K S127 a133 = 13 ∧
    vp_in x125 (s_N S127 a133) ∧
    ∃ a135 : Nat, s_P S127 a133 (Int32.toNatClampNeg x125) = some a135 ∧
    s_K S127 a135 = 11 ∧
    vp_in (11 : Int32) (s_N S127 a135) ∧
    ∀ S137 : sT, S137 = s_sB S127 a135 (Int32.toNatClampNeg (11 : Int32)) x115 →
    vp_in (7 : Int32) (s_N S137 a103) ∧
    ∀ S139 : sT, S139 = s_sB S137 a103 (Int32.toNatClampNeg (7 : Int32)) x125 →
    Q S139))) ∧
    (x128 = 0 → w_X7_divide_b67 x0 x115 S127  Q))))))
def w_X7_divide (x0 : Nat) (x1 : Int32) (S : sT) (Q : sT → Prop) : Prop := w_X7_divide_b0 x0 x1 S Q
def r_X7_divide : Room := x_rm 2 46 0 0
theorem b_X7_divide : x_BV yX7_divide cX7_divide 8 none 1 := ⟨q_26_12, q_26_10, q_26_11, q_3_7, by decide +kernel⟩
set_option maxHeartbeats 4000000 in
theorem t_X7_divide_b67 {Q : sT → Prop} (C : x_C p s m args c cX7_divide RX7 gg) (hml : c.maxLocals = 8) (hr : meth.sig.returnType = none) (hlocks : meth.locks = false) {x0 : Nat} {x4 : Int32}  {S : sT}  (h : w_X7_divide_b67 x0 x4 S  Q) : x_X p l e r_X7_divide s m args below meth c gg 8 0 0 (MQ below (va_Qv Q (fun S1 t => s_Rep gg S1 t.heap) (s_A gg)) args s 0 0 (s_A gg)) 67 [(0, .ref x0), (4, .int x4)] [] S := by
  unfold w_X7_divide_b67 at h
  obtain ⟨hx, hb, -⟩ := id C
  intro H locs ls hR hS hl
  refine lv_aload_n hx hb dX7_divide_67 rfl (lv_at hl 0 rfl) ?_
  obtain ⟨hK_x0, h⟩ := h
  refine x_g_258 C hR hK_x0 q_3_14 dX7_divide_68 ?_
  obtain ⟨a101, ea101, h⟩ := h
  refine x_some ea101 ?_
  refine lv_bipush (v := 8) hx hb dX7_divide_71 (by decide) ?_
  refine lv_dup2_11 hx hb dX7_divide_73 rfl rfl ?_
  obtain ⟨hK_a101, h⟩ := h
  obtain ⟨hi102, h⟩ := h
  refine x_iald C hR hK_a101 hi102 dX7_divide_74 ?_
  refine lv_topi (fun x103 ex103 => ?_)
  replace h := h x103 ex103
  refine lv_iload hx hb dX7_divide_75 (lv_at hl 1 rfl) ?_
  refine lv_iadd hx hb dX7_divide_77 ?_
  refine lv_topi (fun x104 ex104 => ?_)
  replace h := h x104 ex104
  obtain ⟨hi105, h⟩ := h
  refine x_iast C hR hK_a101 hS hi105 dX7_divide_78 (fun H locs hR hS => ?_)
  obtain ⟨S106, eS106⟩ : ∃ z : sT, z = s_sB S a101 (Int32.toNatClampNeg (8 : Int32)) x104 := ⟨_, rfl⟩
  rw [← eS106] at hR
  replace h := h S106 eS106
  have hK_x0 : s_K S106 x0 = 9 := by rw [eS106]; exact hK_x0
  have hK_a101 : s_K S106 a101 = 11 := by rw [eS106]; exact hK_a101
  exact W.vret hx hb hr (fun t ht hW => ⟨⟨S106, rfl, h, x_rt ht hR⟩, hS.F ht⟩) hS.2.2 dX7_divide_79
set_option maxHeartbeats 4000000 in
theorem t_X7_divide_b253 {Q : sT → Prop} (C : x_C p s m args c cX7_divide RX7 gg) (hml : c.maxLocals = 8) (hr : meth.sig.returnType = none) (hlocks : meth.locks = false) {x0 : Nat} {x1 : Int32} {x2 : Nat} {x4 : Int32} {x6 : Int32} {x7 : Int32} {kk177 : Nat → Int32 → Nat → Int32 → Int32 → Int32 → sT → Prop} {S : sT} (hk177 : ∀ (x0 : Nat) (x1 : Int32) (x2 : Nat) (x4 : Int32) (x6 : Int32) (x7 : Int32) (S : sT), kk177 x0 x1 x2 x4 x6 x7 S → x_X p l e r_X7_divide s m args below meth c gg 8 0 0 (MQ below (va_Qv Q (fun S1 t => s_Rep gg S1 t.heap) (s_A gg)) args s 0 0 (s_A gg)) 177 [(0, .ref x0), (1, .int x1), (2, .ref x2), (4, .int x4), (6, .int x6), (7, .int x7)] [] S) (h : w_X7_divide_b253 x0 x1 x2 x4 x6 x7 S kk177 Q) : x_X p l e r_X7_divide s m args below meth c gg 8 0 0 (MQ below (va_Qv Q (fun S1 t => s_Rep gg S1 t.heap) (s_A gg)) args s 0 0 (s_A gg)) 253 [(0, .ref x0), (1, .int x1), (2, .ref x2), (4, .int x4), (6, .int x6), (7, .int x7)] [] S := by
  unfold w_X7_divide_b253 at h
  obtain ⟨hx, hb, -⟩ := id C
  intro H locs ls hR hS hl
  obtain ⟨x101, ex101⟩ : ∃ z : Int32, z = x7 + 1 := ⟨_, rfl⟩
  replace h := h x101 ex101
  refine lv_iinc (v := x101) (lv' := [(7, .int x101), (0, .ref x0), (1, .int x1), (2, .ref x2), (4, .int x4), (6, .int x6)]) hx hb dX7_divide_253 hl (k := 5) rfl (by rw [ex101]; rfl) (by decide) rfl (fun ls hl => ?_)
  refine lv_goto (tgt := 177) hx hb dX7_divide_256 (by decide) ?_
  exact hk177 x0 x1 x2 x4 x6 x101 S h H locs ls hR hS (lv_sub (l' := [(0, .ref x0), (1, .int x1), (2, .ref x2), (4, .int x4), (6, .int x6), (7, .int x101)]) hl [1, 2, 3, 4, 5, 0] rfl)
set_option maxHeartbeats 4000000 in
theorem t_X7_divide_b177 {Q : sT → Prop} (C : x_C p s m args c cX7_divide RX7 gg) (hml : c.maxLocals = 8) (hr : meth.sig.returnType = none) (hlocks : meth.locks = false)   : ∀ (n : Nat) (x0 : Nat) (x1 : Int32) (x2 : Nat) (x4 : Int32) (x6 : Int32) (x7 : Int32) (S : sT), w_X7_divide_b177  Q n x0 x1 x2 x4 x6 x7 S → x_X p l e r_X7_divide s m args below meth c gg 8 0 0 (MQ below (va_Qv Q (fun S1 t => s_Rep gg S1 t.heap) (s_A gg)) args s 0 0 (s_A gg)) 177 [(0, .ref x0), (1, .int x1), (2, .ref x2), (4, .int x4), (6, .int x6), (7, .int x7)] [] S := by
  obtain ⟨hx, hb, -⟩ := id C
  intro n
  induction n with
  | zero => intro x0 x1 x2 x4 x6 x7 S h; exact absurd h id
  | succ n ih =>
    intro x0 x1 x2 x4 x6 x7 S h H locs ls hR hS hl
    unfold w_X7_divide_b177 at h
    refine lv_iload hx hb dX7_divide_177 (lv_at hl 5 rfl) ?_
    refine lv_aload_n hx hb dX7_divide_179 rfl (lv_at hl 0 rfl) ?_
    obtain ⟨hK_x0, h⟩ := h
    refine x_g_257 C hR hK_x0 q_3_19 dX7_divide_180 ?_
    obtain ⟨a101, ea101, h⟩ := h
    refine x_some ea101 ?_
    obtain ⟨hK_a101, h⟩ := h
    refine x_alen13 C hR hK_a101 dX7_divide_183 ?_
    refine lv_topi (fun x102 ex102 => ?_)
    replace h := h x102 ex102
    refine lv_icmp_ge (tgt := 259) hx hb dX7_divide_184 (by decide) (fun hc103 => ?_) (fun hc103 => ?_)
    · replace h := h.1 hc103
      exact W.vret hx hb hr (fun t ht hW => ⟨⟨S, rfl, h, x_rt ht hR⟩, hS.F ht⟩) hS.2.2 dX7_divide_259
    · replace h := h.2 hc103
      refine lv_aload_n hx hb dX7_divide_187 rfl (lv_at hl 0 rfl) ?_
      refine lv_iload_n hx hb dX7_divide_188 rfl (lv_at hl 1 rfl) ?_
      refine lv_iload hx hb dX7_divide_189 (lv_at hl 5 rfl) ?_
      refine x_ki (x_runV (As := [.int x1, .int x7]) (rest := []) C hml hR hS (m_X7_takes l gg x0 x1 x7 S h) b_X7_takes q_26_17 (by rw [hK_x0]; decide) (s_E_8 hK_x0) rfl rfl rfl rfl ⟨Nat.le_of_ble_eq_true rfl, Nat.le_of_ble_eq_true rfl⟩ rfl hl.1 (Nat.le_of_ble_eq_true rfl) dX7_divide_191 ⟨Nat.le_refl _, Nat.le_refl _⟩) hS (fun x105 S104 H locs hn hR hS => ?_)
      replace h := hn
      clear hn
      refine lv_if_ne (tgt := 200) hx hb dX7_divide_194 (by decide) (fun hc106 => ?_) (fun hc106 => ?_)
      · replace h := h.1 hc106
        refine lv_aload_n hx hb dX7_divide_200 rfl (lv_at hl 0 rfl) ?_
        obtain ⟨hK_x0, h⟩ := h
        refine x_g_257 C hR hK_x0 q_3_19 dX7_divide_201 ?_
        obtain ⟨a107, ea107, h⟩ := h
        refine x_some ea107 ?_
        refine lv_iload hx hb dX7_divide_204 (lv_at hl 5 rfl) ?_
        obtain ⟨hK_a107, h⟩ := h
        obtain ⟨hi108, a109, ea109, h⟩ := h
        refine x_aald13 C hR hK_a107 hi108 dX7_divide_206 ?_
        refine x_some ea109 ?_
        refine lv_bipush (v := 11) hx hb dX7_divide_207 (by decide) ?_
        refine lv_iload hx hb dX7_divide_209 (lv_at hl 3 rfl) ?_
        refine lv_aload_n hx hb dX7_divide_211 rfl (lv_at hl 0 rfl) ?_
        refine x_g_257 C hR hK_x0 q_3_19 dX7_divide_212 ?_
        obtain ⟨a110, ea110, h⟩ := h
        refine x_some ea110 ?_
        refine lv_iload hx hb dX7_divide_215 (lv_at hl 5 rfl) ?_
        obtain ⟨hK_a110, h⟩ := h
        obtain ⟨hi111, a112, ea112, h⟩ := h
        refine x_aald13 C hR hK_a110 hi111 dX7_divide_217 ?_
        refine x_some ea112 ?_
        refine lv_bipush (v := 13) hx hb dX7_divide_218 (by decide) ?_
        obtain ⟨hK_a112, h⟩ := h
        obtain ⟨hi113, h⟩ := h
        refine x_iald C hR hK_a112 hi113 dX7_divide_220 ?_
        refine lv_topi (fun x114 ex114 => ?_)
        replace h := h x114 ex114
        refine lv_aload_n hx hb dX7_divide_221 rfl (lv_at hl 0 rfl) ?_
        refine x_g_257 C hR hK_x0 q_3_19 dX7_divide_222 ?_
        obtain ⟨a115, ea115, h⟩ := h
        refine x_some ea115 ?_
        refine lv_iload hx hb dX7_divide_225 (lv_at hl 5 rfl) ?_
        obtain ⟨hK_a115, h⟩ := h
        obtain ⟨hi116, a117, ea117, h⟩ := h
        refine x_aald13 C hR hK_a115 hi116 dX7_divide_227 ?_
        refine x_some ea117 ?_
        refine lv_bipush (v := 15) hx hb dX7_divide_228 (by decide) ?_
        obtain ⟨hK_a117, h⟩ := h
        obtain ⟨hi118, h⟩ := h
        refine x_iald C hR hK_a117 hi118 dX7_divide_230 ?_
        refine lv_topi (fun x119 ex119 => ?_)
        replace h := h x119 ex119
        refine lv_iadd hx hb dX7_divide_231 ?_
        refine lv_topi (fun x120 ex120 => ?_)
        replace h := h x120 ex120
        refine lv_imul hx hb dX7_divide_232 ?_
        refine lv_topi (fun x121 ex121 => ?_)
        replace h := h x121 ex121
        refine lv_iload hx hb dX7_divide_233 (lv_at hl 4 rfl) ?_
        obtain ⟨hd122, h⟩ := h
        refine lv_idiv hx hb dX7_divide_235 hd122 ?_
        refine lv_topi (fun x123 ex123 => ?_)
        replace h := h x123 ex123
        obtain ⟨hK_a109, h⟩ := h
        obtain ⟨hi124, h⟩ := h
        refine x_iast C hR hK_a109 hS hi124 dX7_divide_236 (fun H locs hR hS => ?_)
        obtain ⟨S125, eS125⟩ : ∃ z : sT, z = s_sB S104 a109 (Int32.toNatClampNeg (11 : Int32)) x123 := ⟨_, rfl⟩
        rw [← eS125] at hR
        replace h := h S125 eS125
        have hK_x0 : s_K S125 x0 = 9 := by rw [eS125]; exact hK_x0
        have hK_a107 : s_K S125 a107 = 13 := by rw [eS125]; exact hK_a107
        have hK_a110 : s_K S125 a110 = 13 := by rw [eS125]; exact hK_a110
        have hK_a112 : s_K S125 a112 = 11 := by rw [eS125]; exact hK_a112
        have hK_a115 : s_K S125 a115 = 13 := by rw [eS125]; exact hK_a115
        have hK_a117 : s_K S125 a117 = 11 := by rw [eS125]; exact hK_a117
        have hK_a109 : s_K S125 a109 = 11 := by rw [eS125]; exact hK_a109
        refine lv_aload_n hx hb dX7_divide_237 rfl (lv_at hl 2 rfl) ?_
        refine lv_iconst (v := 5) hx hb dX7_divide_238 (by decide) ?_
        refine lv_dup2_11 hx hb dX7_divide_239 rfl rfl ?_
        obtain ⟨hK_x2, h⟩ := h
        obtain ⟨hi126, h⟩ := h
        refine x_iald C hR hK_x2 hi126 dX7_divide_240 ?_
        refine lv_topi (fun x127 ex127 => ?_)
        replace h := h x127 ex127
        refine lv_aload_n hx hb dX7_divide_241 rfl (lv_at hl 0 rfl) ?_
        refine x_g_257 C hR hK_x0 q_3_19 dX7_divide_242 ?_
        obtain ⟨a128, ea128, h⟩ := h
        refine x_some ea128 ?_
        refine lv_iload hx hb dX7_divide_245 (lv_at hl 5 rfl) ?_
        obtain ⟨hK_a128, h⟩ := h
        obtain ⟨hi129, a130, ea130, h⟩ := h
        refine x_aald13 C hR hK_a128 hi129 dX7_divide_247 ?_
        refine x_some ea130 ?_
        refine lv_bipush (v := 11) hx hb dX7_divide_248 (by decide) ?_
        obtain ⟨hK_a130, h⟩ := h
        obtain ⟨hi131, h⟩ := h
        refine x_iald C hR hK_a130 hi131 dX7_divide_250 ?_
        refine lv_topi (fun x132 ex132 => ?_)
        replace h := h x132 ex132
        refine lv_isub hx hb dX7_divide_251 ?_
        refine lv_topi (fun x133 ex133 => ?_)
        replace h := h x133 ex133
        obtain ⟨hi134, h⟩ := h
        refine x_iast C hR hK_x2 hS hi134 dX7_divide_252 (fun H locs hR hS => ?_)
        obtain ⟨S135, eS135⟩ : ∃ z : sT, z = s_sB S125 x2 (Int32.toNatClampNeg (5 : Int32)) x133 := ⟨_, rfl⟩
        rw [← eS135] at hR
        replace h := h S135 eS135
        have hK_x0 : s_K S135 x0 = 9 := by rw [eS135]; exact hK_x0
        have hK_a107 : s_K S135 a107 = 13 := by rw [eS135]; exact hK_a107
        have hK_a110 : s_K S135 a110 = 13 := by rw [eS135]; exact hK_a110
        have hK_a112 : s_K S135 a112 = 11 := by rw [eS135]; exact hK_a112
        have hK_a115 : s_K S135 a115 = 13 := by rw [eS135]; exact hK_a115
        have hK_a117 : s_K S135 a117 = 11 := by rw [eS135]; exact hK_a117
        have hK_a109 : s_K S135 a109 = 11 := by rw [eS135]; exact hK_a109
        have hK_x2 : s_K S135 x2 = 11 := by rw [eS135]; exact hK_x2
        have hK_a128 : s_K S135 a128 = 13 := by rw [eS135]; exact hK_a128
        have hK_a130 : s_K S135 a130 = 11 := by rw [eS135]; exact hK_a130
        exact t_X7_divide_b253 C hml hr hlocks (fun x0 x1 x2 x4 x6 x7 S h => ih x0 x1 x2 x4 x6 x7 S h) h H locs ls hR hS (lv_sub (l' := [(0, .ref x0), (1, .int x1), (2, .ref x2), (4, .int x4), (6, .int x6), (7, .int x7)]) hl [0, 1, 2, 3, 4, 5] rfl)
      · replace h := h.2 hc106
        refine lv_goto (tgt := 253) hx hb dX7_divide_197 (by decide) ?_
        exact t_X7_divide_b253 C hml hr hlocks (fun x0 x1 x2 x4 x6 x7 S h => ih x0 x1 x2 x4 x6 x7 S h) h H locs ls hR hS (lv_sub (l' := [(0, .ref x0), (1, .int x1), (2, .ref x2), (4, .int x4), (6, .int x6), (7, .int x7)]) hl [0, 1, 2, 3, 4, 5] rfl)
set_option maxHeartbeats 4000000 in
theorem t_X7_divide_b160 {Q : sT → Prop} (C : x_C p s m args c cX7_divide RX7 gg) (hml : c.maxLocals = 8) (hr : meth.sig.returnType = none) (hlocks : meth.locks = false) {x0 : Nat} {x1 : Int32} {x2 : Nat} {x4 : Int32} {x7 : Int32} {y0 : Int32} {y1 : Int32} {kk113 : Nat → Int32 → Nat → Int32 → Int32 → Int32 → sT → Prop} {S : sT} (hk113 : ∀ (x0 : Nat) (x1 : Int32) (x2 : Nat) (x4 : Int32) (x6 : Int32) (x7 : Int32) (S : sT), kk113 x0 x1 x2 x4 x6 x7 S → x_X p l e r_X7_divide s m args below meth c gg 8 0 0 (MQ below (va_Qv Q (fun S1 t => s_Rep gg S1 t.heap) (s_A gg)) args s 0 0 (s_A gg)) 113 [(0, .ref x0), (1, .int x1), (2, .ref x2), (4, .int x4), (6, .int x6), (7, .int x7)] [] S) (h : w_X7_divide_b160 x0 x1 x2 x4 x7 y0 y1 S kk113 Q) : x_X p l e r_X7_divide s m args below meth c gg 8 0 0 (MQ below (va_Qv Q (fun S1 t => s_Rep gg S1 t.heap) (s_A gg)) args s 0 0 (s_A gg)) 160 [(0, .ref x0), (1, .int x1), (2, .ref x2), (4, .int x4), (7, .int x7)] [.int y0, .int y1] S := by
  unfold w_X7_divide_b160 at h
  obtain ⟨hx, hb, -⟩ := id C
  intro H locs ls hR hS hl
  refine lv_iadd hx hb dX7_divide_160 ?_
  refine lv_topi (fun x101 ex101 => ?_)
  replace h := h x101 ex101
  refine lv_istore (lv' := [(6, .int x101), (0, .ref x0), (1, .int x1), (2, .ref x2), (4, .int x4), (7, .int x7)]) hx hb dX7_divide_161 hl (by decide) rfl (fun ls hl => ?_)
  obtain ⟨x102, ex102⟩ : ∃ z : Int32, z = x7 + 1 := ⟨_, rfl⟩
  replace h := h x102 ex102
  refine lv_iinc (v := x102) (lv' := [(7, .int x102), (6, .int x101), (0, .ref x0), (1, .int x1), (2, .ref x2), (4, .int x4)]) hx hb dX7_divide_163 hl (k := 5) rfl (by rw [ex102]; rfl) (by decide) rfl (fun ls hl => ?_)
  refine lv_goto (tgt := 113) hx hb dX7_divide_166 (by decide) ?_
  exact hk113 x0 x1 x2 x4 x101 x102 S h H locs ls hR hS (lv_sub (l' := [(0, .ref x0), (1, .int x1), (2, .ref x2), (4, .int x4), (6, .int x101), (7, .int x102)]) hl [2, 3, 4, 5, 1, 0] rfl)
set_option maxHeartbeats 4000000 in
theorem t_X7_divide_b113 {Q : sT → Prop} (C : x_C p s m args c cX7_divide RX7 gg) (hml : c.maxLocals = 8) (hr : meth.sig.returnType = none) (hlocks : meth.locks = false)   : ∀ (n : Nat) (x0 : Nat) (x1 : Int32) (x2 : Nat) (x4 : Int32) (x6 : Int32) (x7 : Int32) (S : sT), w_X7_divide_b113  Q n x0 x1 x2 x4 x6 x7 S → x_X p l e r_X7_divide s m args below meth c gg 8 0 0 (MQ below (va_Qv Q (fun S1 t => s_Rep gg S1 t.heap) (s_A gg)) args s 0 0 (s_A gg)) 113 [(0, .ref x0), (1, .int x1), (2, .ref x2), (4, .int x4), (6, .int x6), (7, .int x7)] [] S := by
  obtain ⟨hx, hb, -⟩ := id C
  intro n
  induction n with
  | zero => intro x0 x1 x2 x4 x6 x7 S h; exact absurd h id
  | succ n ih =>
    intro x0 x1 x2 x4 x6 x7 S h H locs ls hR hS hl
    unfold w_X7_divide_b113 at h
    refine lv_iload hx hb dX7_divide_113 (lv_at hl 5 rfl) ?_
    refine lv_aload_n hx hb dX7_divide_115 rfl (lv_at hl 0 rfl) ?_
    obtain ⟨hK_x0, h⟩ := h
    refine x_g_257 C hR hK_x0 q_3_19 dX7_divide_116 ?_
    obtain ⟨a101, ea101, h⟩ := h
    refine x_some ea101 ?_
    obtain ⟨hK_a101, h⟩ := h
    refine x_alen13 C hR hK_a101 dX7_divide_119 ?_
    refine lv_topi (fun x102 ex102 => ?_)
    replace h := h x102 ex102
    refine lv_icmp_ge (tgt := 169) hx hb dX7_divide_120 (by decide) (fun hc103 => ?_) (fun hc103 => ?_)
    · replace h := h.1 hc103
      refine lv_aload_n hx hb dX7_divide_169 rfl (lv_at hl 2 rfl) ?_
      refine lv_iconst (v := 5) hx hb dX7_divide_170 (by decide) ?_
      refine lv_iload hx hb dX7_divide_171 (lv_at hl 3 rfl) ?_
      obtain ⟨hK_x2, h⟩ := h
      obtain ⟨hi104, h⟩ := h
      refine x_iast C hR hK_x2 hS hi104 dX7_divide_173 (fun H locs hR hS => ?_)
      obtain ⟨S105, eS105⟩ : ∃ z : sT, z = s_sB S x2 (Int32.toNatClampNeg (5 : Int32)) x4 := ⟨_, rfl⟩
      rw [← eS105] at hR
      replace h := h S105 eS105
      have hK_x0 : s_K S105 x0 = 9 := by rw [eS105]; exact hK_x0
      have hK_a101 : s_K S105 a101 = 13 := by rw [eS105]; exact hK_a101
      have hK_x2 : s_K S105 x2 = 11 := by rw [eS105]; exact hK_x2
      refine lv_iconst (v := 0) hx hb dX7_divide_174 (by decide) ?_
      refine lv_istore (lv' := [(7, .int (0 : Int32)), (0, .ref x0), (1, .int x1), (2, .ref x2), (4, .int x4), (6, .int x6)]) hx hb dX7_divide_175 hl (by decide) rfl (fun ls hl => ?_)
      obtain ⟨n9, h⟩ := h
      exact t_X7_divide_b177 C hml hr hlocks  n9 x0 x1 x2 x4 x6 (0 : Int32) S105 h H locs ls hR hS (lv_sub (l' := [(0, .ref x0), (1, .int x1), (2, .ref x2), (4, .int x4), (6, .int x6), (7, .int (0 : Int32))]) hl [1, 2, 3, 4, 5, 0] rfl)
    · replace h := h.2 hc103
      refine lv_iload hx hb dX7_divide_123 (lv_at hl 4 rfl) ?_
      refine lv_aload_n hx hb dX7_divide_125 rfl (lv_at hl 0 rfl) ?_
      refine lv_iload_n hx hb dX7_divide_126 rfl (lv_at hl 1 rfl) ?_
      refine lv_iload hx hb dX7_divide_127 (lv_at hl 5 rfl) ?_
      refine x_ki (x_runV (As := [.int x1, .int x7]) (rest := [.int x6]) C hml hR hS (m_X7_takes l gg x0 x1 x7 S h) b_X7_takes q_26_17 (by rw [hK_x0]; decide) (s_E_8 hK_x0) rfl rfl rfl rfl ⟨Nat.le_of_ble_eq_true rfl, Nat.le_of_ble_eq_true rfl⟩ rfl hl.1 (Nat.le_of_ble_eq_true rfl) dX7_divide_129 ⟨Nat.le_refl _, Nat.le_refl _⟩) hS (fun x107 S106 H locs hn hR hS => ?_)
      replace h := hn
      clear hn
      refine lv_if_eq (tgt := 159) hx hb dX7_divide_132 (by decide) (fun hc108 => ?_) (fun hc108 => ?_)
      · replace h := h.1 hc108
        refine lv_iconst (v := 0) hx hb dX7_divide_159 (by decide) ?_
        exact t_X7_divide_b160 C hml hr hlocks (fun x0 x1 x2 x4 x6 x7 S h => ih x0 x1 x2 x4 x6 x7 S h) h H locs ls hR hS (lv_sub (l' := [(0, .ref x0), (1, .int x1), (2, .ref x2), (4, .int x4), (7, .int x7)]) hl [0, 1, 2, 3, 5] rfl)
      · replace h := h.2 hc108
        refine lv_aload_n hx hb dX7_divide_135 rfl (lv_at hl 0 rfl) ?_
        obtain ⟨hK_x0, h⟩ := h
        refine x_g_257 C hR hK_x0 q_3_19 dX7_divide_136 ?_
        obtain ⟨a109, ea109, h⟩ := h
        refine x_some ea109 ?_
        refine lv_iload hx hb dX7_divide_139 (lv_at hl 5 rfl) ?_
        obtain ⟨hK_a109, h⟩ := h
        obtain ⟨hi110, a111, ea111, h⟩ := h
        refine x_aald13 C hR hK_a109 hi110 dX7_divide_141 ?_
        refine x_some ea111 ?_
        refine lv_bipush (v := 13) hx hb dX7_divide_142 (by decide) ?_
        obtain ⟨hK_a111, h⟩ := h
        obtain ⟨hi112, h⟩ := h
        refine x_iald C hR hK_a111 hi112 dX7_divide_144 ?_
        refine lv_topi (fun x113 ex113 => ?_)
        replace h := h x113 ex113
        refine lv_aload_n hx hb dX7_divide_145 rfl (lv_at hl 0 rfl) ?_
        refine x_g_257 C hR hK_x0 q_3_19 dX7_divide_146 ?_
        obtain ⟨a114, ea114, h⟩ := h
        refine x_some ea114 ?_
        refine lv_iload hx hb dX7_divide_149 (lv_at hl 5 rfl) ?_
        obtain ⟨hK_a114, h⟩ := h
        obtain ⟨hi115, a116, ea116, h⟩ := h
        refine x_aald13 C hR hK_a114 hi115 dX7_divide_151 ?_
        refine x_some ea116 ?_
        refine lv_bipush (v := 15) hx hb dX7_divide_152 (by decide) ?_
        obtain ⟨hK_a116, h⟩ := h
        obtain ⟨hi117, h⟩ := h
        refine x_iald C hR hK_a116 hi117 dX7_divide_154 ?_
        refine lv_topi (fun x118 ex118 => ?_)
        replace h := h x118 ex118
        refine lv_iadd hx hb dX7_divide_155 ?_
        refine lv_topi (fun x119 ex119 => ?_)
        replace h := h x119 ex119
        refine lv_goto (tgt := 160) hx hb dX7_divide_156 (by decide) ?_
        exact t_X7_divide_b160 C hml hr hlocks (fun x0 x1 x2 x4 x6 x7 S h => ih x0 x1 x2 x4 x6 x7 S h) h H locs ls hR hS (lv_sub (l' := [(0, .ref x0), (1, .int x1), (2, .ref x2), (4, .int x4), (7, .int x7)]) hl [0, 1, 2, 3, 5] rfl)
set_option maxHeartbeats 4000000 in
theorem t_X7_divide_b0 {Q : sT → Prop} (C : x_C p s m args c cX7_divide RX7 gg) (hml : c.maxLocals = 8) (hr : meth.sig.returnType = none) (hlocks : meth.locks = false) {x0 : Nat} {x1 : Int32}  {S : sT}  (h : w_X7_divide_b0 x0 x1 S  Q) : x_X p l e r_X7_divide s m args below meth c gg 8 0 0 (MQ below (va_Qv Q (fun S1 t => s_Rep gg S1 t.heap) (s_A gg)) args s 0 0 (s_A gg)) 0 [(0, .ref x0), (1, .int x1)] [] S := by
  unfold w_X7_divide_b0 at h
  obtain ⟨hx, hb, -⟩ := id C
  intro H locs ls hR hS hl
  refine lv_aload_n hx hb dX7_divide_0 rfl (lv_at hl 0 rfl) ?_
  obtain ⟨hK_x0, h⟩ := h
  refine x_g_256 C hR hK_x0 q_3_18 dX7_divide_1 ?_
  obtain ⟨a101, ea101, h⟩ := h
  refine x_some ea101 ?_
  refine lv_iload_n hx hb dX7_divide_4 rfl (lv_at hl 1 rfl) ?_
  obtain ⟨hK_a101, h⟩ := h
  obtain ⟨hi102, a103, ea103, h⟩ := h
  refine x_aald13 C hR hK_a101 hi102 dX7_divide_5 ?_
  refine x_some ea103 ?_
  refine lv_astore_n (lv' := [(2, .ref a103), (0, .ref x0), (1, .int x1)]) hx hb dX7_divide_6 rfl hl (by decide) rfl (fun ls hl => ?_)
  refine lv_aload_n hx hb dX7_divide_7 rfl (lv_at hl 0 rfl) ?_
  refine lv_bipush (v := 9) hx hb dX7_divide_8 (by decide) ?_
  obtain ⟨hK_a103, h⟩ := h
  obtain ⟨hi104, h⟩ := h
  refine x_iald C hR hK_a103 hi104 dX7_divide_10 ?_
  refine lv_topi (fun x105 ex105 => ?_)
  replace h := h x105 ex105
  refine lv_aload_n hx hb dX7_divide_11 rfl (lv_at hl 0 rfl) ?_
  refine lv_iconst (v := 1) hx hb dX7_divide_12 (by decide) ?_
  obtain ⟨hi106, h⟩ := h
  refine x_iald C hR hK_a103 hi106 dX7_divide_13 ?_
  refine lv_topi (fun x107 ex107 => ?_)
  replace h := h x107 ex107
  refine lv_imul hx hb dX7_divide_14 ?_
  refine lv_topi (fun x108 ex108 => ?_)
  replace h := h x108 ex108
  refine lv_bipush (v := 100) hx hb dX7_divide_15 (by decide) ?_
  refine lv_idiv hx hb dX7_divide_17 (by decide) ?_
  refine lv_topi (fun x109 ex109 => ?_)
  replace h := h x109 ex109
  refine lv_istore_n (lv' := [(3, .int x109), (2, .ref a103), (0, .ref x0), (1, .int x1)]) hx hb dX7_divide_18 rfl hl (by decide) rfl (fun ls hl => ?_)
  refine lv_aload_n hx hb dX7_divide_19 rfl (lv_at hl 1 rfl) ?_
  refine lv_bipush (v := 9) hx hb dX7_divide_20 (by decide) ?_
  obtain ⟨hi110, h⟩ := h
  refine x_iald C hR hK_a103 hi110 dX7_divide_22 ?_
  refine lv_topi (fun x111 ex111 => ?_)
  replace h := h x111 ex111
  refine lv_iload_n hx hb dX7_divide_23 rfl (lv_at hl 0 rfl) ?_
  refine lv_isub hx hb dX7_divide_24 ?_
  refine lv_topi (fun x112 ex112 => ?_)
  replace h := h x112 ex112
  refine lv_aload_n hx hb dX7_divide_25 rfl (lv_at hl 1 rfl) ?_
  refine lv_iconst (v := 5) hx hb dX7_divide_26 (by decide) ?_
  obtain ⟨hi113, h⟩ := h
  refine x_iald C hR hK_a103 hi113 dX7_divide_27 ?_
  refine lv_topi (fun x114 ex114 => ?_)
  replace h := h x114 ex114
  refine lv_iadd hx hb dX7_divide_28 ?_
  refine lv_topi (fun x115 ex115 => ?_)
  replace h := h x115 ex115
  refine lv_istore (lv' := [(4, .int x115), (3, .int x109), (2, .ref a103), (0, .ref x0), (1, .int x1)]) hx hb dX7_divide_29 hl (by decide) rfl (fun ls hl => ?_)
  refine lv_aload_n hx hb dX7_divide_31 rfl (lv_at hl 3 rfl) ?_
  refine x_g_258 C hR hK_x0 q_3_14 dX7_divide_32 ?_
  obtain ⟨a116, ea116, h⟩ := h
  refine x_some ea116 ?_
  refine lv_bipush (v := 6) hx hb dX7_divide_35 (by decide) ?_
  refine lv_dup2_11 hx hb dX7_divide_37 rfl rfl ?_
  obtain ⟨hK_a116, h⟩ := h
  obtain ⟨hi117, h⟩ := h
  refine x_iald C hR hK_a116 hi117 dX7_divide_38 ?_
  refine lv_topi (fun x118 ex118 => ?_)
  replace h := h x118 ex118
  refine lv_iload_n hx hb dX7_divide_39 rfl (lv_at hl 1 rfl) ?_
  refine lv_iadd hx hb dX7_divide_40 ?_
  refine lv_topi (fun x119 ex119 => ?_)
  replace h := h x119 ex119
  obtain ⟨hi120, h⟩ := h
  refine x_iast C hR hK_a116 hS hi120 dX7_divide_41 (fun H locs hR hS => ?_)
  obtain ⟨S121, eS121⟩ : ∃ z : sT, z = s_sB S a116 (Int32.toNatClampNeg (6 : Int32)) x119 := ⟨_, rfl⟩
  rw [← eS121] at hR
  replace h := h S121 eS121
  have hK_x0 : s_K S121 x0 = 9 := by rw [eS121]; exact hK_x0
  have hK_a101 : s_K S121 a101 = 13 := by rw [eS121]; exact hK_a101
  have hK_a103 : s_K S121 a103 = 11 := by rw [eS121]; exact hK_a103
  have hK_a116 : s_K S121 a116 = 11 := by rw [eS121]; exact hK_a116
  refine lv_aload_n hx hb dX7_divide_42 rfl (lv_at hl 2 rfl) ?_
  refine lv_iconst (v := 5) hx hb dX7_divide_43 (by decide) ?_
  refine lv_iconst (v := 0) hx hb dX7_divide_44 (by decide) ?_
  obtain ⟨hi122, h⟩ := h
  refine x_iast C hR hK_a103 hS hi122 dX7_divide_45 (fun H locs hR hS => ?_)
  obtain ⟨S123, eS123⟩ : ∃ z : sT, z = s_sB S121 a103 (Int32.toNatClampNeg (5 : Int32)) (0 : Int32) := ⟨_, rfl⟩
  rw [← eS123] at hR
  replace h := h S123 eS123
  have hK_x0 : s_K S123 x0 = 9 := by rw [eS123]; exact hK_x0
  have hK_a101 : s_K S123 a101 = 13 := by rw [eS123]; exact hK_a101
  have hK_a103 : s_K S123 a103 = 11 := by rw [eS123]; exact hK_a103
  have hK_a116 : s_K S123 a116 = 11 := by rw [eS123]; exact hK_a116
  refine lv_aload_n hx hb dX7_divide_46 rfl (lv_at hl 3 rfl) ?_
  refine lv_iload_n hx hb dX7_divide_47 rfl (lv_at hl 4 rfl) ?_
  refine x_ki (x_runV (As := [.int x1]) (rest := []) C hml hR hS (m_X7_next l gg x0 x1 S123 h) b_X7_next q_26_13 (by rw [hK_x0]; decide) (s_E_8 hK_x0) rfl rfl rfl rfl ⟨Nat.le_of_ble_eq_true rfl, Nat.le_of_ble_eq_true rfl⟩ rfl hl.1 (Nat.le_of_ble_eq_true rfl) dX7_divide_48 ⟨Nat.le_refl _, Nat.le_refl _⟩) hS (fun x125 S124 H locs hn hR hS => ?_)
  replace h := hn
  clear hn
  refine lv_istore (lv' := [(5, .int x125), (4, .int x115), (3, .int x109), (2, .ref a103), (0, .ref x0), (1, .int x1)]) hx hb dX7_divide_51 hl (by decide) rfl (fun ls hl => ?_)
  refine lv_iload hx hb dX7_divide_53 (lv_at hl 0 rfl) ?_
  refine lv_iconst (v := (-1)) hx hb dX7_divide_55 (by decide) ?_
  refine lv_icmp_eq (tgt := 67) hx hb dX7_divide_56 (by decide) (fun hc126 => ?_) (fun hc126 => ?_)
  · replace h := h.1 hc126
    exact t_X7_divide_b67 C hml hr hlocks  h H locs ls hR hS (lv_sub (l' := [(0, .ref x0), (4, .int x115)]) hl [4, 1] rfl)
  · replace h := h.2 hc126
    refine lv_aload_n hx hb dX7_divide_59 rfl (lv_at hl 4 rfl) ?_
    refine lv_iload_n hx hb dX7_divide_60 rfl (lv_at hl 5 rfl) ?_
    obtain ⟨hK_x0, h⟩ := h
    refine x_ki (x_runV (As := [.int x1]) (rest := []) C hml hR hS (m_X7_isOpen l gg x0 x1 S124 h) b_X7_isOpen q_26_21 (by rw [hK_x0]; decide) (s_E_8 hK_x0) rfl rfl rfl rfl ⟨Nat.le_of_ble_eq_true rfl, Nat.le_of_ble_eq_true rfl⟩ rfl hl.1 (Nat.le_of_ble_eq_true rfl) dX7_divide_61 ⟨Nat.le_refl _, Nat.le_refl _⟩) hS (fun x128 S127 H locs hn hR hS => ?_)
    replace h := hn
    clear hn
    refine lv_if_ne (tgt := 80) hx hb dX7_divide_64 (by decide) (fun hc129 => ?_) (fun hc129 => ?_)
    · replace h := h.1 hc129
      refine lv_aload_n hx hb dX7_divide_80 rfl (lv_at hl 3 rfl) ?_
      refine lv_bipush (v := 6) hx hb dX7_divide_81 (by decide) ?_
      obtain ⟨hK_a103, h⟩ := h
      obtain ⟨hi130, h⟩ := h
      refine x_iald C hR hK_a103 hi130 dX7_divide_83 ?_
      refine lv_topi (fun x131 ex131 => ?_)
      replace h := h x131 ex131
      refine lv_iconst (v := 1) hx hb dX7_divide_84 (by decide) ?_
      refine lv_icmp_ne (tgt := 107) hx hb dX7_divide_85 (by decide) (fun hc132 => ?_) (fun hc132 => ?_)
      · replace h := h.1 hc132
        refine lv_iconst (v := 0) hx hb dX7_divide_107 (by decide) ?_
        refine lv_istore (lv' := [(6, .int (0 : Int32)), (5, .int x125), (4, .int x115), (3, .int x109), (2, .ref a103), (0, .ref x0), (1, .int x1)]) hx hb dX7_divide_108 hl (by decide) rfl (fun ls hl => ?_)
        refine lv_iconst (v := 0) hx hb dX7_divide_110 (by decide) ?_
        refine lv_istore (lv' := [(7, .int (0 : Int32)), (6, .int (0 : Int32)), (5, .int x125), (4, .int x115), (3, .int x109), (2, .ref a103), (0, .ref x0), (1, .int x1)]) hx hb dX7_divide_111 hl (by decide) rfl (fun ls hl => ?_)
        obtain ⟨n9, h⟩ := h
        exact t_X7_divide_b113 C hml hr hlocks  n9 x0 x1 a103 x115 (0 : Int32) (0 : Int32) S127 h H locs ls hR hS (lv_sub (l' := [(0, .ref x0), (1, .int x1), (2, .ref a103), (4, .int x115), (6, .int (0 : Int32)), (7, .int (0 : Int32))]) hl [6, 7, 5, 3, 1, 0] rfl)
      · replace h := h.2 hc132
        refine lv_aload_n hx hb dX7_divide_88 rfl (lv_at hl 4 rfl) ?_
        obtain ⟨hK_x0, h⟩ := h
        refine x_g_257 C hR hK_x0 q_3_19 dX7_divide_89 ?_
        obtain ⟨a133, ea133, h⟩ := h
        refine x_some ea133 ?_
        refine lv_iload hx hb dX7_divide_92 (lv_at hl 0 rfl) ?_
        obtain ⟨hK_a133, h⟩ := h
        obtain ⟨hi134, a135, ea135, h⟩ := h
        refine x_aald13 C hR hK_a133 hi134 dX7_divide_94 ?_
        refine x_some ea135 ?_
        refine lv_bipush (v := 11) hx hb dX7_divide_95 (by decide) ?_
        refine lv_iload hx hb dX7_divide_97 (lv_at hl 1 rfl) ?_
        obtain ⟨hK_a135, h⟩ := h
        obtain ⟨hi136, h⟩ := h
        refine x_iast C hR hK_a135 hS hi136 dX7_divide_99 (fun H locs hR hS => ?_)
        obtain ⟨S137, eS137⟩ : ∃ z : sT, z = s_sB S127 a135 (Int32.toNatClampNeg (11 : Int32)) x115 := ⟨_, rfl⟩
        rw [← eS137] at hR
        replace h := h S137 eS137
        have hK_a103 : s_K S137 a103 = 11 := by rw [eS137]; exact hK_a103
        have hK_x0 : s_K S137 x0 = 9 := by rw [eS137]; exact hK_x0
        have hK_a133 : s_K S137 a133 = 13 := by rw [eS137]; exact hK_a133
        have hK_a135 : s_K S137 a135 = 11 := by rw [eS137]; exact hK_a135
        refine lv_aload_n hx hb dX7_divide_100 rfl (lv_at hl 3 rfl) ?_
        refine lv_bipush (v := 7) hx hb dX7_divide_101 (by decide) ?_
        refine lv_iload hx hb dX7_divide_103 (lv_at hl 0 rfl) ?_
        obtain ⟨hi138, h⟩ := h
        refine x_iast C hR hK_a103 hS hi138 dX7_divide_105 (fun H locs hR hS => ?_)
        obtain ⟨S139, eS139⟩ : ∃ z : sT, z = s_sB S137 a103 (Int32.toNatClampNeg (7 : Int32)) x125 := ⟨_, rfl⟩
        rw [← eS139] at hR
        replace h := h S139 eS139
        have hK_a103 : s_K S139 a103 = 11 := by rw [eS139]; exact hK_a103
        have hK_x0 : s_K S139 x0 = 9 := by rw [eS139]; exact hK_x0
        have hK_a133 : s_K S139 a133 = 13 := by rw [eS139]; exact hK_a133
        have hK_a135 : s_K S139 a135 = 11 := by rw [eS139]; exact hK_a135
        exact W.vret hx hb hr (fun t ht hW => ⟨⟨S139, rfl, h, x_rt ht hR⟩, hS.F ht⟩) hS.2.2 dX7_divide_106
    · replace h := h.2 hc129
      exact t_X7_divide_b67 C hml hr hlocks  h H locs ls hR hS (lv_sub (l' := [(0, .ref x0), (4, .int x115)]) hl [4, 1] rfl)
theorem m_X7_divide (l : Launch) (gg : sG) (x0 : Nat) (x1 : Int32) (S : sT) {Q : sT → Prop} (h : w_X7_divide x0 x1 S Q) : x_Mv l gg yX7_divide (x_ws yX7_divide cX7_divide 8 none) r_X7_divide [.ref x0, .int x1] S Q 0 0 := by
  refine x_ofW (cc := cX7_divide) (own := RX7) (by decide +kernel) rfl (Nat.le_of_ble_eq_true rfl) ?_
  intro p e s m args below meth c C hml hr hlocks hin ht H locs ls hR hS hl
  exact t_X7_divide_b0 C hml hr hlocks h H locs ls hR hS (lv_sub (l' := [(0, .ref x0), (1, .int x1)]) hl [0, 1] rfl)
def w_X7_pass_b240  (Q : sT → Prop) : Nat → Nat → Int32 → sT → Prop
  | 0 => fun _ _ _ => False
  | n + 1 => fun x0 x3 S =>
s_K S x0 = 9 ∧
    ∃ a101 : Nat, s_R S 257 x0 = some a101 ∧
    s_K S a101 = 13 ∧
    ∀ x102 : Int32, x102 = nI (s_N S a101) →
    ((x102 ≤ x3 → w_X7_fly x0 S (fun S104 =>
    Q S104)) ∧
    (¬ x102 ≤ x3 → w_X7_stand x0 x3 S (fun S105 =>
    ∀ x106 : Int32, x106 = x3 + 1 →
    w_X7_pass_b240  Q n x0 x106 S105)))
def w_X7_pass_b216  (Q : sT → Prop) : Nat → Nat → Int32 → sT → Prop
  | 0 => fun _ _ _ => False
  | n + 1 => fun x0 x3 S =>
s_K S x0 = 9 ∧
    ∃ a101 : Nat, s_R S 257 x0 = some a101 ∧
    s_K S a101 = 13 ∧
    ∀ x102 : Int32, x102 = nI (s_N S a101) →
    ((x102 ≤ x3 → ∃ n9 : Nat, w_X7_pass_b240  Q n9 x0 (0 : Int32) S) ∧
    (¬ x102 ≤ x3 → ∃ a104 : Nat, s_R S 259 x0 = some a104 ∧
    s_K S a104 = 11 ∧
    vp_in x3 (s_N S a104) ∧
    ∀ S106 : sT, S106 = s_sB S a104 (Int32.toNatClampNeg x3) (0 : Int32) →
    ∀ x107 : Int32, x107 = x3 + 1 →
    w_X7_pass_b216  Q n x0 x107 S106))
def w_X7_pass_b194  (Q : sT → Prop) : Nat → Nat → Int32 → sT → Prop
  | 0 => fun _ _ _ => False
  | n + 1 => fun x0 x3 S =>
s_K S x0 = 9 ∧
    ∃ a101 : Nat, s_R S 256 x0 = some a101 ∧
    s_K S a101 = 13 ∧
    ∀ x102 : Int32, x102 = nI (s_N S a101) →
    ((x102 ≤ x3 → ∃ n9 : Nat, w_X7_pass_b216  Q n9 x0 (0 : Int32) S) ∧
    (¬ x102 ≤ x3 → w_X7_divide x0 x3 S (fun S104 =>
    ∀ x105 : Int32, x105 = x3 + 1 →
    w_X7_pass_b194  Q n x0 x105 S104)))
def w_X7_pass_b167  (Q : sT → Prop) : Nat → Nat → Nat → Int32 → Int32 → sT → Prop
  | 0 => fun _ _ _ _ _ => False
  | n + 1 => fun x0 x3 x4 x5 S =>
((x4 ≤ x5 → ∃ n9 : Nat, w_X7_pass_b194  Q n9 x0 (0 : Int32) S) ∧
    (¬ x4 ≤ x5 → s_K S x3 = 13 ∧
    vp_in x5 (s_N S x3) ∧
    ∃ a103 : Nat, s_P S x3 (Int32.toNatClampNeg x5) = some a103 ∧
    s_K S a103 = 11 ∧
    vp_in (11 : Int32) (s_N S a103) ∧
    ∀ S105 : sT, S105 = s_sB S a103 (Int32.toNatClampNeg (11 : Int32)) (0 : Int32) →
    ∀ x106 : Int32, x106 = x5 + 1 →
    w_X7_pass_b167  Q n x0 x3 x4 x106 S105))
def w_X7_pass_b109  (Q : sT → Prop) : Nat → Nat → Int32 → Int32 → Nat → Int32 → Int32 → sT → Prop
  | 0 => fun _ _ _ _ _ _ _ => False
  | n + 1 => fun x0 x1 x2 x3 x4 x5 S =>
((x4 ≤ x5 → s_K S x0 = 9 ∧
    ∃ a102 : Nat, s_R S 257 x0 = some a102 ∧
    s_K S a102 = 13 ∧
    ∀ x103 : Int32, x103 = nI (s_N S a102) →
    ∃ n9 : Nat, w_X7_pass_b167  Q n9 x0 a102 x103 (0 : Int32) S) ∧
    (¬ x4 ≤ x5 → s_K S x3 = 13 ∧
    vp_in x5 (s_N S x3) ∧
    ∃ a105 : Nat, s_P S x3 (Int32.toNatClampNeg x5) = some a105 ∧
    s_K S a105 = 11 ∧
    vp_in (0 : Int32) (s_N S a105) ∧
    ∀ x107 : Int32, x107 = s_B S a105 (Int32.toNatClampNeg (0 : Int32)) →
    ∀ x108 : Int32, x108 = x2 * x107 →
    ¬ x1 = 0 ∧
    ∀ x110 : Int32, x110 = x108 / x1 →
    vp_in (9 : Int32) (s_N S a105) ∧
    ∀ S112 : sT, S112 = s_sB S a105 (Int32.toNatClampNeg (9 : Int32)) x110 →
    s_K S112 x0 = 9 ∧
    ∃ a113 : Nat, s_R S112 258 x0 = some a113 ∧
    s_K S112 a113 = 11 ∧
    vp_in (4 : Int32) (s_N S112 a113) ∧
    ∀ x115 : Int32, x115 = s_B S112 a113 (Int32.toNatClampNeg (4 : Int32)) →
    vp_in (9 : Int32) (s_N S112 a105) ∧
    ∀ x117 : Int32, x117 = s_B S112 a105 (Int32.toNatClampNeg (9 : Int32)) →
    ∀ x118 : Int32, x118 = x115 - x117 →
    vp_in (4 : Int32) (s_N S112 a113) ∧
    ∀ S120 : sT, S120 = s_sB S112 a113 (Int32.toNatClampNeg (4 : Int32)) x118 →
    ∀ x121 : Int32, x121 = x5 + 1 →
    w_X7_pass_b109  Q n x0 x1 x2 x3 x4 x121 S120))
def w_X7_pass_b23  (Q : sT → Prop) : Nat → Nat → Int32 → Nat → Int32 → Int32 → sT → Prop
  | 0 => fun _ _ _ _ _ _ => False
  | n + 1 => fun x0 x1 x2 x3 x4 S =>
((x3 ≤ x4 → s_K S x0 = 9 ∧
    ∃ a102 : Nat, s_R S 258 x0 = some a102 ∧
    s_K S a102 = 11 ∧
    vp_in (1 : Int32) (s_N S a102) ∧
    ∀ x104 : Int32, x104 = s_B S a102 (Int32.toNatClampNeg (1 : Int32)) →
    ∃ a105 : Nat, s_R S 258 x0 = some a105 ∧
    s_K S a105 = 11 ∧
    vp_in (4 : Int32) (s_N S a105) ∧
    ∀ x107 : Int32, x107 = s_B S a105 (Int32.toNatClampNeg (4 : Int32)) →
    ∀ x108 : Int32, x108 = x104 + x107 →
    ∃ a109 : Nat, s_R S 258 x0 = some a109 ∧
    s_K S a109 = 11 ∧
    vp_in (5 : Int32) (s_N S a109) ∧
    ∀ x111 : Int32, x111 = s_B S a109 (Int32.toNatClampNeg (5 : Int32)) →
    ∃ a112 : Nat, s_R S 258 x0 = some a112 ∧
    s_K S a112 = 11 ∧
    vp_in (1 : Int32) (s_N S a112) ∧
    ∀ x114 : Int32, x114 = s_B S a112 (Int32.toNatClampNeg (1 : Int32)) →
    ∃ a115 : Nat, s_R S 258 x0 = some a115 ∧
    s_K S a115 = 11 ∧
    vp_in (3 : Int32) (s_N S a115) ∧
    ∀ x117 : Int32, x117 = s_B S a115 (Int32.toNatClampNeg (3 : Int32)) →
    ∃ a118 : Nat, s_R S 257 x0 = some a118 ∧
    s_K S a118 = 13 ∧
    ∀ x119 : Int32, x119 = nI (s_N S a118) →
    ∀ x120 : Int32, x120 = x117 * x119 →
    ∀ x121 : Int32, x121 = x114 + x120 →
    ∀ x122 : Int32, x122 = x111 + x121 →
    vp_in (5 : Int32) (s_N S a109) ∧
    ∀ S124 : sT, S124 = s_sB S a109 (Int32.toNatClampNeg (5 : Int32)) x122 →
    ∃ a125 : Nat, s_R S124 258 x0 = some a125 ∧
    s_K S124 a125 = 11 ∧
    vp_in (4 : Int32) (s_N S124 a125) ∧
    ∀ S127 : sT, S127 = s_sB S124 a125 (Int32.toNatClampNeg (4 : Int32)) x108 →
    ∃ a128 : Nat, s_R S127 256 x0 = some a128 ∧
    s_K S127 a128 = 13 ∧
    ∀ x129 : Int32, x129 = nI (s_N S127 a128) →
    ∃ n9 : Nat, w_X7_pass_b109  Q n9 x0 x1 x108 a128 x129 (0 : Int32) S127) ∧
    (¬ x3 ≤ x4 → s_K S x2 = 13 ∧
    vp_in x4 (s_N S x2) ∧
    ∃ a131 : Nat, s_P S x2 (Int32.toNatClampNeg x4) = some a131 ∧
    s_K S a131 = 11 ∧
    vp_in (0 : Int32) (s_N S a131) ∧
    ∀ x133 : Int32, x133 = s_B S a131 (Int32.toNatClampNeg (0 : Int32)) →
    ∀ x134 : Int32, x134 = x1 + x133 →
    ∀ x135 : Int32, x135 = x4 + 1 →
    w_X7_pass_b23  Q n x0 x134 x2 x3 x135 S))
def w_X7_pass_b0 (x0 : Nat) (S : sT)  (Q : sT → Prop) : Prop :=
s_K S x0 = 9 ∧
    ∃ a101 : Nat, s_R S 258 x0 = some a101 ∧
    s_K S a101 = 11 ∧
    vp_in (0 : Int32) (s_N S a101) ∧
    ∀ x103 : Int32, x103 = s_B S a101 (Int32.toNatClampNeg (0 : Int32)) →
    ∀ x104 : Int32, x104 = x103 + (1 : Int32) →
    vp_in (0 : Int32) (s_N S a101) ∧
    ∀ S106 : sT, S106 = s_sB S a101 (Int32.toNatClampNeg (0 : Int32)) x104 →
    ∃ a107 : Nat, s_R S106 256 x0 = some a107 ∧
    s_K S106 a107 = 13 ∧
    ∀ x108 : Int32, x108 = nI (s_N S106 a107) →
    ∃ n9 : Nat, w_X7_pass_b23  Q n9 x0 (0 : Int32) a107 x108 (0 : Int32) S106
def w_X7_pass (x0 : Nat) (S : sT) (Q : sT → Prop) : Prop := w_X7_pass_b0 x0 S Q
def r_X7_pass : Room := x_rm 3 93 0 0
theorem b_X7_pass : x_BV yX7_pass cX7_pass 7 none 0 := ⟨q_26_8, q_26_6, q_26_7, q_3_7, by decide +kernel⟩
set_option maxHeartbeats 4000000 in
theorem t_X7_pass_b240 {Q : sT → Prop} (C : x_C p s m args c cX7_pass RX7 gg) (hml : c.maxLocals = 7) (hr : meth.sig.returnType = none) (hlocks : meth.locks = false)   : ∀ (n : Nat) (x0 : Nat) (x3 : Int32) (S : sT), w_X7_pass_b240  Q n x0 x3 S → x_X p l e r_X7_pass s m args below meth c gg 7 0 0 (MQ below (va_Qv Q (fun S1 t => s_Rep gg S1 t.heap) (s_A gg)) args s 0 0 (s_A gg)) 240 [(0, .ref x0), (3, .int x3)] [] S := by
  obtain ⟨hx, hb, -⟩ := id C
  intro n
  induction n with
  | zero => intro x0 x3 S h; exact absurd h id
  | succ n ih =>
    intro x0 x3 S h H locs ls hR hS hl
    unfold w_X7_pass_b240 at h
    refine lv_iload_n hx hb dX7_pass_240 rfl (lv_at hl 1 rfl) ?_
    refine lv_aload_n hx hb dX7_pass_241 rfl (lv_at hl 0 rfl) ?_
    obtain ⟨hK_x0, h⟩ := h
    refine x_g_257 C hR hK_x0 q_3_19 dX7_pass_242 ?_
    obtain ⟨a101, ea101, h⟩ := h
    refine x_some ea101 ?_
    obtain ⟨hK_a101, h⟩ := h
    refine x_alen13 C hR hK_a101 dX7_pass_245 ?_
    refine lv_topi (fun x102 ex102 => ?_)
    replace h := h x102 ex102
    refine lv_icmp_ge (tgt := 260) hx hb dX7_pass_246 (by decide) (fun hc103 => ?_) (fun hc103 => ?_)
    · replace h := h.1 hc103
      refine lv_aload_n hx hb dX7_pass_260 rfl (lv_at hl 0 rfl) ?_
      refine x_kv (x_runV (As := []) (rest := []) C hml hR hS (m_X7_fly l gg x0 S h) b_X7_fly q_27_19 (by rw [hK_x0]; decide) (s_E_8 hK_x0) rfl rfl rfl rfl ⟨Nat.le_of_ble_eq_true rfl, Nat.le_of_ble_eq_true rfl⟩ rfl hl.1 (Nat.le_of_ble_eq_true rfl) dX7_pass_261 ⟨Nat.le_refl _, Nat.le_refl _⟩) hS (fun S104 H locs hn hR hS => ?_)
      replace h := hn
      clear hn
      exact W.vret hx hb hr (fun t ht hW => ⟨⟨S104, rfl, h, x_rt ht hR⟩, hS.F ht⟩) hS.2.2 dX7_pass_264
    · replace h := h.2 hc103
      refine lv_aload_n hx hb dX7_pass_249 rfl (lv_at hl 0 rfl) ?_
      refine lv_iload_n hx hb dX7_pass_250 rfl (lv_at hl 1 rfl) ?_
      refine x_kv (x_runV (As := [.int x3]) (rest := []) C hml hR hS (m_X7_stand l gg x0 x3 S h) b_X7_stand q_27_1 (by rw [hK_x0]; decide) (s_E_8 hK_x0) rfl rfl rfl rfl ⟨Nat.le_of_ble_eq_true rfl, Nat.le_of_ble_eq_true rfl⟩ rfl hl.1 (Nat.le_of_ble_eq_true rfl) dX7_pass_251 ⟨Nat.le_refl _, Nat.le_refl _⟩) hS (fun S105 H locs hn hR hS => ?_)
      replace h := hn
      clear hn
      obtain ⟨x106, ex106⟩ : ∃ z : Int32, z = x3 + 1 := ⟨_, rfl⟩
      replace h := h x106 ex106
      refine lv_iinc (v := x106) (lv' := [(3, .int x106), (0, .ref x0)]) hx hb dX7_pass_254 hl (k := 1) rfl (by rw [ex106]; rfl) (by decide) rfl (fun ls hl => ?_)
      refine lv_goto (tgt := 240) hx hb dX7_pass_257 (by decide) ?_
      exact ih x0 x106 S105 h H locs ls hR hS (lv_sub (l' := [(0, .ref x0), (3, .int x106)]) hl [1, 0] rfl)
set_option maxHeartbeats 4000000 in
theorem t_X7_pass_b216 {Q : sT → Prop} (C : x_C p s m args c cX7_pass RX7 gg) (hml : c.maxLocals = 7) (hr : meth.sig.returnType = none) (hlocks : meth.locks = false)   : ∀ (n : Nat) (x0 : Nat) (x3 : Int32) (S : sT), w_X7_pass_b216  Q n x0 x3 S → x_X p l e r_X7_pass s m args below meth c gg 7 0 0 (MQ below (va_Qv Q (fun S1 t => s_Rep gg S1 t.heap) (s_A gg)) args s 0 0 (s_A gg)) 216 [(0, .ref x0), (3, .int x3)] [] S := by
  obtain ⟨hx, hb, -⟩ := id C
  intro n
  induction n with
  | zero => intro x0 x3 S h; exact absurd h id
  | succ n ih =>
    intro x0 x3 S h H locs ls hR hS hl
    unfold w_X7_pass_b216 at h
    refine lv_iload_n hx hb dX7_pass_216 rfl (lv_at hl 1 rfl) ?_
    refine lv_aload_n hx hb dX7_pass_217 rfl (lv_at hl 0 rfl) ?_
    obtain ⟨hK_x0, h⟩ := h
    refine x_g_257 C hR hK_x0 q_3_19 dX7_pass_218 ?_
    obtain ⟨a101, ea101, h⟩ := h
    refine x_some ea101 ?_
    obtain ⟨hK_a101, h⟩ := h
    refine x_alen13 C hR hK_a101 dX7_pass_221 ?_
    refine lv_topi (fun x102 ex102 => ?_)
    replace h := h x102 ex102
    refine lv_icmp_ge (tgt := 238) hx hb dX7_pass_222 (by decide) (fun hc103 => ?_) (fun hc103 => ?_)
    · replace h := h.1 hc103
      refine lv_iconst (v := 0) hx hb dX7_pass_238 (by decide) ?_
      refine lv_istore_n (lv' := [(3, .int (0 : Int32)), (0, .ref x0)]) hx hb dX7_pass_239 rfl hl (by decide) rfl (fun ls hl => ?_)
      obtain ⟨n9, h⟩ := h
      exact t_X7_pass_b240 C hml hr hlocks  n9 x0 (0 : Int32) S h H locs ls hR hS (lv_sub (l' := [(0, .ref x0), (3, .int (0 : Int32))]) hl [1, 0] rfl)
    · replace h := h.2 hc103
      refine lv_aload_n hx hb dX7_pass_225 rfl (lv_at hl 0 rfl) ?_
      refine x_g_259 C hR hK_x0 q_3_15 dX7_pass_226 ?_
      obtain ⟨a104, ea104, h⟩ := h
      refine x_some ea104 ?_
      refine lv_iload_n hx hb dX7_pass_229 rfl (lv_at hl 1 rfl) ?_
      refine lv_iconst (v := 0) hx hb dX7_pass_230 (by decide) ?_
      obtain ⟨hK_a104, h⟩ := h
      obtain ⟨hi105, h⟩ := h
      refine x_iast C hR hK_a104 hS hi105 dX7_pass_231 (fun H locs hR hS => ?_)
      obtain ⟨S106, eS106⟩ : ∃ z : sT, z = s_sB S a104 (Int32.toNatClampNeg x3) (0 : Int32) := ⟨_, rfl⟩
      rw [← eS106] at hR
      replace h := h S106 eS106
      have hK_x0 : s_K S106 x0 = 9 := by rw [eS106]; exact hK_x0
      have hK_a101 : s_K S106 a101 = 13 := by rw [eS106]; exact hK_a101
      have hK_a104 : s_K S106 a104 = 11 := by rw [eS106]; exact hK_a104
      obtain ⟨x107, ex107⟩ : ∃ z : Int32, z = x3 + 1 := ⟨_, rfl⟩
      replace h := h x107 ex107
      refine lv_iinc (v := x107) (lv' := [(3, .int x107), (0, .ref x0)]) hx hb dX7_pass_232 hl (k := 1) rfl (by rw [ex107]; rfl) (by decide) rfl (fun ls hl => ?_)
      refine lv_goto (tgt := 216) hx hb dX7_pass_235 (by decide) ?_
      exact ih x0 x107 S106 h H locs ls hR hS (lv_sub (l' := [(0, .ref x0), (3, .int x107)]) hl [1, 0] rfl)
set_option maxHeartbeats 4000000 in
theorem t_X7_pass_b194 {Q : sT → Prop} (C : x_C p s m args c cX7_pass RX7 gg) (hml : c.maxLocals = 7) (hr : meth.sig.returnType = none) (hlocks : meth.locks = false)   : ∀ (n : Nat) (x0 : Nat) (x3 : Int32) (S : sT), w_X7_pass_b194  Q n x0 x3 S → x_X p l e r_X7_pass s m args below meth c gg 7 0 0 (MQ below (va_Qv Q (fun S1 t => s_Rep gg S1 t.heap) (s_A gg)) args s 0 0 (s_A gg)) 194 [(0, .ref x0), (3, .int x3)] [] S := by
  obtain ⟨hx, hb, -⟩ := id C
  intro n
  induction n with
  | zero => intro x0 x3 S h; exact absurd h id
  | succ n ih =>
    intro x0 x3 S h H locs ls hR hS hl
    unfold w_X7_pass_b194 at h
    refine lv_iload_n hx hb dX7_pass_194 rfl (lv_at hl 1 rfl) ?_
    refine lv_aload_n hx hb dX7_pass_195 rfl (lv_at hl 0 rfl) ?_
    obtain ⟨hK_x0, h⟩ := h
    refine x_g_256 C hR hK_x0 q_3_18 dX7_pass_196 ?_
    obtain ⟨a101, ea101, h⟩ := h
    refine x_some ea101 ?_
    obtain ⟨hK_a101, h⟩ := h
    refine x_alen13 C hR hK_a101 dX7_pass_199 ?_
    refine lv_topi (fun x102 ex102 => ?_)
    replace h := h x102 ex102
    refine lv_icmp_ge (tgt := 214) hx hb dX7_pass_200 (by decide) (fun hc103 => ?_) (fun hc103 => ?_)
    · replace h := h.1 hc103
      refine lv_iconst (v := 0) hx hb dX7_pass_214 (by decide) ?_
      refine lv_istore_n (lv' := [(3, .int (0 : Int32)), (0, .ref x0)]) hx hb dX7_pass_215 rfl hl (by decide) rfl (fun ls hl => ?_)
      obtain ⟨n9, h⟩ := h
      exact t_X7_pass_b216 C hml hr hlocks  n9 x0 (0 : Int32) S h H locs ls hR hS (lv_sub (l' := [(0, .ref x0), (3, .int (0 : Int32))]) hl [1, 0] rfl)
    · replace h := h.2 hc103
      refine lv_aload_n hx hb dX7_pass_203 rfl (lv_at hl 0 rfl) ?_
      refine lv_iload_n hx hb dX7_pass_204 rfl (lv_at hl 1 rfl) ?_
      refine x_kv (x_runV (As := [.int x3]) (rest := []) C hml hR hS (m_X7_divide l gg x0 x3 S h) b_X7_divide q_26_9 (by rw [hK_x0]; decide) (s_E_8 hK_x0) rfl rfl rfl rfl ⟨Nat.le_of_ble_eq_true rfl, Nat.le_of_ble_eq_true rfl⟩ rfl hl.1 (Nat.le_of_ble_eq_true rfl) dX7_pass_205 ⟨Nat.le_refl _, Nat.le_refl _⟩) hS (fun S104 H locs hn hR hS => ?_)
      replace h := hn
      clear hn
      obtain ⟨x105, ex105⟩ : ∃ z : Int32, z = x3 + 1 := ⟨_, rfl⟩
      replace h := h x105 ex105
      refine lv_iinc (v := x105) (lv' := [(3, .int x105), (0, .ref x0)]) hx hb dX7_pass_208 hl (k := 1) rfl (by rw [ex105]; rfl) (by decide) rfl (fun ls hl => ?_)
      refine lv_goto (tgt := 194) hx hb dX7_pass_211 (by decide) ?_
      exact ih x0 x105 S104 h H locs ls hR hS (lv_sub (l' := [(0, .ref x0), (3, .int x105)]) hl [1, 0] rfl)
set_option maxHeartbeats 4000000 in
theorem t_X7_pass_b167 {Q : sT → Prop} (C : x_C p s m args c cX7_pass RX7 gg) (hml : c.maxLocals = 7) (hr : meth.sig.returnType = none) (hlocks : meth.locks = false)   : ∀ (n : Nat) (x0 : Nat) (x3 : Nat) (x4 : Int32) (x5 : Int32) (S : sT), w_X7_pass_b167  Q n x0 x3 x4 x5 S → x_X p l e r_X7_pass s m args below meth c gg 7 0 0 (MQ below (va_Qv Q (fun S1 t => s_Rep gg S1 t.heap) (s_A gg)) args s 0 0 (s_A gg)) 167 [(0, .ref x0), (3, .ref x3), (4, .int x4), (5, .int x5)] [] S := by
  obtain ⟨hx, hb, -⟩ := id C
  intro n
  induction n with
  | zero => intro x0 x3 x4 x5 S h; exact absurd h id
  | succ n ih =>
    intro x0 x3 x4 x5 S h H locs ls hR hS hl
    unfold w_X7_pass_b167 at h
    refine lv_iload hx hb dX7_pass_167 (lv_at hl 3 rfl) ?_
    refine lv_iload hx hb dX7_pass_169 (lv_at hl 2 rfl) ?_
    refine lv_icmp_ge (tgt := 192) hx hb dX7_pass_171 (by decide) (fun hc101 => ?_) (fun hc101 => ?_)
    · replace h := h.1 hc101
      refine lv_iconst (v := 0) hx hb dX7_pass_192 (by decide) ?_
      refine lv_istore_n (lv' := [(3, .int (0 : Int32)), (0, .ref x0), (4, .int x4), (5, .int x5)]) hx hb dX7_pass_193 rfl hl (by decide) rfl (fun ls hl => ?_)
      obtain ⟨n9, h⟩ := h
      exact t_X7_pass_b194 C hml hr hlocks  n9 x0 (0 : Int32) S h H locs ls hR hS (lv_sub (l' := [(0, .ref x0), (3, .int (0 : Int32))]) hl [1, 0] rfl)
    · replace h := h.2 hc101
      refine lv_aload_n hx hb dX7_pass_174 rfl (lv_at hl 1 rfl) ?_
      refine lv_iload hx hb dX7_pass_175 (lv_at hl 3 rfl) ?_
      obtain ⟨hK_x3, h⟩ := h
      obtain ⟨hi102, a103, ea103, h⟩ := h
      refine x_aald13 C hR hK_x3 hi102 dX7_pass_177 ?_
      refine x_some ea103 ?_
      refine lv_astore (lv' := [(6, .ref a103), (0, .ref x0), (3, .ref x3), (4, .int x4), (5, .int x5)]) hx hb dX7_pass_178 hl (by decide) rfl (fun ls hl => ?_)
      refine lv_aload hx hb dX7_pass_180 (lv_at hl 0 rfl) ?_
      refine lv_bipush (v := 11) hx hb dX7_pass_182 (by decide) ?_
      refine lv_iconst (v := 0) hx hb dX7_pass_184 (by decide) ?_
      obtain ⟨hK_a103, h⟩ := h
      obtain ⟨hi104, h⟩ := h
      refine x_iast C hR hK_a103 hS hi104 dX7_pass_185 (fun H locs hR hS => ?_)
      obtain ⟨S105, eS105⟩ : ∃ z : sT, z = s_sB S a103 (Int32.toNatClampNeg (11 : Int32)) (0 : Int32) := ⟨_, rfl⟩
      rw [← eS105] at hR
      replace h := h S105 eS105
      have hK_x3 : s_K S105 x3 = 13 := by rw [eS105]; exact hK_x3
      have hK_a103 : s_K S105 a103 = 11 := by rw [eS105]; exact hK_a103
      obtain ⟨x106, ex106⟩ : ∃ z : Int32, z = x5 + 1 := ⟨_, rfl⟩
      replace h := h x106 ex106
      refine lv_iinc (v := x106) (lv' := [(5, .int x106), (6, .ref a103), (0, .ref x0), (3, .ref x3), (4, .int x4)]) hx hb dX7_pass_186 hl (k := 4) rfl (by rw [ex106]; rfl) (by decide) rfl (fun ls hl => ?_)
      refine lv_goto (tgt := 167) hx hb dX7_pass_189 (by decide) ?_
      exact ih x0 x3 x4 x106 S105 h H locs ls hR hS (lv_sub (l' := [(0, .ref x0), (3, .ref x3), (4, .int x4), (5, .int x106)]) hl [2, 3, 4, 0] rfl)
set_option maxHeartbeats 4000000 in
theorem t_X7_pass_b109 {Q : sT → Prop} (C : x_C p s m args c cX7_pass RX7 gg) (hml : c.maxLocals = 7) (hr : meth.sig.returnType = none) (hlocks : meth.locks = false)   : ∀ (n : Nat) (x0 : Nat) (x1 : Int32) (x2 : Int32) (x3 : Nat) (x4 : Int32) (x5 : Int32) (S : sT), w_X7_pass_b109  Q n x0 x1 x2 x3 x4 x5 S → x_X p l e r_X7_pass s m args below meth c gg 7 0 0 (MQ below (va_Qv Q (fun S1 t => s_Rep gg S1 t.heap) (s_A gg)) args s 0 0 (s_A gg)) 109 [(0, .ref x0), (1, .int x1), (2, .int x2), (3, .ref x3), (4, .int x4), (5, .int x5)] [] S := by
  obtain ⟨hx, hb, -⟩ := id C
  intro n
  induction n with
  | zero => intro x0 x1 x2 x3 x4 x5 S h; exact absurd h id
  | succ n ih =>
    intro x0 x1 x2 x3 x4 x5 S h H locs ls hR hS hl
    unfold w_X7_pass_b109 at h
    refine lv_iload hx hb dX7_pass_109 (lv_at hl 5 rfl) ?_
    refine lv_iload hx hb dX7_pass_111 (lv_at hl 4 rfl) ?_
    refine lv_icmp_ge (tgt := 155) hx hb dX7_pass_113 (by decide) (fun hc101 => ?_) (fun hc101 => ?_)
    · replace h := h.1 hc101
      refine lv_aload_n hx hb dX7_pass_155 rfl (lv_at hl 0 rfl) ?_
      obtain ⟨hK_x0, h⟩ := h
      refine x_g_257 C hR hK_x0 q_3_19 dX7_pass_156 ?_
      obtain ⟨a102, ea102, h⟩ := h
      refine x_some ea102 ?_
      refine lv_astore_n (lv' := [(3, .ref a102), (0, .ref x0), (1, .int x1), (2, .int x2), (4, .int x4), (5, .int x5)]) hx hb dX7_pass_159 rfl hl (by decide) rfl (fun ls hl => ?_)
      refine lv_aload_n hx hb dX7_pass_160 rfl (lv_at hl 0 rfl) ?_
      obtain ⟨hK_a102, h⟩ := h
      refine x_alen13 C hR hK_a102 dX7_pass_161 ?_
      refine lv_topi (fun x103 ex103 => ?_)
      replace h := h x103 ex103
      refine lv_istore (lv' := [(4, .int x103), (3, .ref a102), (0, .ref x0), (1, .int x1), (2, .int x2), (5, .int x5)]) hx hb dX7_pass_162 hl (by decide) rfl (fun ls hl => ?_)
      refine lv_iconst (v := 0) hx hb dX7_pass_164 (by decide) ?_
      refine lv_istore (lv' := [(5, .int (0 : Int32)), (4, .int x103), (3, .ref a102), (0, .ref x0), (1, .int x1), (2, .int x2)]) hx hb dX7_pass_165 hl (by decide) rfl (fun ls hl => ?_)
      obtain ⟨n9, h⟩ := h
      exact t_X7_pass_b167 C hml hr hlocks  n9 x0 a102 x103 (0 : Int32) S h H locs ls hR hS (lv_sub (l' := [(0, .ref x0), (3, .ref a102), (4, .int x103), (5, .int (0 : Int32))]) hl [3, 2, 1, 0] rfl)
    · replace h := h.2 hc101
      refine lv_aload_n hx hb dX7_pass_116 rfl (lv_at hl 3 rfl) ?_
      refine lv_iload hx hb dX7_pass_117 (lv_at hl 5 rfl) ?_
      obtain ⟨hK_x3, h⟩ := h
      obtain ⟨hi104, a105, ea105, h⟩ := h
      refine x_aald13 C hR hK_x3 hi104 dX7_pass_119 ?_
      refine x_some ea105 ?_
      refine lv_astore (lv' := [(6, .ref a105), (0, .ref x0), (1, .int x1), (2, .int x2), (3, .ref x3), (4, .int x4), (5, .int x5)]) hx hb dX7_pass_120 hl (by decide) rfl (fun ls hl => ?_)
      refine lv_aload hx hb dX7_pass_122 (lv_at hl 0 rfl) ?_
      refine lv_bipush (v := 9) hx hb dX7_pass_124 (by decide) ?_
      refine lv_iload_n hx hb dX7_pass_126 rfl (lv_at hl 3 rfl) ?_
      refine lv_aload hx hb dX7_pass_127 (lv_at hl 0 rfl) ?_
      refine lv_iconst (v := 0) hx hb dX7_pass_129 (by decide) ?_
      obtain ⟨hK_a105, h⟩ := h
      obtain ⟨hi106, h⟩ := h
      refine x_iald C hR hK_a105 hi106 dX7_pass_130 ?_
      refine lv_topi (fun x107 ex107 => ?_)
      replace h := h x107 ex107
      refine lv_imul hx hb dX7_pass_131 ?_
      refine lv_topi (fun x108 ex108 => ?_)
      replace h := h x108 ex108
      refine lv_iload_n hx hb dX7_pass_132 rfl (lv_at hl 2 rfl) ?_
      obtain ⟨hd109, h⟩ := h
      refine lv_idiv hx hb dX7_pass_133 hd109 ?_
      refine lv_topi (fun x110 ex110 => ?_)
      replace h := h x110 ex110
      obtain ⟨hi111, h⟩ := h
      refine x_iast C hR hK_a105 hS hi111 dX7_pass_134 (fun H locs hR hS => ?_)
      obtain ⟨S112, eS112⟩ : ∃ z : sT, z = s_sB S a105 (Int32.toNatClampNeg (9 : Int32)) x110 := ⟨_, rfl⟩
      rw [← eS112] at hR
      replace h := h S112 eS112
      have hK_x3 : s_K S112 x3 = 13 := by rw [eS112]; exact hK_x3
      have hK_a105 : s_K S112 a105 = 11 := by rw [eS112]; exact hK_a105
      refine lv_aload_n hx hb dX7_pass_135 rfl (lv_at hl 1 rfl) ?_
      obtain ⟨hK_x0, h⟩ := h
      refine x_g_258 C hR hK_x0 q_3_14 dX7_pass_136 ?_
      obtain ⟨a113, ea113, h⟩ := h
      refine x_some ea113 ?_
      refine lv_iconst (v := 4) hx hb dX7_pass_139 (by decide) ?_
      refine lv_dup2_11 hx hb dX7_pass_140 rfl rfl ?_
      obtain ⟨hK_a113, h⟩ := h
      obtain ⟨hi114, h⟩ := h
      refine x_iald C hR hK_a113 hi114 dX7_pass_141 ?_
      refine lv_topi (fun x115 ex115 => ?_)
      replace h := h x115 ex115
      refine lv_aload hx hb dX7_pass_142 (lv_at hl 0 rfl) ?_
      refine lv_bipush (v := 9) hx hb dX7_pass_144 (by decide) ?_
      obtain ⟨hi116, h⟩ := h
      refine x_iald C hR hK_a105 hi116 dX7_pass_146 ?_
      refine lv_topi (fun x117 ex117 => ?_)
      replace h := h x117 ex117
      refine lv_isub hx hb dX7_pass_147 ?_
      refine lv_topi (fun x118 ex118 => ?_)
      replace h := h x118 ex118
      obtain ⟨hi119, h⟩ := h
      refine x_iast C hR hK_a113 hS hi119 dX7_pass_148 (fun H locs hR hS => ?_)
      obtain ⟨S120, eS120⟩ : ∃ z : sT, z = s_sB S112 a113 (Int32.toNatClampNeg (4 : Int32)) x118 := ⟨_, rfl⟩
      rw [← eS120] at hR
      replace h := h S120 eS120
      have hK_x3 : s_K S120 x3 = 13 := by rw [eS120]; exact hK_x3
      have hK_a105 : s_K S120 a105 = 11 := by rw [eS120]; exact hK_a105
      have hK_x0 : s_K S120 x0 = 9 := by rw [eS120]; exact hK_x0
      have hK_a113 : s_K S120 a113 = 11 := by rw [eS120]; exact hK_a113
      obtain ⟨x121, ex121⟩ : ∃ z : Int32, z = x5 + 1 := ⟨_, rfl⟩
      replace h := h x121 ex121
      refine lv_iinc (v := x121) (lv' := [(5, .int x121), (6, .ref a105), (0, .ref x0), (1, .int x1), (2, .int x2), (3, .ref x3), (4, .int x4)]) hx hb dX7_pass_149 hl (k := 6) rfl (by rw [ex121]; rfl) (by decide) rfl (fun ls hl => ?_)
      refine lv_goto (tgt := 109) hx hb dX7_pass_152 (by decide) ?_
      exact ih x0 x1 x2 x3 x4 x121 S120 h H locs ls hR hS (lv_sub (l' := [(0, .ref x0), (1, .int x1), (2, .int x2), (3, .ref x3), (4, .int x4), (5, .int x121)]) hl [2, 3, 4, 5, 6, 0] rfl)
set_option maxHeartbeats 4000000 in
theorem t_X7_pass_b23 {Q : sT → Prop} (C : x_C p s m args c cX7_pass RX7 gg) (hml : c.maxLocals = 7) (hr : meth.sig.returnType = none) (hlocks : meth.locks = false)   : ∀ (n : Nat) (x0 : Nat) (x1 : Int32) (x2 : Nat) (x3 : Int32) (x4 : Int32) (S : sT), w_X7_pass_b23  Q n x0 x1 x2 x3 x4 S → x_X p l e r_X7_pass s m args below meth c gg 7 0 0 (MQ below (va_Qv Q (fun S1 t => s_Rep gg S1 t.heap) (s_A gg)) args s 0 0 (s_A gg)) 23 [(0, .ref x0), (1, .int x1), (2, .ref x2), (3, .int x3), (4, .int x4)] [] S := by
  obtain ⟨hx, hb, -⟩ := id C
  intro n
  induction n with
  | zero => intro x0 x1 x2 x3 x4 S h; exact absurd h id
  | succ n ih =>
    intro x0 x1 x2 x3 x4 S h H locs ls hR hS hl
    unfold w_X7_pass_b23 at h
    refine lv_iload hx hb dX7_pass_23 (lv_at hl 4 rfl) ?_
    refine lv_iload_n hx hb dX7_pass_25 rfl (lv_at hl 3 rfl) ?_
    refine lv_icmp_ge (tgt := 48) hx hb dX7_pass_26 (by decide) (fun hc101 => ?_) (fun hc101 => ?_)
    · replace h := h.1 hc101
      refine lv_aload_n hx hb dX7_pass_48 rfl (lv_at hl 0 rfl) ?_
      obtain ⟨hK_x0, h⟩ := h
      refine x_g_258 C hR hK_x0 q_3_14 dX7_pass_49 ?_
      obtain ⟨a102, ea102, h⟩ := h
      refine x_some ea102 ?_
      refine lv_iconst (v := 1) hx hb dX7_pass_52 (by decide) ?_
      obtain ⟨hK_a102, h⟩ := h
      obtain ⟨hi103, h⟩ := h
      refine x_iald C hR hK_a102 hi103 dX7_pass_53 ?_
      refine lv_topi (fun x104 ex104 => ?_)
      replace h := h x104 ex104
      refine lv_aload_n hx hb dX7_pass_54 rfl (lv_at hl 0 rfl) ?_
      refine x_g_258 C hR hK_x0 q_3_14 dX7_pass_55 ?_
      obtain ⟨a105, ea105, h⟩ := h
      refine x_some ea105 ?_
      refine lv_iconst (v := 4) hx hb dX7_pass_58 (by decide) ?_
      obtain ⟨hK_a105, h⟩ := h
      obtain ⟨hi106, h⟩ := h
      refine x_iald C hR hK_a105 hi106 dX7_pass_59 ?_
      refine lv_topi (fun x107 ex107 => ?_)
      replace h := h x107 ex107
      refine lv_iadd hx hb dX7_pass_60 ?_
      refine lv_topi (fun x108 ex108 => ?_)
      replace h := h x108 ex108
      refine lv_istore_n (lv' := [(2, .int x108), (0, .ref x0), (1, .int x1), (3, .int x3), (4, .int x4)]) hx hb dX7_pass_61 rfl hl (by decide) rfl (fun ls hl => ?_)
      refine lv_aload_n hx hb dX7_pass_62 rfl (lv_at hl 1 rfl) ?_
      refine x_g_258 C hR hK_x0 q_3_14 dX7_pass_63 ?_
      obtain ⟨a109, ea109, h⟩ := h
      refine x_some ea109 ?_
      refine lv_iconst (v := 5) hx hb dX7_pass_66 (by decide) ?_
      refine lv_dup2_11 hx hb dX7_pass_67 rfl rfl ?_
      obtain ⟨hK_a109, h⟩ := h
      obtain ⟨hi110, h⟩ := h
      refine x_iald C hR hK_a109 hi110 dX7_pass_68 ?_
      refine lv_topi (fun x111 ex111 => ?_)
      replace h := h x111 ex111
      refine lv_aload_n hx hb dX7_pass_69 rfl (lv_at hl 1 rfl) ?_
      refine x_g_258 C hR hK_x0 q_3_14 dX7_pass_70 ?_
      obtain ⟨a112, ea112, h⟩ := h
      refine x_some ea112 ?_
      refine lv_iconst (v := 1) hx hb dX7_pass_73 (by decide) ?_
      obtain ⟨hK_a112, h⟩ := h
      obtain ⟨hi113, h⟩ := h
      refine x_iald C hR hK_a112 hi113 dX7_pass_74 ?_
      refine lv_topi (fun x114 ex114 => ?_)
      replace h := h x114 ex114
      refine lv_aload_n hx hb dX7_pass_75 rfl (lv_at hl 1 rfl) ?_
      refine x_g_258 C hR hK_x0 q_3_14 dX7_pass_76 ?_
      obtain ⟨a115, ea115, h⟩ := h
      refine x_some ea115 ?_
      refine lv_iconst (v := 3) hx hb dX7_pass_79 (by decide) ?_
      obtain ⟨hK_a115, h⟩ := h
      obtain ⟨hi116, h⟩ := h
      refine x_iald C hR hK_a115 hi116 dX7_pass_80 ?_
      refine lv_topi (fun x117 ex117 => ?_)
      replace h := h x117 ex117
      refine lv_aload_n hx hb dX7_pass_81 rfl (lv_at hl 1 rfl) ?_
      refine x_g_257 C hR hK_x0 q_3_19 dX7_pass_82 ?_
      obtain ⟨a118, ea118, h⟩ := h
      refine x_some ea118 ?_
      obtain ⟨hK_a118, h⟩ := h
      refine x_alen13 C hR hK_a118 dX7_pass_85 ?_
      refine lv_topi (fun x119 ex119 => ?_)
      replace h := h x119 ex119
      refine lv_imul hx hb dX7_pass_86 ?_
      refine lv_topi (fun x120 ex120 => ?_)
      replace h := h x120 ex120
      refine lv_iadd hx hb dX7_pass_87 ?_
      refine lv_topi (fun x121 ex121 => ?_)
      replace h := h x121 ex121
      refine lv_iadd hx hb dX7_pass_88 ?_
      refine lv_topi (fun x122 ex122 => ?_)
      replace h := h x122 ex122
      obtain ⟨hi123, h⟩ := h
      refine x_iast C hR hK_a109 hS hi123 dX7_pass_89 (fun H locs hR hS => ?_)
      obtain ⟨S124, eS124⟩ : ∃ z : sT, z = s_sB S a109 (Int32.toNatClampNeg (5 : Int32)) x122 := ⟨_, rfl⟩
      rw [← eS124] at hR
      replace h := h S124 eS124
      have hK_x0 : s_K S124 x0 = 9 := by rw [eS124]; exact hK_x0
      have hK_a102 : s_K S124 a102 = 11 := by rw [eS124]; exact hK_a102
      have hK_a105 : s_K S124 a105 = 11 := by rw [eS124]; exact hK_a105
      have hK_a109 : s_K S124 a109 = 11 := by rw [eS124]; exact hK_a109
      have hK_a112 : s_K S124 a112 = 11 := by rw [eS124]; exact hK_a112
      have hK_a115 : s_K S124 a115 = 11 := by rw [eS124]; exact hK_a115
      have hK_a118 : s_K S124 a118 = 13 := by rw [eS124]; exact hK_a118
      refine lv_aload_n hx hb dX7_pass_90 rfl (lv_at hl 1 rfl) ?_
      refine x_g_258 C hR hK_x0 q_3_14 dX7_pass_91 ?_
      obtain ⟨a125, ea125, h⟩ := h
      refine x_some ea125 ?_
      refine lv_iconst (v := 4) hx hb dX7_pass_94 (by decide) ?_
      refine lv_iload_n hx hb dX7_pass_95 rfl (lv_at hl 0 rfl) ?_
      obtain ⟨hK_a125, h⟩ := h
      obtain ⟨hi126, h⟩ := h
      refine x_iast C hR hK_a125 hS hi126 dX7_pass_96 (fun H locs hR hS => ?_)
      obtain ⟨S127, eS127⟩ : ∃ z : sT, z = s_sB S124 a125 (Int32.toNatClampNeg (4 : Int32)) x108 := ⟨_, rfl⟩
      rw [← eS127] at hR
      replace h := h S127 eS127
      have hK_x0 : s_K S127 x0 = 9 := by rw [eS127]; exact hK_x0
      have hK_a102 : s_K S127 a102 = 11 := by rw [eS127]; exact hK_a102
      have hK_a105 : s_K S127 a105 = 11 := by rw [eS127]; exact hK_a105
      have hK_a109 : s_K S127 a109 = 11 := by rw [eS127]; exact hK_a109
      have hK_a112 : s_K S127 a112 = 11 := by rw [eS127]; exact hK_a112
      have hK_a115 : s_K S127 a115 = 11 := by rw [eS127]; exact hK_a115
      have hK_a118 : s_K S127 a118 = 13 := by rw [eS127]; exact hK_a118
      have hK_a125 : s_K S127 a125 = 11 := by rw [eS127]; exact hK_a125
      refine lv_aload_n hx hb dX7_pass_97 rfl (lv_at hl 1 rfl) ?_
      refine x_g_256 C hR hK_x0 q_3_18 dX7_pass_98 ?_
      obtain ⟨a128, ea128, h⟩ := h
      refine x_some ea128 ?_
      refine lv_astore_n (lv' := [(3, .ref a128), (2, .int x108), (0, .ref x0), (1, .int x1), (4, .int x4)]) hx hb dX7_pass_101 rfl hl (by decide) rfl (fun ls hl => ?_)
      refine lv_aload_n hx hb dX7_pass_102 rfl (lv_at hl 0 rfl) ?_
      obtain ⟨hK_a128, h⟩ := h
      refine x_alen13 C hR hK_a128 dX7_pass_103 ?_
      refine lv_topi (fun x129 ex129 => ?_)
      replace h := h x129 ex129
      refine lv_istore (lv' := [(4, .int x129), (3, .ref a128), (2, .int x108), (0, .ref x0), (1, .int x1)]) hx hb dX7_pass_104 hl (by decide) rfl (fun ls hl => ?_)
      refine lv_iconst (v := 0) hx hb dX7_pass_106 (by decide) ?_
      refine lv_istore (lv' := [(5, .int (0 : Int32)), (4, .int x129), (3, .ref a128), (2, .int x108), (0, .ref x0), (1, .int x1)]) hx hb dX7_pass_107 hl (by decide) rfl (fun ls hl => ?_)
      obtain ⟨n9, h⟩ := h
      exact t_X7_pass_b109 C hml hr hlocks  n9 x0 x1 x108 a128 x129 (0 : Int32) S127 h H locs ls hR hS (lv_sub (l' := [(0, .ref x0), (1, .int x1), (2, .int x108), (3, .ref a128), (4, .int x129), (5, .int (0 : Int32))]) hl [4, 5, 3, 2, 1, 0] rfl)
    · replace h := h.2 hc101
      refine lv_aload_n hx hb dX7_pass_29 rfl (lv_at hl 2 rfl) ?_
      refine lv_iload hx hb dX7_pass_30 (lv_at hl 4 rfl) ?_
      obtain ⟨hK_x2, h⟩ := h
      obtain ⟨hi130, a131, ea131, h⟩ := h
      refine x_aald13 C hR hK_x2 hi130 dX7_pass_32 ?_
      refine x_some ea131 ?_
      refine lv_astore (lv' := [(5, .ref a131), (0, .ref x0), (1, .int x1), (2, .ref x2), (3, .int x3), (4, .int x4)]) hx hb dX7_pass_33 hl (by decide) rfl (fun ls hl => ?_)
      refine lv_iload_n hx hb dX7_pass_35 rfl (lv_at hl 2 rfl) ?_
      refine lv_aload hx hb dX7_pass_36 (lv_at hl 0 rfl) ?_
      refine lv_iconst (v := 0) hx hb dX7_pass_38 (by decide) ?_
      obtain ⟨hK_a131, h⟩ := h
      obtain ⟨hi132, h⟩ := h
      refine x_iald C hR hK_a131 hi132 dX7_pass_39 ?_
      refine lv_topi (fun x133 ex133 => ?_)
      replace h := h x133 ex133
      refine lv_iadd hx hb dX7_pass_40 ?_
      refine lv_topi (fun x134 ex134 => ?_)
      replace h := h x134 ex134
      refine lv_istore_n (lv' := [(1, .int x134), (5, .ref a131), (0, .ref x0), (2, .ref x2), (3, .int x3), (4, .int x4)]) hx hb dX7_pass_41 rfl hl (by decide) rfl (fun ls hl => ?_)
      obtain ⟨x135, ex135⟩ : ∃ z : Int32, z = x4 + 1 := ⟨_, rfl⟩
      replace h := h x135 ex135
      refine lv_iinc (v := x135) (lv' := [(4, .int x135), (1, .int x134), (5, .ref a131), (0, .ref x0), (2, .ref x2), (3, .int x3)]) hx hb dX7_pass_42 hl (k := 5) rfl (by rw [ex135]; rfl) (by decide) rfl (fun ls hl => ?_)
      refine lv_goto (tgt := 23) hx hb dX7_pass_45 (by decide) ?_
      exact ih x0 x134 x2 x3 x135 S h H locs ls hR hS (lv_sub (l' := [(0, .ref x0), (1, .int x134), (2, .ref x2), (3, .int x3), (4, .int x135)]) hl [3, 1, 4, 5, 0] rfl)
set_option maxHeartbeats 4000000 in
theorem t_X7_pass_b0 {Q : sT → Prop} (C : x_C p s m args c cX7_pass RX7 gg) (hml : c.maxLocals = 7) (hr : meth.sig.returnType = none) (hlocks : meth.locks = false) {x0 : Nat}  {S : sT}  (h : w_X7_pass_b0 x0 S  Q) : x_X p l e r_X7_pass s m args below meth c gg 7 0 0 (MQ below (va_Qv Q (fun S1 t => s_Rep gg S1 t.heap) (s_A gg)) args s 0 0 (s_A gg)) 0 [(0, .ref x0)] [] S := by
  unfold w_X7_pass_b0 at h
  obtain ⟨hx, hb, -⟩ := id C
  intro H locs ls hR hS hl
  refine lv_aload_n hx hb dX7_pass_0 rfl (lv_at hl 0 rfl) ?_
  obtain ⟨hK_x0, h⟩ := h
  refine x_g_258 C hR hK_x0 q_3_14 dX7_pass_1 ?_
  obtain ⟨a101, ea101, h⟩ := h
  refine x_some ea101 ?_
  refine lv_iconst (v := 0) hx hb dX7_pass_4 (by decide) ?_
  refine lv_dup2_11 hx hb dX7_pass_5 rfl rfl ?_
  obtain ⟨hK_a101, h⟩ := h
  obtain ⟨hi102, h⟩ := h
  refine x_iald C hR hK_a101 hi102 dX7_pass_6 ?_
  refine lv_topi (fun x103 ex103 => ?_)
  replace h := h x103 ex103
  refine lv_iconst (v := 1) hx hb dX7_pass_7 (by decide) ?_
  refine lv_iadd hx hb dX7_pass_8 ?_
  refine lv_topi (fun x104 ex104 => ?_)
  replace h := h x104 ex104
  obtain ⟨hi105, h⟩ := h
  refine x_iast C hR hK_a101 hS hi105 dX7_pass_9 (fun H locs hR hS => ?_)
  obtain ⟨S106, eS106⟩ : ∃ z : sT, z = s_sB S a101 (Int32.toNatClampNeg (0 : Int32)) x104 := ⟨_, rfl⟩
  rw [← eS106] at hR
  replace h := h S106 eS106
  have hK_x0 : s_K S106 x0 = 9 := by rw [eS106]; exact hK_x0
  have hK_a101 : s_K S106 a101 = 11 := by rw [eS106]; exact hK_a101
  refine lv_iconst (v := 0) hx hb dX7_pass_10 (by decide) ?_
  refine lv_istore_n (lv' := [(1, .int (0 : Int32)), (0, .ref x0)]) hx hb dX7_pass_11 rfl hl (by decide) rfl (fun ls hl => ?_)
  refine lv_aload_n hx hb dX7_pass_12 rfl (lv_at hl 1 rfl) ?_
  refine x_g_256 C hR hK_x0 q_3_18 dX7_pass_13 ?_
  obtain ⟨a107, ea107, h⟩ := h
  refine x_some ea107 ?_
  refine lv_astore_n (lv' := [(2, .ref a107), (1, .int (0 : Int32)), (0, .ref x0)]) hx hb dX7_pass_16 rfl hl (by decide) rfl (fun ls hl => ?_)
  refine lv_aload_n hx hb dX7_pass_17 rfl (lv_at hl 0 rfl) ?_
  obtain ⟨hK_a107, h⟩ := h
  refine x_alen13 C hR hK_a107 dX7_pass_18 ?_
  refine lv_topi (fun x108 ex108 => ?_)
  replace h := h x108 ex108
  refine lv_istore_n (lv' := [(3, .int x108), (2, .ref a107), (1, .int (0 : Int32)), (0, .ref x0)]) hx hb dX7_pass_19 rfl hl (by decide) rfl (fun ls hl => ?_)
  refine lv_iconst (v := 0) hx hb dX7_pass_20 (by decide) ?_
  refine lv_istore (lv' := [(4, .int (0 : Int32)), (3, .int x108), (2, .ref a107), (1, .int (0 : Int32)), (0, .ref x0)]) hx hb dX7_pass_21 hl (by decide) rfl (fun ls hl => ?_)
  obtain ⟨n9, h⟩ := h
  exact t_X7_pass_b23 C hml hr hlocks  n9 x0 (0 : Int32) a107 x108 (0 : Int32) S106 h H locs ls hR hS (lv_sub (l' := [(0, .ref x0), (1, .int (0 : Int32)), (2, .ref a107), (3, .int x108), (4, .int (0 : Int32))]) hl [4, 3, 2, 1, 0] rfl)
theorem m_X7_pass (l : Launch) (gg : sG) (x0 : Nat) (S : sT) {Q : sT → Prop} (h : w_X7_pass x0 S Q) : x_Mv l gg yX7_pass (x_ws yX7_pass cX7_pass 7 none) r_X7_pass [.ref x0] S Q 0 0 := by
  refine x_ofW (cc := cX7_pass) (own := RX7) (by decide +kernel) rfl (Nat.le_of_ble_eq_true rfl) ?_
  intro p e s m args below meth c C hml hr hlocks hin ht H locs ls hR hS hl
  exact t_X7_pass_b0 C hml hr hlocks h H locs ls hR hS (lv_sub (l' := [(0, .ref x0)]) hl [0] rfl)
def w_X7_plant_b0 (x0 : Nat) (x1 : Int32) (x2 : Int32) (S : sT)  (Q : sT → Prop) : Prop :=
s_K S x0 = 9 ∧
    ∃ a101 : Nat, s_R S 257 x0 = some a101 ∧
    s_K S a101 = 13 ∧
    vp_in x1 (s_N S a101) ∧
    ∃ a103 : Nat, s_P S a101 (Int32.toNatClampNeg x1) = some a103 ∧
    s_K S a103 = 11 ∧
    vp_in (4 : Int32) (s_N S a103) ∧
    ∀ S105 : sT, S105 = s_sB S a103 (Int32.toNatClampNeg (4 : Int32)) (2 : Int32) →
    vp_in (5 : Int32) (s_N S105 a103) ∧
    ∀ S107 : sT, S107 = s_sB S105 a103 (Int32.toNatClampNeg (5 : Int32)) x2 →
    vp_in (6 : Int32) (s_N S107 a103) ∧
    ∀ S109 : sT, S109 = s_sB S107 a103 (Int32.toNatClampNeg (6 : Int32)) (0 : Int32) →
    vp_in (7 : Int32) (s_N S109 a103) ∧
    ∀ S111 : sT, S111 = s_sB S109 a103 (Int32.toNatClampNeg (7 : Int32)) (100 : Int32) →
    vp_in (10 : Int32) (s_N S111 a103) ∧
    ∀ S113 : sT, S113 = s_sB S111 a103 (Int32.toNatClampNeg (10 : Int32)) (0 : Int32) →
    vp_in (20 : Int32) (s_N S113 a103) ∧
    ∀ S115 : sT, S115 = s_sB S113 a103 (Int32.toNatClampNeg (20 : Int32)) (0 : Int32) →
    vp_in (21 : Int32) (s_N S115 a103) ∧
    ∀ S117 : sT, S117 = s_sB S115 a103 (Int32.toNatClampNeg (21 : Int32)) (120 : Int32) →
    Q S117
def w_X7_plant (x0 : Nat) (x1 : Int32) (x2 : Int32) (S : sT) (Q : sT → Prop) : Prop := w_X7_plant_b0 x0 x1 x2 S Q
def r_X7_plant : Room := x_rm 0 0 0 0
theorem b_X7_plant : x_BV yX7_plant cX7_plant 4 none 2 := ⟨q_16_13, q_16_11, q_16_12, q_3_7, by decide +kernel⟩
set_option maxHeartbeats 4000000 in
theorem t_X7_plant_b0 {Q : sT → Prop} (C : x_C p s m args c cX7_plant RX7 gg) (hml : c.maxLocals = 4) (hr : meth.sig.returnType = none) (hlocks : meth.locks = false) {x0 : Nat} {x1 : Int32} {x2 : Int32}  {S : sT}  (h : w_X7_plant_b0 x0 x1 x2 S  Q) : x_X p l e r_X7_plant s m args below meth c gg 4 0 0 (MQ below (va_Qv Q (fun S1 t => s_Rep gg S1 t.heap) (s_A gg)) args s 0 0 (s_A gg)) 0 [(0, .ref x0), (1, .int x1), (2, .int x2)] [] S := by
  unfold w_X7_plant_b0 at h
  obtain ⟨hx, hb, -⟩ := id C
  intro H locs ls hR hS hl
  refine lv_aload_n hx hb dX7_plant_0 rfl (lv_at hl 0 rfl) ?_
  obtain ⟨hK_x0, h⟩ := h
  refine x_g_257 C hR hK_x0 q_3_19 dX7_plant_1 ?_
  obtain ⟨a101, ea101, h⟩ := h
  refine x_some ea101 ?_
  refine lv_iload_n hx hb dX7_plant_4 rfl (lv_at hl 1 rfl) ?_
  obtain ⟨hK_a101, h⟩ := h
  obtain ⟨hi102, a103, ea103, h⟩ := h
  refine x_aald13 C hR hK_a101 hi102 dX7_plant_5 ?_
  refine x_some ea103 ?_
  refine lv_astore_n (lv' := [(3, .ref a103), (0, .ref x0), (1, .int x1), (2, .int x2)]) hx hb dX7_plant_6 rfl hl (by decide) rfl (fun ls hl => ?_)
  refine lv_aload_n hx hb dX7_plant_7 rfl (lv_at hl 0 rfl) ?_
  refine lv_iconst (v := 4) hx hb dX7_plant_8 (by decide) ?_
  refine lv_iconst (v := 2) hx hb dX7_plant_9 (by decide) ?_
  obtain ⟨hK_a103, h⟩ := h
  obtain ⟨hi104, h⟩ := h
  refine x_iast C hR hK_a103 hS hi104 dX7_plant_10 (fun H locs hR hS => ?_)
  obtain ⟨S105, eS105⟩ : ∃ z : sT, z = s_sB S a103 (Int32.toNatClampNeg (4 : Int32)) (2 : Int32) := ⟨_, rfl⟩
  rw [← eS105] at hR
  replace h := h S105 eS105
  have hK_x0 : s_K S105 x0 = 9 := by rw [eS105]; exact hK_x0
  have hK_a101 : s_K S105 a101 = 13 := by rw [eS105]; exact hK_a101
  have hK_a103 : s_K S105 a103 = 11 := by rw [eS105]; exact hK_a103
  refine lv_aload_n hx hb dX7_plant_11 rfl (lv_at hl 0 rfl) ?_
  refine lv_iconst (v := 5) hx hb dX7_plant_12 (by decide) ?_
  refine lv_iload_n hx hb dX7_plant_13 rfl (lv_at hl 3 rfl) ?_
  obtain ⟨hi106, h⟩ := h
  refine x_iast C hR hK_a103 hS hi106 dX7_plant_14 (fun H locs hR hS => ?_)
  obtain ⟨S107, eS107⟩ : ∃ z : sT, z = s_sB S105 a103 (Int32.toNatClampNeg (5 : Int32)) x2 := ⟨_, rfl⟩
  rw [← eS107] at hR
  replace h := h S107 eS107
  have hK_x0 : s_K S107 x0 = 9 := by rw [eS107]; exact hK_x0
  have hK_a101 : s_K S107 a101 = 13 := by rw [eS107]; exact hK_a101
  have hK_a103 : s_K S107 a103 = 11 := by rw [eS107]; exact hK_a103
  refine lv_aload_n hx hb dX7_plant_15 rfl (lv_at hl 0 rfl) ?_
  refine lv_bipush (v := 6) hx hb dX7_plant_16 (by decide) ?_
  refine lv_iconst (v := 0) hx hb dX7_plant_18 (by decide) ?_
  obtain ⟨hi108, h⟩ := h
  refine x_iast C hR hK_a103 hS hi108 dX7_plant_19 (fun H locs hR hS => ?_)
  obtain ⟨S109, eS109⟩ : ∃ z : sT, z = s_sB S107 a103 (Int32.toNatClampNeg (6 : Int32)) (0 : Int32) := ⟨_, rfl⟩
  rw [← eS109] at hR
  replace h := h S109 eS109
  have hK_x0 : s_K S109 x0 = 9 := by rw [eS109]; exact hK_x0
  have hK_a101 : s_K S109 a101 = 13 := by rw [eS109]; exact hK_a101
  have hK_a103 : s_K S109 a103 = 11 := by rw [eS109]; exact hK_a103
  refine lv_aload_n hx hb dX7_plant_20 rfl (lv_at hl 0 rfl) ?_
  refine lv_bipush (v := 7) hx hb dX7_plant_21 (by decide) ?_
  refine lv_bipush (v := 100) hx hb dX7_plant_23 (by decide) ?_
  obtain ⟨hi110, h⟩ := h
  refine x_iast C hR hK_a103 hS hi110 dX7_plant_25 (fun H locs hR hS => ?_)
  obtain ⟨S111, eS111⟩ : ∃ z : sT, z = s_sB S109 a103 (Int32.toNatClampNeg (7 : Int32)) (100 : Int32) := ⟨_, rfl⟩
  rw [← eS111] at hR
  replace h := h S111 eS111
  have hK_x0 : s_K S111 x0 = 9 := by rw [eS111]; exact hK_x0
  have hK_a101 : s_K S111 a101 = 13 := by rw [eS111]; exact hK_a101
  have hK_a103 : s_K S111 a103 = 11 := by rw [eS111]; exact hK_a103
  refine lv_aload_n hx hb dX7_plant_26 rfl (lv_at hl 0 rfl) ?_
  refine lv_bipush (v := 10) hx hb dX7_plant_27 (by decide) ?_
  refine lv_iconst (v := 0) hx hb dX7_plant_29 (by decide) ?_
  obtain ⟨hi112, h⟩ := h
  refine x_iast C hR hK_a103 hS hi112 dX7_plant_30 (fun H locs hR hS => ?_)
  obtain ⟨S113, eS113⟩ : ∃ z : sT, z = s_sB S111 a103 (Int32.toNatClampNeg (10 : Int32)) (0 : Int32) := ⟨_, rfl⟩
  rw [← eS113] at hR
  replace h := h S113 eS113
  have hK_x0 : s_K S113 x0 = 9 := by rw [eS113]; exact hK_x0
  have hK_a101 : s_K S113 a101 = 13 := by rw [eS113]; exact hK_a101
  have hK_a103 : s_K S113 a103 = 11 := by rw [eS113]; exact hK_a103
  refine lv_aload_n hx hb dX7_plant_31 rfl (lv_at hl 0 rfl) ?_
  refine lv_bipush (v := 20) hx hb dX7_plant_32 (by decide) ?_
  refine lv_iconst (v := 0) hx hb dX7_plant_34 (by decide) ?_
  obtain ⟨hi114, h⟩ := h
  refine x_iast C hR hK_a103 hS hi114 dX7_plant_35 (fun H locs hR hS => ?_)
  obtain ⟨S115, eS115⟩ : ∃ z : sT, z = s_sB S113 a103 (Int32.toNatClampNeg (20 : Int32)) (0 : Int32) := ⟨_, rfl⟩
  rw [← eS115] at hR
  replace h := h S115 eS115
  have hK_x0 : s_K S115 x0 = 9 := by rw [eS115]; exact hK_x0
  have hK_a101 : s_K S115 a101 = 13 := by rw [eS115]; exact hK_a101
  have hK_a103 : s_K S115 a103 = 11 := by rw [eS115]; exact hK_a103
  refine lv_aload_n hx hb dX7_plant_36 rfl (lv_at hl 0 rfl) ?_
  refine lv_bipush (v := 21) hx hb dX7_plant_37 (by decide) ?_
  refine lv_bipush (v := 120) hx hb dX7_plant_39 (by decide) ?_
  obtain ⟨hi116, h⟩ := h
  refine x_iast C hR hK_a103 hS hi116 dX7_plant_41 (fun H locs hR hS => ?_)
  obtain ⟨S117, eS117⟩ : ∃ z : sT, z = s_sB S115 a103 (Int32.toNatClampNeg (21 : Int32)) (120 : Int32) := ⟨_, rfl⟩
  rw [← eS117] at hR
  replace h := h S117 eS117
  have hK_x0 : s_K S117 x0 = 9 := by rw [eS117]; exact hK_x0
  have hK_a101 : s_K S117 a101 = 13 := by rw [eS117]; exact hK_a101
  have hK_a103 : s_K S117 a103 = 11 := by rw [eS117]; exact hK_a103
  exact W.vret hx hb hr (fun t ht hW => ⟨⟨S117, rfl, h, x_rt ht hR⟩, hS.F ht⟩) hS.2.2 dX7_plant_42
theorem m_X7_plant (l : Launch) (gg : sG) (x0 : Nat) (x1 : Int32) (x2 : Int32) (S : sT) {Q : sT → Prop} (h : w_X7_plant x0 x1 x2 S Q) : x_Mv l gg yX7_plant (x_ws yX7_plant cX7_plant 4 none) r_X7_plant [.ref x0, .int x1, .int x2] S Q 0 0 := by
  refine x_ofW (cc := cX7_plant) (own := RX7) (by decide +kernel) rfl (Nat.le_of_ble_eq_true rfl) ?_
  intro p e s m args below meth c C hml hr hlocks hin ht H locs ls hR hS hl
  exact t_X7_plant_b0 C hml hr hlocks h H locs ls hR hS (lv_sub (l' := [(0, .ref x0), (1, .int x1), (2, .int x2)]) hl [0, 1, 2] rfl)
def w_X7_isRipe_b33 (x0 : Nat) (x2 : Int32) (y0 : Int32) (y1 : Int32) (S : sT) (kk4 : Nat → Int32 → Int32 → sT → Prop) (Q : Int32 → sT → Prop) : Prop :=
∀ x101 : Int32, x101 = y1 ||| y0 →
    ∀ x102 : Int32, x102 = x2 + 1 →
    kk4 x0 x101 x102 S
def w_X7_isRipe_b4  (Q : Int32 → sT → Prop) : Nat → Nat → Int32 → Int32 → sT → Prop
  | 0 => fun _ _ _ _ => False
  | n + 1 => fun x0 x1 x2 S =>
s_K S x0 = 9 ∧
    ∃ a101 : Nat, s_R S 257 x0 = some a101 ∧
    s_K S a101 = 13 ∧
    ∀ x102 : Int32, x102 = nI (s_N S a101) →
    ((x102 ≤ x2 → Q x1 S) ∧
    (¬ x102 ≤ x2 → ∃ a104 : Nat, s_R S 257 x0 = some a104 ∧
    s_K S a104 = 13 ∧
    vp_in x2 (s_N S a104) ∧
    ∃ a106 : Nat, s_P S a104 (Int32.toNatClampNeg x2) = some a106 ∧
    s_K S a106 = 11 ∧
    vp_in (4 : Int32) (s_N S a106) ∧
    ∀ x108 : Int32, x108 = s_B S a106 (Int32.toNatClampNeg (4 : Int32)) →
    ((¬ x108 = (5 : Int32) → w_X7_isRipe_b33 x0 x2 (0 : Int32) x1 S (fun x0 x1 x2 S => w_X7_isRipe_b4  Q n x0 x1 x2 S) Q) ∧
    (x108 = (5 : Int32) → ∀ x110 : Int32, x110 = (1 : Int32) <<< (x2 &&& 31) →
    w_X7_isRipe_b33 x0 x2 x110 x1 S (fun x0 x1 x2 S => w_X7_isRipe_b4  Q n x0 x1 x2 S) Q))))
def w_X7_isRipe_b0 (x0 : Nat) (S : sT)  (Q : Int32 → sT → Prop) : Prop :=
∃ n9 : Nat, w_X7_isRipe_b4  Q n9 x0 (0 : Int32) (0 : Int32) S
def w_X7_isRipe (x0 : Nat) (S : sT) (Q : Int32 → sT → Prop) : Prop := w_X7_isRipe_b0 x0 S Q
def r_X7_isRipe : Room := x_rm 0 0 0 0
theorem b_X7_isRipe : x_BV yX7_isRipe cX7_isRipe 3 (some .int) 0 := ⟨q_41_22, q_41_20, q_41_21, q_3_7, by decide +kernel⟩
set_option maxHeartbeats 4000000 in
theorem t_X7_isRipe_b33 {Q : Int32 → sT → Prop} (C : x_C p s m args c cX7_isRipe RX7 gg) (hml : c.maxLocals = 3) (hr : meth.sig.returnType = (some .int)) (hlocks : meth.locks = false) {x0 : Nat} {x2 : Int32} {y0 : Int32} {y1 : Int32} {kk4 : Nat → Int32 → Int32 → sT → Prop} {S : sT} (hk4 : ∀ (x0 : Nat) (x1 : Int32) (x2 : Int32) (S : sT), kk4 x0 x1 x2 S → x_X p l e r_X7_isRipe s m args below meth c gg 3 0 0 (MQ below (va_Qi Q (fun S1 t => s_Rep gg S1 t.heap) (s_A gg)) args s 0 0 (s_A gg)) 4 [(0, .ref x0), (1, .int x1), (2, .int x2)] [] S) (h : w_X7_isRipe_b33 x0 x2 y0 y1 S kk4 Q) : x_X p l e r_X7_isRipe s m args below meth c gg 3 0 0 (MQ below (va_Qi Q (fun S1 t => s_Rep gg S1 t.heap) (s_A gg)) args s 0 0 (s_A gg)) 33 [(0, .ref x0), (2, .int x2)] [.int y0, .int y1] S := by
  unfold w_X7_isRipe_b33 at h
  obtain ⟨hx, hb, -⟩ := id C
  intro H locs ls hR hS hl
  refine lv_ior hx hb dX7_isRipe_33 ?_
  refine lv_topi (fun x101 ex101 => ?_)
  replace h := h x101 ex101
  refine lv_istore_n (lv' := [(1, .int x101), (0, .ref x0), (2, .int x2)]) hx hb dX7_isRipe_34 rfl hl (by decide) rfl (fun ls hl => ?_)
  obtain ⟨x102, ex102⟩ : ∃ z : Int32, z = x2 + 1 := ⟨_, rfl⟩
  replace h := h x102 ex102
  refine lv_iinc (v := x102) (lv' := [(2, .int x102), (1, .int x101), (0, .ref x0)]) hx hb dX7_isRipe_35 hl (k := 2) rfl (by rw [ex102]; rfl) (by decide) rfl (fun ls hl => ?_)
  refine lv_goto (tgt := 4) hx hb dX7_isRipe_38 (by decide) ?_
  exact hk4 x0 x101 x102 S h H locs ls hR hS (lv_sub (l' := [(0, .ref x0), (1, .int x101), (2, .int x102)]) hl [2, 1, 0] rfl)
set_option maxHeartbeats 4000000 in
theorem t_X7_isRipe_b4 {Q : Int32 → sT → Prop} (C : x_C p s m args c cX7_isRipe RX7 gg) (hml : c.maxLocals = 3) (hr : meth.sig.returnType = (some .int)) (hlocks : meth.locks = false)   : ∀ (n : Nat) (x0 : Nat) (x1 : Int32) (x2 : Int32) (S : sT), w_X7_isRipe_b4  Q n x0 x1 x2 S → x_X p l e r_X7_isRipe s m args below meth c gg 3 0 0 (MQ below (va_Qi Q (fun S1 t => s_Rep gg S1 t.heap) (s_A gg)) args s 0 0 (s_A gg)) 4 [(0, .ref x0), (1, .int x1), (2, .int x2)] [] S := by
  obtain ⟨hx, hb, -⟩ := id C
  intro n
  induction n with
  | zero => intro x0 x1 x2 S h; exact absurd h id
  | succ n ih =>
    intro x0 x1 x2 S h H locs ls hR hS hl
    unfold w_X7_isRipe_b4 at h
    refine lv_iload_n hx hb dX7_isRipe_4 rfl (lv_at hl 2 rfl) ?_
    refine lv_aload_n hx hb dX7_isRipe_5 rfl (lv_at hl 0 rfl) ?_
    obtain ⟨hK_x0, h⟩ := h
    refine x_g_257 C hR hK_x0 q_3_19 dX7_isRipe_6 ?_
    obtain ⟨a101, ea101, h⟩ := h
    refine x_some ea101 ?_
    obtain ⟨hK_a101, h⟩ := h
    refine x_alen13 C hR hK_a101 dX7_isRipe_9 ?_
    refine lv_topi (fun x102 ex102 => ?_)
    replace h := h x102 ex102
    refine lv_icmp_ge (tgt := 41) hx hb dX7_isRipe_10 (by decide) (fun hc103 => ?_) (fun hc103 => ?_)
    · replace h := h.1 hc103
      refine lv_iload_n hx hb dX7_isRipe_41 rfl (lv_at hl 1 rfl) ?_
      exact W.iret (v := x1) hx hb hr (fun t ht hW => ⟨⟨x1, S, rfl, h, x_rt ht hR⟩, hS.F ht⟩) hS.2.2 dX7_isRipe_42
    · replace h := h.2 hc103
      refine lv_iload_n hx hb dX7_isRipe_13 rfl (lv_at hl 1 rfl) ?_
      refine lv_aload_n hx hb dX7_isRipe_14 rfl (lv_at hl 0 rfl) ?_
      refine x_g_257 C hR hK_x0 q_3_19 dX7_isRipe_15 ?_
      obtain ⟨a104, ea104, h⟩ := h
      refine x_some ea104 ?_
      refine lv_iload_n hx hb dX7_isRipe_18 rfl (lv_at hl 2 rfl) ?_
      obtain ⟨hK_a104, h⟩ := h
      obtain ⟨hi105, a106, ea106, h⟩ := h
      refine x_aald13 C hR hK_a104 hi105 dX7_isRipe_19 ?_
      refine x_some ea106 ?_
      refine lv_iconst (v := 4) hx hb dX7_isRipe_20 (by decide) ?_
      obtain ⟨hK_a106, h⟩ := h
      obtain ⟨hi107, h⟩ := h
      refine x_iald C hR hK_a106 hi107 dX7_isRipe_21 ?_
      refine lv_topi (fun x108 ex108 => ?_)
      replace h := h x108 ex108
      refine lv_iconst (v := 5) hx hb dX7_isRipe_22 (by decide) ?_
      refine lv_icmp_ne (tgt := 32) hx hb dX7_isRipe_23 (by decide) (fun hc109 => ?_) (fun hc109 => ?_)
      · replace h := h.1 hc109
        refine lv_iconst (v := 0) hx hb dX7_isRipe_32 (by decide) ?_
        exact t_X7_isRipe_b33 C hml hr hlocks (fun x0 x1 x2 S h => ih x0 x1 x2 S h) h H locs ls hR hS (lv_sub (l' := [(0, .ref x0), (2, .int x2)]) hl [0, 2] rfl)
      · replace h := h.2 hc109
        refine lv_iconst (v := 1) hx hb dX7_isRipe_26 (by decide) ?_
        refine lv_iload_n hx hb dX7_isRipe_27 rfl (lv_at hl 2 rfl) ?_
        refine lv_ishl hx hb dX7_isRipe_28 ?_
        refine lv_topi (fun x110 ex110 => ?_)
        replace h := h x110 ex110
        refine lv_goto (tgt := 33) hx hb dX7_isRipe_29 (by decide) ?_
        exact t_X7_isRipe_b33 C hml hr hlocks (fun x0 x1 x2 S h => ih x0 x1 x2 S h) h H locs ls hR hS (lv_sub (l' := [(0, .ref x0), (2, .int x2)]) hl [0, 2] rfl)
set_option maxHeartbeats 4000000 in
theorem t_X7_isRipe_b0 {Q : Int32 → sT → Prop} (C : x_C p s m args c cX7_isRipe RX7 gg) (hml : c.maxLocals = 3) (hr : meth.sig.returnType = (some .int)) (hlocks : meth.locks = false) {x0 : Nat}  {S : sT}  (h : w_X7_isRipe_b0 x0 S  Q) : x_X p l e r_X7_isRipe s m args below meth c gg 3 0 0 (MQ below (va_Qi Q (fun S1 t => s_Rep gg S1 t.heap) (s_A gg)) args s 0 0 (s_A gg)) 0 [(0, .ref x0)] [] S := by
  unfold w_X7_isRipe_b0 at h
  obtain ⟨hx, hb, -⟩ := id C
  intro H locs ls hR hS hl
  refine lv_iconst (v := 0) hx hb dX7_isRipe_0 (by decide) ?_
  refine lv_istore_n (lv' := [(1, .int (0 : Int32)), (0, .ref x0)]) hx hb dX7_isRipe_1 rfl hl (by decide) rfl (fun ls hl => ?_)
  refine lv_iconst (v := 0) hx hb dX7_isRipe_2 (by decide) ?_
  refine lv_istore_n (lv' := [(2, .int (0 : Int32)), (1, .int (0 : Int32)), (0, .ref x0)]) hx hb dX7_isRipe_3 rfl hl (by decide) rfl (fun ls hl => ?_)
  obtain ⟨n9, h⟩ := h
  exact t_X7_isRipe_b4 C hml hr hlocks  n9 x0 (0 : Int32) (0 : Int32) S h H locs ls hR hS (lv_sub (l' := [(0, .ref x0), (1, .int (0 : Int32)), (2, .int (0 : Int32))]) hl [2, 1, 0] rfl)
theorem m_X7_isRipe (l : Launch) (gg : sG) (x0 : Nat) (S : sT) {Q : Int32 → sT → Prop} (h : w_X7_isRipe x0 S Q) : x_Mi l gg yX7_isRipe (x_ws yX7_isRipe cX7_isRipe 3 (some .int)) r_X7_isRipe [.ref x0] S Q 0 0 := by
  refine x_ofW (cc := cX7_isRipe) (own := RX7) (by decide +kernel) rfl (Nat.le_of_ble_eq_true rfl) ?_
  intro p e s m args below meth c C hml hr hlocks hin ht H locs ls hR hS hl
  exact t_X7_isRipe_b0 C hml hr hlocks h H locs ls hR hS (lv_sub (l' := [(0, .ref x0)]) hl [0] rfl)
end
