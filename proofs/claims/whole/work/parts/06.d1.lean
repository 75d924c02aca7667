section
variable {p : Program} {l : Launch} {e : Env} {s : State} {m : MethodId} {args : Array Value} {below : List Frame} {meth : Method} {c : Code} {gg : sG}
def w_X8_thrown_b0 (x0 : Nat) (S : sT)  (Q : Int32 → sT → Prop) : Prop :=
s_K S x0 = 10 ∧
    ∀ x101 : Int32, x101 = s_I S 288 x0 →
    Q x101 S
def w_X8_thrown (x0 : Nat) (S : sT) (Q : Int32 → sT → Prop) : Prop := w_X8_thrown_b0 x0 S Q
def r_X8_thrown : Room := x_rm 0 0 0 0
theorem b_X8_thrown : x_BV yX8_thrown cX8_thrown 1 (some .int) 0 := ⟨q_8_19, q_8_17, q_8_18, q_1_5, by decide +kernel⟩
set_option maxHeartbeats 4000000 in
theorem t_X8_thrown_b0 {Q : Int32 → sT → Prop} (C : x_C p s m args c cX8_thrown RX8 gg) (hml : c.maxLocals = 1) (hr : meth.sig.returnType = (some .int)) (hlocks : meth.locks = false) {x0 : Nat}  {S : sT}  (h : w_X8_thrown_b0 x0 S  Q) : x_X p l e r_X8_thrown s m args below meth c gg 1 0 0 (MQ below (va_Qi Q (fun S1 t => s_Rep gg S1 t.heap) (s_A gg)) args s 0 0 (s_A gg)) 0 [(0, .ref x0)] [] S := by
  unfold w_X8_thrown_b0 at h
  obtain ⟨hx, hb, -⟩ := id C
  intro H locs ls hR hS hl
  refine lv_aload_n hx hb dX8_thrown_0 rfl (lv_at hl 0 rfl) ?_
  obtain ⟨hK_x0, h⟩ := h
  refine x_g_288 C hR hK_x0 q_8_1 dX8_thrown_1 ?_
  refine lv_topi (fun x101 ex101 => ?_)
  replace h := h x101 ex101
  exact W.iret (v := x101) hx hb hr (fun t ht hW => ⟨⟨x101, S, rfl, h, x_rt ht hR⟩, hS.F ht⟩) hS.2.2 dX8_thrown_4
theorem m_X8_thrown (l : Launch) (gg : sG) (x0 : Nat) (S : sT) {Q : Int32 → sT → Prop} (h : w_X8_thrown x0 S Q) : x_Mi l gg yX8_thrown (x_ws yX8_thrown cX8_thrown 1 (some .int)) r_X8_thrown [.ref x0] S Q 0 0 := by
  refine x_ofW (cc := cX8_thrown) (own := RX8) (by decide +kernel) rfl (Nat.le_of_ble_eq_true rfl) ?_
  intro p e s m args below meth c C hml hr hlocks hin ht H locs ls hR hS hl
  exact t_X8_thrown_b0 C hml hr hlocks h H locs ls hR hS (lv_sub (l' := [(0, .ref x0)]) hl [0] rfl)
def w_X8_isField_b0 (x0 : Nat) (x1 : Int32) (S : sT)  (Q : Int32 → sT → Prop) : Prop :=
s_K S x0 = 10 ∧
    ∃ a101 : Nat, s_R S 289 x0 = some a101 ∧
    s_K S a101 = 9 ∧
    ∃ a102 : Nat, s_R S 257 a101 = some a102 ∧
    s_K S a102 = 13 ∧
    ∀ x103 : Int32, x103 = nI (s_N S a102) →
    ∀ x104 : Int32, x104 = x103 - (1 : Int32) →
    w_X8_is x1 (0 : Int32) x104 S (fun x106 S105 =>
    (x106 = 0 ∨ x106 = 1) ∧
    Q x106 S105)
def w_X8_isField (x0 : Nat) (x1 : Int32) (S : sT) (Q : Int32 → sT → Prop) : Prop := w_X8_isField_b0 x0 x1 S Q
def r_X8_isField : Room := x_rm 1 22 0 0
theorem b_X8_isField : x_BV yX8_isField cX8_isField 2 (some .boolean) 1 := ⟨q_13_10, q_13_8, q_13_9, q_1_5, by decide +kernel⟩
set_option maxHeartbeats 4000000 in
theorem t_X8_isField_b0 {Q : Int32 → sT → Prop} (C : x_C p s m args c cX8_isField RX8 gg) (hml : c.maxLocals = 2) (hr : meth.sig.returnType = (some .boolean)) (hlocks : meth.locks = false) {x0 : Nat} {x1 : Int32}  {S : sT}  (h : w_X8_isField_b0 x0 x1 S  Q) : x_X p l e r_X8_isField s m args below meth c gg 2 0 0 (MQ below (va_Qi Q (fun S1 t => s_Rep gg S1 t.heap) (s_A gg)) args s 0 0 (s_A gg)) 0 [(0, .ref x0), (1, .int x1)] [] S := by
  unfold w_X8_isField_b0 at h
  obtain ⟨hx, hb, -⟩ := id C
  intro H locs ls hR hS hl
  refine lv_iload_n hx hb dX8_isField_0 rfl (lv_at hl 1 rfl) ?_
  refine lv_iconst (v := 0) hx hb dX8_isField_1 (by decide) ?_
  refine lv_aload_n hx hb dX8_isField_2 rfl (lv_at hl 0 rfl) ?_
  obtain ⟨hK_x0, h⟩ := h
  refine x_g_289 C hR hK_x0 q_3_8 dX8_isField_3 ?_
  obtain ⟨a101, ea101, h⟩ := h
  refine x_some ea101 ?_
  obtain ⟨hK_a101, h⟩ := h
  refine x_gN_257 C hR hK_a101 (xn_1 C) dX8_isField_6 ?_
  obtain ⟨a102, ea102, h⟩ := h
  refine x_some ea102 ?_
  obtain ⟨hK_a102, h⟩ := h
  refine x_alen13 C hR hK_a102 dX8_isField_9 ?_
  refine lv_topi (fun x103 ex103 => ?_)
  replace h := h x103 ex103
  refine lv_iconst (v := 1) hx hb dX8_isField_10 (by decide) ?_
  refine lv_isub hx hb dX8_isField_11 ?_
  refine lv_topi (fun x104 ex104 => ?_)
  replace h := h x104 ex104
  refine x_ki (x_runS (As := [.int x1, .int (0 : Int32), .int x104]) (rest := []) C hml hR hS (m_X8_is l gg x1 (0 : Int32) x104 S h) b_X8_is q_8_2 rfl rfl ⟨Nat.le_of_ble_eq_true rfl, Nat.le_of_ble_eq_true rfl⟩ rfl hl.1 (Nat.le_of_ble_eq_true rfl) dX8_isField_12 ⟨Nat.le_refl _, Nat.le_refl _⟩) hS (fun x106 S105 H locs hn hR hS => ?_)
  replace h := hn
  clear hn
  obtain ⟨hz107, h⟩ := h
  exact W.zret (v := x106) hx hb hr (zb_n hz107) (fun t ht hW => ⟨⟨x106, S105, rfl, h, x_rt ht hR⟩, hS.F ht⟩) hS.2.2 dX8_isField_15
theorem m_X8_isField (l : Launch) (gg : sG) (x0 : Nat) (x1 : Int32) (S : sT) {Q : Int32 → sT → Prop} (h : w_X8_isField x0 x1 S Q) : x_Mi l gg yX8_isField (x_ws yX8_isField cX8_isField 2 (some .boolean)) r_X8_isField [.ref x0, .int x1] S Q 0 0 := by
  refine x_ofW (cc := cX8_isField) (own := RX8) (by decide +kernel) rfl (Nat.le_of_ble_eq_true rfl) ?_
  intro p e s m args below meth c C hml hr hlocks hin ht H locs ls hR hS hl
  exact t_X8_isField_b0 C hml hr hlocks h H locs ls hR hS (lv_sub (l' := [(0, .ref x0), (1, .int x1)]) hl [0, 1] rfl)
def w_X8_gate_b68 (x3 : Int32) (y0 : Int32) (y1 : Int32) (y2 : Nat) (S : sT)  (Q : Int32 → sT → Prop) : Prop :=
s_K S y2 = 11 ∧
    vp_in y1 (s_N S y2) ∧
    ∀ S102 : sT, S102 = s_sB S y2 (Int32.toNatClampNeg y1) y0 →
    (x3 = 0 ∨ x3 = 1) ∧
    Q x3 S102
def w_X8_gate_b47 (x0 : Nat) (x1 : Int32) (x2 : Int32) (y0 : Int32) (S : sT)  (Q : Int32 → sT → Prop) : Prop :=
s_K S x0 = 10 ∧
    ∃ a101 : Nat, s_R S 289 x0 = some a101 ∧
    s_K S a101 = 9 ∧
    ∃ a102 : Nat, s_R S 257 a101 = some a102 ∧
    s_K S a102 = 13 ∧
    vp_in x1 (s_N S a102) ∧
    ∃ a104 : Nat, s_P S a102 (Int32.toNatClampNeg x1) = some a104 ∧
    ((x2 = 0 → w_X8_gate_b68 y0 (0 : Int32) (12 : Int32) a104 S  Q) ∧
    (¬ x2 = 0 → w_X8_gate_b68 y0 (1 : Int32) (12 : Int32) a104 S  Q))
def w_X8_gate_b14 (x0 : Nat) (x1 : Int32) (x2 : Int32) (y0 : Int32) (y1 : Nat) (S : sT)  (Q : Int32 → sT → Prop) : Prop :=
s_K S y1 = 10 ∧
    ∀ S101 : sT, S101 = s_sI S 288 y1 y0 →
    s_K S101 x0 = 10 ∧
    ∀ x102 : Int32, x102 = s_I S101 288 x0 →
    ((x102 ≤ 0 → ∃ a104 : Nat, s_R S101 289 x0 = some a104 ∧
    s_K S101 a104 = 9 ∧
    ∃ a105 : Nat, s_R S101 257 a104 = some a105 ∧
    s_K S101 a105 = 13 ∧
    vp_in x1 (s_N S101 a105) ∧
    ∃ a107 : Nat, s_P S101 a105 (Int32.toNatClampNeg x1) = some a107 ∧
    s_K S101 a107 = 11 ∧
    vp_in (12 : Int32) (s_N S101 a107) ∧
    ∀ x109 : Int32, x109 = s_B S101 a107 (Int32.toNatClampNeg (12 : Int32)) →
    ((¬ x109 = (1 : Int32) → w_X8_gate_b47 x0 x1 x2 (0 : Int32) S101  Q) ∧
    (x109 = (1 : Int32) → w_X8_gate_b47 x0 x1 x2 (1 : Int32) S101  Q))) ∧
    (¬ x102 ≤ 0 → Q (0 : Int32) S101))
def w_X8_gate_b0 (x0 : Nat) (x1 : Int32) (x2 : Int32) (S : sT)  (Q : Int32 → sT → Prop) : Prop :=
s_K S x0 = 10 ∧
    w_X8_isField x0 x1 S (fun x102 S101 =>
    ((x102 = 0 → w_X8_gate_b14 x0 x1 x2 (1 : Int32) x0 S101  Q) ∧
    (¬ x102 = 0 → w_X8_gate_b14 x0 x1 x2 (0 : Int32) x0 S101  Q)))
def w_X8_gate (x0 : Nat) (x1 : Int32) (x2 : Int32) (S : sT) (Q : Int32 → sT → Prop) : Prop := w_X8_gate_b0 x0 x1 x2 S Q
def r_X8_gate : Room := x_rm 2 43 0 0
theorem b_X8_gate : x_BV yX8_gate cX8_gate 4 (some .boolean) 2 := ⟨q_13_6, q_13_4, q_13_5, q_1_5, by decide +kernel⟩
set_option maxHeartbeats 4000000 in
theorem t_X8_gate_b68 {Q : Int32 → sT → Prop} (C : x_C p s m args c cX8_gate RX8 gg) (hml : c.maxLocals = 4) (hr : meth.sig.returnType = (some .boolean)) (hlocks : meth.locks = false) {x3 : Int32} {y0 : Int32} {y1 : Int32} {y2 : Nat}  {S : sT}  (h : w_X8_gate_b68 x3 y0 y1 y2 S  Q) : x_X p l e r_X8_gate s m args below meth c gg 4 0 0 (MQ below (va_Qi Q (fun S1 t => s_Rep gg S1 t.heap) (s_A gg)) args s 0 0 (s_A gg)) 68 [(3, .int x3)] [.int y0, .int y1, .ref y2] S := by
  unfold w_X8_gate_b68 at h
  obtain ⟨hx, hb, -⟩ := id C
  intro H locs ls hR hS hl
  obtain ⟨hK_y2, h⟩ := h
  obtain ⟨hi101, h⟩ := h
  refine x_iast C hR hK_y2 hS hi101 dX8_gate_68 (fun H locs hR hS => ?_)
  obtain ⟨S102, eS102⟩ : ∃ z : sT, z = s_sB S y2 (Int32.toNatClampNeg y1) y0 := ⟨_, rfl⟩
  rw [← eS102] at hR
  replace h := h S102 eS102
  have hK_y2 : s_K S102 y2 = 11 := by rw [eS102]; exact hK_y2
  refine lv_iload_n hx hb dX8_gate_69 rfl (lv_at hl 0 rfl) ?_
  obtain ⟨hz103, h⟩ := h
  exact W.zret (v := x3) hx hb hr (zb_n hz103) (fun t ht hW => ⟨⟨x3, S102, rfl, h, x_rt ht hR⟩, hS.F ht⟩) hS.2.2 dX8_gate_70
set_option maxHeartbeats 4000000 in
theorem t_X8_gate_b47 {Q : Int32 → sT → Prop} (C : x_C p s m args c cX8_gate RX8 gg) (hml : c.maxLocals = 4) (hr : meth.sig.returnType = (some .boolean)) (hlocks : meth.locks = false) {x0 : Nat} {x1 : Int32} {x2 : Int32} {y0 : Int32}  {S : sT}  (h : w_X8_gate_b47 x0 x1 x2 y0 S  Q) : x_X p l e r_X8_gate s m args below meth c gg 4 0 0 (MQ below (va_Qi Q (fun S1 t => s_Rep gg S1 t.heap) (s_A gg)) args s 0 0 (s_A gg)) 47 [(0, .ref x0), (1, .int x1), (2, .int x2)] [.int y0] S := by
  unfold w_X8_gate_b47 at h
  obtain ⟨hx, hb, -⟩ := id C
  intro H locs ls hR hS hl
  refine lv_istore_n (lv' := [(3, .int y0), (0, .ref x0), (1, .int x1), (2, .int x2)]) hx hb dX8_gate_47 rfl hl (by decide) rfl (fun ls hl => ?_)
  refine lv_aload_n hx hb dX8_gate_48 rfl (lv_at hl 1 rfl) ?_
  obtain ⟨hK_x0, h⟩ := h
  refine x_g_289 C hR hK_x0 q_3_8 dX8_gate_49 ?_
  obtain ⟨a101, ea101, h⟩ := h
  refine x_some ea101 ?_
  obtain ⟨hK_a101, h⟩ := h
  refine x_gN_257 C hR hK_a101 (xn_1 C) dX8_gate_52 ?_
  obtain ⟨a102, ea102, h⟩ := h
  refine x_some ea102 ?_
  refine lv_iload_n hx hb dX8_gate_55 rfl (lv_at hl 2 rfl) ?_
  obtain ⟨hK_a102, h⟩ := h
  obtain ⟨hi103, a104, ea104, h⟩ := h
  refine x_aald13 C hR hK_a102 hi103 dX8_gate_56 ?_
  refine x_some ea104 ?_
  refine lv_bipush (v := 12) hx hb dX8_gate_57 (by decide) ?_
  refine lv_iload_n hx hb dX8_gate_59 rfl (lv_at hl 3 rfl) ?_
  refine lv_if_eq (tgt := 67) hx hb dX8_gate_60 (by decide) (fun hc105 => ?_) (fun hc105 => ?_)
  · replace h := h.1 hc105
    refine lv_iconst (v := 0) hx hb dX8_gate_67 (by decide) ?_
    exact t_X8_gate_b68 C hml hr hlocks  h H locs ls hR hS (lv_sub (l' := [(3, .int y0)]) hl [0] rfl)
  · replace h := h.2 hc105
    refine lv_iconst (v := 1) hx hb dX8_gate_63 (by decide) ?_
    refine lv_goto (tgt := 68) hx hb dX8_gate_64 (by decide) ?_
    exact t_X8_gate_b68 C hml hr hlocks  h H locs ls hR hS (lv_sub (l' := [(3, .int y0)]) hl [0] rfl)
set_option maxHeartbeats 4000000 in
theorem t_X8_gate_b14 {Q : Int32 → sT → Prop} (C : x_C p s m args c cX8_gate RX8 gg) (hml : c.maxLocals = 4) (hr : meth.sig.returnType = (some .boolean)) (hlocks : meth.locks = false) {x0 : Nat} {x1 : Int32} {x2 : Int32} {y0 : Int32} {y1 : Nat}  {S : sT}  (h : w_X8_gate_b14 x0 x1 x2 y0 y1 S  Q) : x_X p l e r_X8_gate s m args below meth c gg 4 0 0 (MQ below (va_Qi Q (fun S1 t => s_Rep gg S1 t.heap) (s_A gg)) args s 0 0 (s_A gg)) 14 [(0, .ref x0), (1, .int x1), (2, .int x2)] [.int y0, .ref y1] S := by
  unfold w_X8_gate_b14 at h
  obtain ⟨hx, hb, -⟩ := id C
  intro H locs ls hR hS hl
  obtain ⟨hK_y1, h⟩ := h
  refine x_p_288 (v := y0) C hR hK_y1 hS q_8_1 dX8_gate_14 (fun H locs hR hS => ?_)
  obtain ⟨S101, eS101⟩ : ∃ z : sT, z = s_sI S 288 y1 y0 := ⟨_, rfl⟩
  rw [← eS101] at hR
  replace h := h S101 eS101
  have hK_y1 : s_K S101 y1 = 10 := by rw [eS101]; exact hK_y1
  refine lv_aload_n hx hb dX8_gate_17 rfl (lv_at hl 0 rfl) ?_
  obtain ⟨hK_x0, h⟩ := h
  refine x_g_288 C hR hK_x0 q_8_1 dX8_gate_18 ?_
  refine lv_topi (fun x102 ex102 => ?_)
  replace h := h x102 ex102
  refine lv_if_le (tgt := 26) hx hb dX8_gate_21 (by decide) (fun hc103 => ?_) (fun hc103 => ?_)
  · replace h := h.1 hc103
    refine lv_aload_n hx hb dX8_gate_26 rfl (lv_at hl 0 rfl) ?_
    refine x_g_289 C hR hK_x0 q_3_8 dX8_gate_27 ?_
    obtain ⟨a104, ea104, h⟩ := h
    refine x_some ea104 ?_
    obtain ⟨hK_a104, h⟩ := h
    refine x_gN_257 C hR hK_a104 (xn_1 C) dX8_gate_30 ?_
    obtain ⟨a105, ea105, h⟩ := h
    refine x_some ea105 ?_
    refine lv_iload_n hx hb dX8_gate_33 rfl (lv_at hl 1 rfl) ?_
    obtain ⟨hK_a105, h⟩ := h
    obtain ⟨hi106, a107, ea107, h⟩ := h
    refine x_aald13 C hR hK_a105 hi106 dX8_gate_34 ?_
    refine x_some ea107 ?_
    refine lv_bipush (v := 12) hx hb dX8_gate_35 (by decide) ?_
    obtain ⟨hK_a107, h⟩ := h
    obtain ⟨hi108, h⟩ := h
    refine x_iald C hR hK_a107 hi108 dX8_gate_37 ?_
    refine lv_topi (fun x109 ex109 => ?_)
    replace h := h x109 ex109
    refine lv_iconst (v := 1) hx hb dX8_gate_38 (by decide) ?_
    refine lv_icmp_ne (tgt := 46) hx hb dX8_gate_39 (by decide) (fun hc110 => ?_) (fun hc110 => ?_)
    · replace h := h.1 hc110
      refine lv_iconst (v := 0) hx hb dX8_gate_46 (by decide) ?_
      exact t_X8_gate_b47 C hml hr hlocks  h H locs ls hR hS (lv_sub (l' := [(0, .ref x0), (1, .int x1), (2, .int x2)]) hl [0, 1, 2] rfl)
    · replace h := h.2 hc110
      refine lv_iconst (v := 1) hx hb dX8_gate_42 (by decide) ?_
      refine lv_goto (tgt := 47) hx hb dX8_gate_43 (by decide) ?_
      exact t_X8_gate_b47 C hml hr hlocks  h H locs ls hR hS (lv_sub (l' := [(0, .ref x0), (1, .int x1), (2, .int x2)]) hl [0, 1, 2] rfl)
  · replace h := h.2 hc103
    refine lv_iconst (v := 0) hx hb dX8_gate_24 (by decide) ?_
    exact W.zret (v := (0 : Int32)) hx hb hr (by decide) (fun t ht hW => ⟨⟨(0 : Int32), S101, rfl, h, x_rt ht hR⟩, hS.F ht⟩) hS.2.2 dX8_gate_25
set_option maxHeartbeats 4000000 in
theorem t_X8_gate_b0 {Q : Int32 → sT → Prop} (C : x_C p s m args c cX8_gate RX8 gg) (hml : c.maxLocals = 4) (hr : meth.sig.returnType = (some .boolean)) (hlocks : meth.locks = false) {x0 : Nat} {x1 : Int32} {x2 : Int32}  {S : sT}  (h : w_X8_gate_b0 x0 x1 x2 S  Q) : x_X p l e r_X8_gate s m args below meth c gg 4 0 0 (MQ below (va_Qi Q (fun S1 t => s_Rep gg S1 t.heap) (s_A gg)) args s 0 0 (s_A gg)) 0 [(0, .ref x0), (1, .int x1), (2, .int x2)] [] S := by
  unfold w_X8_gate_b0 at h
  obtain ⟨hx, hb, -⟩ := id C
  intro H locs ls hR hS hl
  refine lv_aload_n hx hb dX8_gate_0 rfl (lv_at hl 0 rfl) ?_
  refine lv_aload_n hx hb dX8_gate_1 rfl (lv_at hl 0 rfl) ?_
  refine lv_iload_n hx hb dX8_gate_2 rfl (lv_at hl 1 rfl) ?_
  obtain ⟨hK_x0, h⟩ := h
  refine x_ki (x_runV (As := [.int x1]) (rest := [.ref x0]) C hml hR hS (m_X8_isField l gg x0 x1 S h) b_X8_isField q_13_7 (by rw [hK_x0]; decide) (s_E_9 hK_x0) rfl rfl rfl rfl ⟨Nat.le_of_ble_eq_true rfl, Nat.le_of_ble_eq_true rfl⟩ rfl hl.1 (Nat.le_of_ble_eq_true rfl) dX8_gate_3 ⟨Nat.le_refl _, Nat.le_refl _⟩) hS (fun x102 S101 H locs hn hR hS => ?_)
  replace h := hn
  clear hn
  refine lv_if_eq (tgt := 13) hx hb dX8_gate_6 (by decide) (fun hc103 => ?_) (fun hc103 => ?_)
  · replace h := h.1 hc103
    refine lv_iconst (v := 1) hx hb dX8_gate_13 (by decide) ?_
    exact t_X8_gate_b14 C hml hr hlocks  h H locs ls hR hS (lv_sub (l' := [(0, .ref x0), (1, .int x1), (2, .int x2)]) hl [0, 1, 2] rfl)
  · replace h := h.2 hc103
    refine lv_iconst (v := 0) hx hb dX8_gate_9 (by decide) ?_
    refine lv_goto (tgt := 14) hx hb dX8_gate_10 (by decide) ?_
    exact t_X8_gate_b14 C hml hr hlocks  h H locs ls hR hS (lv_sub (l' := [(0, .ref x0), (1, .int x1), (2, .int x2)]) hl [0, 1, 2] rfl)
theorem m_X8_gate (l : Launch) (gg : sG) (x0 : Nat) (x1 : Int32) (x2 : Int32) (S : sT) {Q : Int32 → sT → Prop} (h : w_X8_gate x0 x1 x2 S Q) : x_Mi l gg yX8_gate (x_ws yX8_gate cX8_gate 4 (some .boolean)) r_X8_gate [.ref x0, .int x1, .int x2] S Q 0 0 := by
  refine x_ofW (cc := cX8_gate) (own := RX8) (by decide +kernel) rfl (Nat.le_of_ble_eq_true rfl) ?_
  intro p e s m args below meth c C hml hr hlocks hin ht H locs ls hR hS hl
  exact t_X8_gate_b0 C hml hr hlocks h H locs ls hR hS (lv_sub (l' := [(0, .ref x0), (1, .int x1), (2, .int x2)]) hl [0, 1, 2] rfl)
def w_X8_refuse_b0 (x0 : Nat) (x1 : Int32) (S : sT)  (Q : Int32 → sT → Prop) : Prop :=
s_K S x0 = 10 ∧
    ∀ S101 : sT, S101 = s_sI S 288 x0 x1 →
    Q (0 : Int32) S101
def w_X8_refuse (x0 : Nat) (x1 : Int32) (S : sT) (Q : Int32 → sT → Prop) : Prop := w_X8_refuse_b0 x0 x1 S Q
def r_X8_refuse : Room := x_rm 0 0 0 0
theorem b_X8_refuse : x_BV yX8_refuse cX8_refuse 2 (some .int) 1 := ⟨q_8_8, q_8_6, q_8_7, q_1_5, by decide +kernel⟩
set_option maxHeartbeats 4000000 in
theorem t_X8_refuse_b0 {Q : Int32 → sT → Prop} (C : x_C p s m args c cX8_refuse RX8 gg) (hml : c.maxLocals = 2) (hr : meth.sig.returnType = (some .int)) (hlocks : meth.locks = false) {x0 : Nat} {x1 : Int32}  {S : sT}  (h : w_X8_refuse_b0 x0 x1 S  Q) : x_X p l e r_X8_refuse s m args below meth c gg 2 0 0 (MQ below (va_Qi Q (fun S1 t => s_Rep gg S1 t.heap) (s_A gg)) args s 0 0 (s_A gg)) 0 [(0, .ref x0), (1, .int x1)] [] S := by
  unfold w_X8_refuse_b0 at h
  obtain ⟨hx, hb, -⟩ := id C
  intro H locs ls hR hS hl
  refine lv_aload_n hx hb dX8_refuse_0 rfl (lv_at hl 0 rfl) ?_
  refine lv_iload_n hx hb dX8_refuse_1 rfl (lv_at hl 1 rfl) ?_
  obtain ⟨hK_x0, h⟩ := h
  refine x_p_288 (v := x1) C hR hK_x0 hS q_8_1 dX8_refuse_2 (fun H locs hR hS => ?_)
  obtain ⟨S101, eS101⟩ : ∃ z : sT, z = s_sI S 288 x0 x1 := ⟨_, rfl⟩
  rw [← eS101] at hR
  replace h := h S101 eS101
  have hK_x0 : s_K S101 x0 = 10 := by rw [eS101]; exact hK_x0
  refine lv_iconst (v := 0) hx hb dX8_refuse_5 (by decide) ?_
  exact W.iret (v := (0 : Int32)) hx hb hr (fun t ht hW => ⟨⟨(0 : Int32), S101, rfl, h, x_rt ht hR⟩, hS.F ht⟩) hS.2.2 dX8_refuse_6
theorem m_X8_refuse (l : Launch) (gg : sG) (x0 : Nat) (x1 : Int32) (S : sT) {Q : Int32 → sT → Prop} (h : w_X8_refuse x0 x1 S Q) : x_Mi l gg yX8_refuse (x_ws yX8_refuse cX8_refuse 2 (some .int)) r_X8_refuse [.ref x0, .int x1] S Q 0 0 := by
  refine x_ofW (cc := cX8_refuse) (own := RX8) (by decide +kernel) rfl (Nat.le_of_ble_eq_true rfl) ?_
  intro p e s m args below meth c C hml hr hlocks hin ht H locs ls hR hS hl
  exact t_X8_refuse_b0 C hml hr hlocks h H locs ls hR hS (lv_sub (l' := [(0, .ref x0), (1, .int x1)]) hl [0, 1] rfl)
def w_X8_stones_b0 (x0 : Nat) (x1 : Int32) (x2 : Int32) (S : sT)  (Q : Int32 → sT → Prop) : Prop :=
s_K S x0 = 10 ∧
    ∀ S101 : sT, S101 = s_sI S 288 x0 (0 : Int32) →
    w_X8_isField x0 x1 S101 (fun x103 S102 =>
    ((¬ x103 = 0 → w_X8_is x2 (0 : Int32) (5 : Int32) S102 (fun x106 S105 =>
    ((¬ x106 = 0 → s_K S105 x0 = 10 ∧
    ∃ a108 : Nat, s_R S105 289 x0 = some a108 ∧
    s_K S105 a108 = 9 ∧
    ∃ a109 : Nat, s_R S105 257 a108 = some a109 ∧
    s_K S105 a109 = 13 ∧
    vp_in x1 (s_N S105 a109) ∧
    ∃ a111 : Nat, s_P S105 a109 (Int32.toNatClampNeg x1) = some a111 ∧
    s_K S105 a111 = 11 ∧
    vp_in (15 : Int32) (s_N S105 a111) ∧
    ∀ x113 : Int32, x113 = s_B S105 a111 (Int32.toNatClampNeg (15 : Int32)) →
    ∃ a114 : Nat, s_R S105 289 x0 = some a114 ∧
    s_K S105 a114 = 9 ∧
    ∃ a115 : Nat, s_R S105 257 a114 = some a115 ∧
    s_K S105 a115 = 13 ∧
    vp_in x1 (s_N S105 a115) ∧
    ∃ a117 : Nat, s_P S105 a115 (Int32.toNatClampNeg x1) = some a117 ∧
    s_K S105 a117 = 11 ∧
    vp_in (15 : Int32) (s_N S105 a117) ∧
    ∀ S119 : sT, S119 = s_sB S105 a117 (Int32.toNatClampNeg (15 : Int32)) x2 →
    Q x113 S119) ∧
    (x106 = 0 → s_K S105 x0 = 10 ∧
    w_X8_refuse x0 (2 : Int32) S105 (fun x121 S120 =>
    Q x121 S120))))) ∧
    (x103 = 0 → s_K S102 x0 = 10 ∧
    w_X8_refuse x0 (1 : Int32) S102 (fun x123 S122 =>
    Q x123 S122))))
def w_X8_stones (x0 : Nat) (x1 : Int32) (x2 : Int32) (S : sT) (Q : Int32 → sT → Prop) : Prop := w_X8_stones_b0 x0 x1 x2 S Q
def r_X8_stones : Room := x_rm 2 43 0 0
theorem b_X8_stones : x_BV yX8_stones cX8_stones 4 (some .int) 2 := ⟨q_13_22, q_13_20, q_13_21, q_1_5, by decide +kernel⟩
set_option maxHeartbeats 4000000 in
theorem t_X8_stones_b0 {Q : Int32 → sT → Prop} (C : x_C p s m args c cX8_stones RX8 gg) (hml : c.maxLocals = 4) (hr : meth.sig.returnType = (some .int)) (hlocks : meth.locks = false) {x0 : Nat} {x1 : Int32} {x2 : Int32}  {S : sT}  (h : w_X8_stones_b0 x0 x1 x2 S  Q) : x_X p l e r_X8_stones s m args below meth c gg 4 0 0 (MQ below (va_Qi Q (fun S1 t => s_Rep gg S1 t.heap) (s_A gg)) args s 0 0 (s_A gg)) 0 [(0, .ref x0), (1, .int x1), (2, .int x2)] [] S := by
  unfold w_X8_stones_b0 at h
  obtain ⟨hx, hb, -⟩ := id C
  intro H locs ls hR hS hl
  refine lv_aload_n hx hb dX8_stones_0 rfl (lv_at hl 0 rfl) ?_
  refine lv_iconst (v := 0) hx hb dX8_stones_1 (by decide) ?_
  obtain ⟨hK_x0, h⟩ := h
  refine x_p_288 (v := (0 : Int32)) C hR hK_x0 hS q_8_1 dX8_stones_2 (fun H locs hR hS => ?_)
  obtain ⟨S101, eS101⟩ : ∃ z : sT, z = s_sI S 288 x0 (0 : Int32) := ⟨_, rfl⟩
  rw [← eS101] at hR
  replace h := h S101 eS101
  have hK_x0 : s_K S101 x0 = 10 := by rw [eS101]; exact hK_x0
  refine lv_aload_n hx hb dX8_stones_5 rfl (lv_at hl 0 rfl) ?_
  refine lv_iload_n hx hb dX8_stones_6 rfl (lv_at hl 1 rfl) ?_
  refine x_ki (x_runV (As := [.int x1]) (rest := []) C hml hR hS (m_X8_isField l gg x0 x1 S101 h) b_X8_isField q_13_7 (by rw [hK_x0]; decide) (s_E_9 hK_x0) rfl rfl rfl rfl ⟨Nat.le_of_ble_eq_true rfl, Nat.le_of_ble_eq_true rfl⟩ rfl hl.1 (Nat.le_of_ble_eq_true rfl) dX8_stones_7 ⟨Nat.le_refl _, Nat.le_refl _⟩) hS (fun x103 S102 H locs hn hR hS => ?_)
  replace h := hn
  clear hn
  refine lv_if_ne (tgt := 19) hx hb dX8_stones_10 (by decide) (fun hc104 => ?_) (fun hc104 => ?_)
  · replace h := h.1 hc104
    refine lv_iload_n hx hb dX8_stones_19 rfl (lv_at hl 2 rfl) ?_
    refine lv_iconst (v := 0) hx hb dX8_stones_20 (by decide) ?_
    refine lv_iconst (v := 5) hx hb dX8_stones_21 (by decide) ?_
    refine x_ki (x_runS (As := [.int x2, .int (0 : Int32), .int (5 : Int32)]) (rest := []) C hml hR hS (m_X8_is l gg x2 (0 : Int32) (5 : Int32) S102 h) b_X8_is q_8_2 rfl rfl ⟨Nat.le_of_ble_eq_true rfl, Nat.le_of_ble_eq_true rfl⟩ rfl hl.1 (Nat.le_of_ble_eq_true rfl) dX8_stones_22 ⟨Nat.le_refl _, Nat.le_refl _⟩) hS (fun x106 S105 H locs hn hR hS => ?_)
    replace h := hn
    clear hn
    refine lv_if_ne (tgt := 34) hx hb dX8_stones_25 (by decide) (fun hc107 => ?_) (fun hc107 => ?_)
    · replace h := h.1 hc107
      refine lv_aload_n hx hb dX8_stones_34 rfl (lv_at hl 0 rfl) ?_
      obtain ⟨hK_x0, h⟩ := h
      refine x_g_289 C hR hK_x0 q_3_8 dX8_stones_35 ?_
      obtain ⟨a108, ea108, h⟩ := h
      refine x_some ea108 ?_
      obtain ⟨hK_a108, h⟩ := h
      refine x_gN_257 C hR hK_a108 (xn_1 C) dX8_stones_38 ?_
      obtain ⟨a109, ea109, h⟩ := h
      refine x_some ea109 ?_
      refine lv_iload_n hx hb dX8_stones_41 rfl (lv_at hl 1 rfl) ?_
      obtain ⟨hK_a109, h⟩ := h
      obtain ⟨hi110, a111, ea111, h⟩ := h
      refine x_aald13 C hR hK_a109 hi110 dX8_stones_42 ?_
      refine x_some ea111 ?_
      refine lv_bipush (v := 15) hx hb dX8_stones_43 (by decide) ?_
      obtain ⟨hK_a111, h⟩ := h
      obtain ⟨hi112, h⟩ := h
      refine x_iald C hR hK_a111 hi112 dX8_stones_45 ?_
      refine lv_topi (fun x113 ex113 => ?_)
      replace h := h x113 ex113
      refine lv_istore_n (lv' := [(3, .int x113), (0, .ref x0), (1, .int x1), (2, .int x2)]) hx hb dX8_stones_46 rfl hl (by decide) rfl (fun ls hl => ?_)
      refine lv_aload_n hx hb dX8_stones_47 rfl (lv_at hl 1 rfl) ?_
      refine x_g_289 C hR hK_x0 q_3_8 dX8_stones_48 ?_
      obtain ⟨a114, ea114, h⟩ := h
      refine x_some ea114 ?_
      obtain ⟨hK_a114, h⟩ := h
      refine x_gN_257 C hR hK_a114 (xn_1 C) dX8_stones_51 ?_
      obtain ⟨a115, ea115, h⟩ := h
      refine x_some ea115 ?_
      refine lv_iload_n hx hb dX8_stones_54 rfl (lv_at hl 2 rfl) ?_
      obtain ⟨hK_a115, h⟩ := h
      obtain ⟨hi116, a117, ea117, h⟩ := h
      refine x_aald13 C hR hK_a115 hi116 dX8_stones_55 ?_
      refine x_some ea117 ?_
      refine lv_bipush (v := 15) hx hb dX8_stones_56 (by decide) ?_
      refine lv_iload_n hx hb dX8_stones_58 rfl (lv_at hl 3 rfl) ?_
      obtain ⟨hK_a117, h⟩ := h
      obtain ⟨hi118, h⟩ := h
      refine x_iast C hR hK_a117 hS hi118 dX8_stones_59 (fun H locs hR hS => ?_)
      obtain ⟨S119, eS119⟩ : ∃ z : sT, z = s_sB S105 a117 (Int32.toNatClampNeg (15 : Int32)) x2 := ⟨_, rfl⟩
      rw [← eS119] at hR
      replace h := h S119 eS119
      have hK_x0 : s_K S119 x0 = 10 := by rw [eS119]; exact hK_x0
      have hK_a108 : s_K S119 a108 = 9 := by rw [eS119]; exact hK_a108
      have hK_a109 : s_K S119 a109 = 13 := by rw [eS119]; exact hK_a109
      have hK_a111 : s_K S119 a111 = 11 := by rw [eS119]; exact hK_a111
      have hK_a114 : s_K S119 a114 = 9 := by rw [eS119]; exact hK_a114
      have hK_a115 : s_K S119 a115 = 13 := by rw [eS119]; exact hK_a115
      have hK_a117 : s_K S119 a117 = 11 := by rw [eS119]; exact hK_a117
      refine lv_iload_n hx hb dX8_stones_60 rfl (lv_at hl 0 rfl) ?_
      exact W.iret (v := x113) hx hb hr (fun t ht hW => ⟨⟨x113, S119, rfl, h, x_rt ht hR⟩, hS.F ht⟩) hS.2.2 dX8_stones_61
    · replace h := h.2 hc107
      refine lv_aload_n hx hb dX8_stones_28 rfl (lv_at hl 0 rfl) ?_
      refine lv_iconst (v := 2) hx hb dX8_stones_29 (by decide) ?_
      obtain ⟨hK_x0, h⟩ := h
      refine x_ki (x_runV (As := [.int (2 : Int32)]) (rest := []) C hml hR hS (m_X8_refuse l gg x0 (2 : Int32) S105 h) b_X8_refuse q_8_5 (by rw [hK_x0]; decide) (s_E_9 hK_x0) rfl rfl rfl rfl ⟨Nat.le_of_ble_eq_true rfl, Nat.le_of_ble_eq_true rfl⟩ rfl hl.1 (Nat.le_of_ble_eq_true rfl) dX8_stones_30 ⟨Nat.le_refl _, Nat.le_refl _⟩) hS (fun x121 S120 H locs hn hR hS => ?_)
      replace h := hn
      clear hn
      exact W.iret (v := x121) hx hb hr (fun t ht hW => ⟨⟨x121, S120, rfl, h, x_rt ht hR⟩, hS.F ht⟩) hS.2.2 dX8_stones_33
  · replace h := h.2 hc104
    refine lv_aload_n hx hb dX8_stones_13 rfl (lv_at hl 0 rfl) ?_
    refine lv_iconst (v := 1) hx hb dX8_stones_14 (by decide) ?_
    obtain ⟨hK_x0, h⟩ := h
    refine x_ki (x_runV (As := [.int (1 : Int32)]) (rest := []) C hml hR hS (m_X8_refuse l gg x0 (1 : Int32) S102 h) b_X8_refuse q_8_5 (by rw [hK_x0]; decide) (s_E_9 hK_x0) rfl rfl rfl rfl ⟨Nat.le_of_ble_eq_true rfl, Nat.le_of_ble_eq_true rfl⟩ rfl hl.1 (Nat.le_of_ble_eq_true rfl) dX8_stones_15 ⟨Nat.le_refl _, Nat.le_refl _⟩) hS (fun x123 S122 H locs hn hR hS => ?_)
    replace h := hn
    clear hn
    exact W.iret (v := x123) hx hb hr (fun t ht hW => ⟨⟨x123, S122, rfl, h, x_rt ht hR⟩, hS.F ht⟩) hS.2.2 dX8_stones_18
theorem m_X8_stones (l : Launch) (gg : sG) (x0 : Nat) (x1 : Int32) (x2 : Int32) (S : sT) {Q : Int32 → sT → Prop} (h : w_X8_stones x0 x1 x2 S Q) : x_Mi l gg yX8_stones (x_ws yX8_stones cX8_stones 4 (some .int)) r_X8_stones [.ref x0, .int x1, .int x2] S Q 0 0 := by
  refine x_ofW (cc := cX8_stones) (own := RX8) (by decide +kernel) rfl (Nat.le_of_ble_eq_true rfl) ?_
  intro p e s m args below meth c C hml hr hlocks hin ht H locs ls hR hS hl
  exact t_X8_stones_b0 C hml hr hlocks h H locs ls hR hS (lv_sub (l' := [(0, .ref x0), (1, .int x1), (2, .int x2)]) hl [0, 1, 2] rfl)
def w_X8_isSociety_b0 (x0 : Nat) (x1 : Int32) (S : sT)  (Q : Int32 → sT → Prop) : Prop :=
s_K S x0 = 10 ∧
    ∃ a101 : Nat, s_R S 289 x0 = some a101 ∧
    s_K S a101 = 9 ∧
    ∃ a102 : Nat, s_R S 256 a101 = some a102 ∧
    s_K S a102 = 13 ∧
    ∀ x103 : Int32, x103 = nI (s_N S a102) →
    ∀ x104 : Int32, x104 = x103 - (1 : Int32) →
    w_X8_is x1 (0 : Int32) x104 S (fun x106 S105 =>
    (x106 = 0 ∨ x106 = 1) ∧
    Q x106 S105)
def w_X8_isSociety (x0 : Nat) (x1 : Int32) (S : sT) (Q : Int32 → sT → Prop) : Prop := w_X8_isSociety_b0 x0 x1 S Q
def r_X8_isSociety : Room := x_rm 1 22 0 0
theorem b_X8_isSociety : x_BV yX8_isSociety cX8_isSociety 2 (some .boolean) 1 := ⟨q_12_13, q_12_11, q_12_12, q_1_5, by decide +kernel⟩
set_option maxHeartbeats 4000000 in
theorem t_X8_isSociety_b0 {Q : Int32 → sT → Prop} (C : x_C p s m args c cX8_isSociety RX8 gg) (hml : c.maxLocals = 2) (hr : meth.sig.returnType = (some .boolean)) (hlocks : meth.locks = false) {x0 : Nat} {x1 : Int32}  {S : sT}  (h : w_X8_isSociety_b0 x0 x1 S  Q) : x_X p l e r_X8_isSociety s m args below meth c gg 2 0 0 (MQ below (va_Qi Q (fun S1 t => s_Rep gg S1 t.heap) (s_A gg)) args s 0 0 (s_A gg)) 0 [(0, .ref x0), (1, .int x1)] [] S := by
  unfold w_X8_isSociety_b0 at h
  obtain ⟨hx, hb, -⟩ := id C
  intro H locs ls hR hS hl
  refine lv_iload_n hx hb dX8_isSociety_0 rfl (lv_at hl 1 rfl) ?_
  refine lv_iconst (v := 0) hx hb dX8_isSociety_1 (by decide) ?_
  refine lv_aload_n hx hb dX8_isSociety_2 rfl (lv_at hl 0 rfl) ?_
  obtain ⟨hK_x0, h⟩ := h
  refine x_g_289 C hR hK_x0 q_3_8 dX8_isSociety_3 ?_
  obtain ⟨a101, ea101, h⟩ := h
  refine x_some ea101 ?_
  obtain ⟨hK_a101, h⟩ := h
  refine x_gN_256 C hR hK_a101 (xn_2 C) dX8_isSociety_6 ?_
  obtain ⟨a102, ea102, h⟩ := h
  refine x_some ea102 ?_
  obtain ⟨hK_a102, h⟩ := h
  refine x_alen13 C hR hK_a102 dX8_isSociety_9 ?_
  refine lv_topi (fun x103 ex103 => ?_)
  replace h := h x103 ex103
  refine lv_iconst (v := 1) hx hb dX8_isSociety_10 (by decide) ?_
  refine lv_isub hx hb dX8_isSociety_11 ?_
  refine lv_topi (fun x104 ex104 => ?_)
  replace h := h x104 ex104
  refine x_ki (x_runS (As := [.int x1, .int (0 : Int32), .int x104]) (rest := []) C hml hR hS (m_X8_is l gg x1 (0 : Int32) x104 S h) b_X8_is q_8_2 rfl rfl ⟨Nat.le_of_ble_eq_true rfl, Nat.le_of_ble_eq_true rfl⟩ rfl hl.1 (Nat.le_of_ble_eq_true rfl) dX8_isSociety_12 ⟨Nat.le_refl _, Nat.le_refl _⟩) hS (fun x106 S105 H locs hn hR hS => ?_)
  replace h := hn
  clear hn
  obtain ⟨hz107, h⟩ := h
  exact W.zret (v := x106) hx hb hr (zb_n hz107) (fun t ht hW => ⟨⟨x106, S105, rfl, h, x_rt ht hR⟩, hS.F ht⟩) hS.2.2 dX8_isSociety_15
theorem m_X8_isSociety (l : Launch) (gg : sG) (x0 : Nat) (x1 : Int32) (S : sT) {Q : Int32 → sT → Prop} (h : w_X8_isSociety x0 x1 S Q) : x_Mi l gg yX8_isSociety (x_ws yX8_isSociety cX8_isSociety 2 (some .boolean)) r_X8_isSociety [.ref x0, .int x1] S Q 0 0 := by
  refine x_ofW (cc := cX8_isSociety) (own := RX8) (by decide +kernel) rfl (Nat.le_of_ble_eq_true rfl) ?_
  intro p e s m args below meth c C hml hr hlocks hin ht H locs ls hR hS hl
  exact t_X8_isSociety_b0 C hml hr hlocks h H locs ls hR hS (lv_sub (l' := [(0, .ref x0), (1, .int x1)]) hl [0, 1] rfl)
def w_X8_rotate_b68 (x3 : Int32) (y0 : Int32) (y1 : Int32) (y2 : Nat) (S : sT)  (Q : Int32 → sT → Prop) : Prop :=
s_K S y2 = 11 ∧
    vp_in y1 (s_N S y2) ∧
    ∀ S102 : sT, S102 = s_sB S y2 (Int32.toNatClampNeg y1) y0 →
    (x3 = 0 ∨ x3 = 1) ∧
    Q x3 S102
def w_X8_rotate_b47 (x0 : Nat) (x1 : Int32) (x2 : Int32) (y0 : Int32) (S : sT)  (Q : Int32 → sT → Prop) : Prop :=
s_K S x0 = 10 ∧
    ∃ a101 : Nat, s_R S 289 x0 = some a101 ∧
    s_K S a101 = 9 ∧
    ∃ a102 : Nat, s_R S 256 a101 = some a102 ∧
    s_K S a102 = 13 ∧
    vp_in x1 (s_N S a102) ∧
    ∃ a104 : Nat, s_P S a102 (Int32.toNatClampNeg x1) = some a104 ∧
    ((x2 = 0 → w_X8_rotate_b68 y0 (0 : Int32) (6 : Int32) a104 S  Q) ∧
    (¬ x2 = 0 → w_X8_rotate_b68 y0 (1 : Int32) (6 : Int32) a104 S  Q))
def w_X8_rotate_b14 (x0 : Nat) (x1 : Int32) (x2 : Int32) (y0 : Int32) (y1 : Nat) (S : sT)  (Q : Int32 → sT → Prop) : Prop :=
s_K S y1 = 10 ∧
    ∀ S101 : sT, S101 = s_sI S 288 y1 y0 →
    s_K S101 x0 = 10 ∧
    ∀ x102 : Int32, x102 = s_I S101 288 x0 →
    ((x102 ≤ 0 → ∃ a104 : Nat, s_R S101 289 x0 = some a104 ∧
    s_K S101 a104 = 9 ∧
    ∃ a105 : Nat, s_R S101 256 a104 = some a105 ∧
    s_K S101 a105 = 13 ∧
    vp_in x1 (s_N S101 a105) ∧
    ∃ a107 : Nat, s_P S101 a105 (Int32.toNatClampNeg x1) = some a107 ∧
    s_K S101 a107 = 11 ∧
    vp_in (6 : Int32) (s_N S101 a107) ∧
    ∀ x109 : Int32, x109 = s_B S101 a107 (Int32.toNatClampNeg (6 : Int32)) →
    ((¬ x109 = (1 : Int32) → w_X8_rotate_b47 x0 x1 x2 (0 : Int32) S101  Q) ∧
    (x109 = (1 : Int32) → w_X8_rotate_b47 x0 x1 x2 (1 : Int32) S101  Q))) ∧
    (¬ x102 ≤ 0 → Q (0 : Int32) S101))
def w_X8_rotate_b0 (x0 : Nat) (x1 : Int32) (x2 : Int32) (S : sT)  (Q : Int32 → sT → Prop) : Prop :=
s_K S x0 = 10 ∧
    w_X8_isSociety x0 x1 S (fun x102 S101 =>
    ((x102 = 0 → w_X8_rotate_b14 x0 x1 x2 (1 : Int32) x0 S101  Q) ∧
    (¬ x102 = 0 → w_X8_rotate_b14 x0 x1 x2 (0 : Int32) x0 S101  Q)))
def w_X8_rotate (x0 : Nat) (x1 : Int32) (x2 : Int32) (S : sT) (Q : Int32 → sT → Prop) : Prop := w_X8_rotate_b0 x0 x1 x2 S Q
def r_X8_rotate : Room := x_rm 2 43 0 0
theorem b_X8_rotate : x_BV yX8_rotate cX8_rotate 4 (some .boolean) 2 := ⟨q_14_10, q_14_8, q_14_9, q_1_5, by decide +kernel⟩
set_option maxHeartbeats 4000000 in
theorem t_X8_rotate_b68 {Q : Int32 → sT → Prop} (C : x_C p s m args c cX8_rotate RX8 gg) (hml : c.maxLocals = 4) (hr : meth.sig.returnType = (some .boolean)) (hlocks : meth.locks = false) {x3 : Int32} {y0 : Int32} {y1 : Int32} {y2 : Nat}  {S : sT}  (h : w_X8_rotate_b68 x3 y0 y1 y2 S  Q) : x_X p l e r_X8_rotate s m args below meth c gg 4 0 0 (MQ below (va_Qi Q (fun S1 t => s_Rep gg S1 t.heap) (s_A gg)) args s 0 0 (s_A gg)) 68 [(3, .int x3)] [.int y0, .int y1, .ref y2] S := by
  unfold w_X8_rotate_b68 at h
  obtain ⟨hx, hb, -⟩ := id C
  intro H locs ls hR hS hl
  obtain ⟨hK_y2, h⟩ := h
  obtain ⟨hi101, h⟩ := h
  refine x_iast C hR hK_y2 hS hi101 dX8_rotate_68 (fun H locs hR hS => ?_)
  obtain ⟨S102, eS102⟩ : ∃ z : sT, z = s_sB S y2 (Int32.toNatClampNeg y1) y0 := ⟨_, rfl⟩
  rw [← eS102] at hR
  replace h := h S102 eS102
  have hK_y2 : s_K S102 y2 = 11 := by rw [eS102]; exact hK_y2
  refine lv_iload_n hx hb dX8_rotate_69 rfl (lv_at hl 0 rfl) ?_
  obtain ⟨hz103, h⟩ := h
  exact W.zret (v := x3) hx hb hr (zb_n hz103) (fun t ht hW => ⟨⟨x3, S102, rfl, h, x_rt ht hR⟩, hS.F ht⟩) hS.2.2 dX8_rotate_70
set_option maxHeartbeats 4000000 in
theorem t_X8_rotate_b47 {Q : Int32 → sT → Prop} (C : x_C p s m args c cX8_rotate RX8 gg) (hml : c.maxLocals = 4) (hr : meth.sig.returnType = (some .boolean)) (hlocks : meth.locks = false) {x0 : Nat} {x1 : Int32} {x2 : Int32} {y0 : Int32}  {S : sT}  (h : w_X8_rotate_b47 x0 x1 x2 y0 S  Q) : x_X p l e r_X8_rotate s m args below meth c gg 4 0 0 (MQ below (va_Qi Q (fun S1 t => s_Rep gg S1 t.heap) (s_A gg)) args s 0 0 (s_A gg)) 47 [(0, .ref x0), (1, .int x1), (2, .int x2)] [.int y0] S := by
  unfold w_X8_rotate_b47 at h
  obtain ⟨hx, hb, -⟩ := id C
  intro H locs ls hR hS hl
  refine lv_istore_n (lv' := [(3, .int y0), (0, .ref x0), (1, .int x1), (2, .int x2)]) hx hb dX8_rotate_47 rfl hl (by decide) rfl (fun ls hl => ?_)
  refine lv_aload_n hx hb dX8_rotate_48 rfl (lv_at hl 1 rfl) ?_
  obtain ⟨hK_x0, h⟩ := h
  refine x_g_289 C hR hK_x0 q_3_8 dX8_rotate_49 ?_
  obtain ⟨a101, ea101, h⟩ := h
  refine x_some ea101 ?_
  obtain ⟨hK_a101, h⟩ := h
  refine x_gN_256 C hR hK_a101 (xn_2 C) dX8_rotate_52 ?_
  obtain ⟨a102, ea102, h⟩ := h
  refine x_some ea102 ?_
  refine lv_iload_n hx hb dX8_rotate_55 rfl (lv_at hl 2 rfl) ?_
  obtain ⟨hK_a102, h⟩ := h
  obtain ⟨hi103, a104, ea104, h⟩ := h
  refine x_aald13 C hR hK_a102 hi103 dX8_rotate_56 ?_
  refine x_some ea104 ?_
  refine lv_bipush (v := 6) hx hb dX8_rotate_57 (by decide) ?_
  refine lv_iload_n hx hb dX8_rotate_59 rfl (lv_at hl 3 rfl) ?_
  refine lv_if_eq (tgt := 67) hx hb dX8_rotate_60 (by decide) (fun hc105 => ?_) (fun hc105 => ?_)
  · replace h := h.1 hc105
    refine lv_iconst (v := 0) hx hb dX8_rotate_67 (by decide) ?_
    exact t_X8_rotate_b68 C hml hr hlocks  h H locs ls hR hS (lv_sub (l' := [(3, .int y0)]) hl [0] rfl)
  · replace h := h.2 hc105
    refine lv_iconst (v := 1) hx hb dX8_rotate_63 (by decide) ?_
    refine lv_goto (tgt := 68) hx hb dX8_rotate_64 (by decide) ?_
    exact t_X8_rotate_b68 C hml hr hlocks  h H locs ls hR hS (lv_sub (l' := [(3, .int y0)]) hl [0] rfl)
set_option maxHeartbeats 4000000 in
theorem t_X8_rotate_b14 {Q : Int32 → sT → Prop} (C : x_C p s m args c cX8_rotate RX8 gg) (hml : c.maxLocals = 4) (hr : meth.sig.returnType = (some .boolean)) (hlocks : meth.locks = false) {x0 : Nat} {x1 : Int32} {x2 : Int32} {y0 : Int32} {y1 : Nat}  {S : sT}  (h : w_X8_rotate_b14 x0 x1 x2 y0 y1 S  Q) : x_X p l e r_X8_rotate s m args below meth c gg 4 0 0 (MQ below (va_Qi Q (fun S1 t => s_Rep gg S1 t.heap) (s_A gg)) args s 0 0 (s_A gg)) 14 [(0, .ref x0), (1, .int x1), (2, .int x2)] [.int y0, .ref y1] S := by
  unfold w_X8_rotate_b14 at h
  obtain ⟨hx, hb, -⟩ := id C
  intro H locs ls hR hS hl
  obtain ⟨hK_y1, h⟩ := h
  refine x_p_288 (v := y0) C hR hK_y1 hS q_8_1 dX8_rotate_14 (fun H locs hR hS => ?_)
  obtain ⟨S101, eS101⟩ : ∃ z : sT, z = s_sI S 288 y1 y0 := ⟨_, rfl⟩
  rw [← eS101] at hR
  replace h := h S101 eS101
  have hK_y1 : s_K S101 y1 = 10 := by rw [eS101]; exact hK_y1
  refine lv_aload_n hx hb dX8_rotate_17 rfl (lv_at hl 0 rfl) ?_
  obtain ⟨hK_x0, h⟩ := h
  refine x_g_288 C hR hK_x0 q_8_1 dX8_rotate_18 ?_
  refine lv_topi (fun x102 ex102 => ?_)
  replace h := h x102 ex102
  refine lv_if_le (tgt := 26) hx hb dX8_rotate_21 (by decide) (fun hc103 => ?_) (fun hc103 => ?_)
  · replace h := h.1 hc103
    refine lv_aload_n hx hb dX8_rotate_26 rfl (lv_at hl 0 rfl) ?_
    refine x_g_289 C hR hK_x0 q_3_8 dX8_rotate_27 ?_
    obtain ⟨a104, ea104, h⟩ := h
    refine x_some ea104 ?_
    obtain ⟨hK_a104, h⟩ := h
    refine x_gN_256 C hR hK_a104 (xn_2 C) dX8_rotate_30 ?_
    obtain ⟨a105, ea105, h⟩ := h
    refine x_some ea105 ?_
    refine lv_iload_n hx hb dX8_rotate_33 rfl (lv_at hl 1 rfl) ?_
    obtain ⟨hK_a105, h⟩ := h
    obtain ⟨hi106, a107, ea107, h⟩ := h
    refine x_aald13 C hR hK_a105 hi106 dX8_rotate_34 ?_
    refine x_some ea107 ?_
    refine lv_bipush (v := 6) hx hb dX8_rotate_35 (by decide) ?_
    obtain ⟨hK_a107, h⟩ := h
    obtain ⟨hi108, h⟩ := h
    refine x_iald C hR hK_a107 hi108 dX8_rotate_37 ?_
    refine lv_topi (fun x109 ex109 => ?_)
    replace h := h x109 ex109
    refine lv_iconst (v := 1) hx hb dX8_rotate_38 (by decide) ?_
    refine lv_icmp_ne (tgt := 46) hx hb dX8_rotate_39 (by decide) (fun hc110 => ?_) (fun hc110 => ?_)
    · replace h := h.1 hc110
      refine lv_iconst (v := 0) hx hb dX8_rotate_46 (by decide) ?_
      exact t_X8_rotate_b47 C hml hr hlocks  h H locs ls hR hS (lv_sub (l' := [(0, .ref x0), (1, .int x1), (2, .int x2)]) hl [0, 1, 2] rfl)
    · replace h := h.2 hc110
      refine lv_iconst (v := 1) hx hb dX8_rotate_42 (by decide) ?_
      refine lv_goto (tgt := 47) hx hb dX8_rotate_43 (by decide) ?_
      exact t_X8_rotate_b47 C hml hr hlocks  h H locs ls hR hS (lv_sub (l' := [(0, .ref x0), (1, .int x1), (2, .int x2)]) hl [0, 1, 2] rfl)
  · replace h := h.2 hc103
    refine lv_iconst (v := 0) hx hb dX8_rotate_24 (by decide) ?_
    exact W.zret (v := (0 : Int32)) hx hb hr (by decide) (fun t ht hW => ⟨⟨(0 : Int32), S101, rfl, h, x_rt ht hR⟩, hS.F ht⟩) hS.2.2 dX8_rotate_25
set_option maxHeartbeats 4000000 in
theorem t_X8_rotate_b0 {Q : Int32 → sT → Prop} (C : x_C p s m args c cX8_rotate RX8 gg) (hml : c.maxLocals = 4) (hr : meth.sig.returnType = (some .boolean)) (hlocks : meth.locks = false) {x0 : Nat} {x1 : Int32} {x2 : Int32}  {S : sT}  (h : w_X8_rotate_b0 x0 x1 x2 S  Q) : x_X p l e r_X8_rotate s m args below meth c gg 4 0 0 (MQ below (va_Qi Q (fun S1 t => s_Rep gg S1 t.heap) (s_A gg)) args s 0 0 (s_A gg)) 0 [(0, .ref x0), (1, .int x1), (2, .int x2)] [] S := by
  unfold w_X8_rotate_b0 at h
  obtain ⟨hx, hb, -⟩ := id C
  intro H locs ls hR hS hl
  refine lv_aload_n hx hb dX8_rotate_0 rfl (lv_at hl 0 rfl) ?_
  refine lv_aload_n hx hb dX8_rotate_1 rfl (lv_at hl 0 rfl) ?_
  refine lv_iload_n hx hb dX8_rotate_2 rfl (lv_at hl 1 rfl) ?_
  obtain ⟨hK_x0, h⟩ := h
  refine x_ki (x_runV (As := [.int x1]) (rest := [.ref x0]) C hml hR hS (m_X8_isSociety l gg x0 x1 S h) b_X8_isSociety q_12_10 (by rw [hK_x0]; decide) (s_E_9 hK_x0) rfl rfl rfl rfl ⟨Nat.le_of_ble_eq_true rfl, Nat.le_of_ble_eq_true rfl⟩ rfl hl.1 (Nat.le_of_ble_eq_true rfl) dX8_rotate_3 ⟨Nat.le_refl _, Nat.le_refl _⟩) hS (fun x102 S101 H locs hn hR hS => ?_)
  replace h := hn
  clear hn
  refine lv_if_eq (tgt := 13) hx hb dX8_rotate_6 (by decide) (fun hc103 => ?_) (fun hc103 => ?_)
  · replace h := h.1 hc103
    refine lv_iconst (v := 1) hx hb dX8_rotate_13 (by decide) ?_
    exact t_X8_rotate_b14 C hml hr hlocks  h H locs ls hR hS (lv_sub (l' := [(0, .ref x0), (1, .int x1), (2, .int x2)]) hl [0, 1, 2] rfl)
  · replace h := h.2 hc103
    refine lv_iconst (v := 0) hx hb dX8_rotate_9 (by decide) ?_
    refine lv_goto (tgt := 14) hx hb dX8_rotate_10 (by decide) ?_
    exact t_X8_rotate_b14 C hml hr hlocks  h H locs ls hR hS (lv_sub (l' := [(0, .ref x0), (1, .int x1), (2, .int x2)]) hl [0, 1, 2] rfl)
theorem m_X8_rotate (l : Launch) (gg : sG) (x0 : Nat) (x1 : Int32) (x2 : Int32) (S : sT) {Q : Int32 → sT → Prop} (h : w_X8_rotate x0 x1 x2 S Q) : x_Mi l gg yX8_rotate (x_ws yX8_rotate cX8_rotate 4 (some .boolean)) r_X8_rotate [.ref x0, .int x1, .int x2] S Q 0 0 := by
  refine x_ofW (cc := cX8_rotate) (own := RX8) (by decide +kernel) rfl (Nat.le_of_ble_eq_true rfl) ?_
  intro p e s m args below meth c C hml hr hlocks hin ht H locs ls hR hS hl
  exact t_X8_rotate_b0 C hml hr hlocks h H locs ls hR hS (lv_sub (l' := [(0, .ref x0), (1, .int x1), (2, .int x2)]) hl [0, 1, 2] rfl)
def w_X8_puddle_b43 (x0 : Nat) (S : sT)  (Q : Int32 → sT → Prop) : Prop :=
s_K S x0 = 10 ∧
    w_X8_refuse x0 (2 : Int32) S (fun x102 S101 =>
    Q x102 S101)
def w_X8_puddle_b0 (x0 : Nat) (x1 : Int32) (S : sT)  (Q : Int32 → sT → Prop) : Prop :=
s_K S x0 = 10 ∧
    ∀ S101 : sT, S101 = s_sI S 288 x0 (0 : Int32) →
    w_X8_isField x0 x1 S101 (fun x103 S102 =>
    ((¬ x103 = 0 → s_K S102 x0 = 10 ∧
    ∃ a105 : Nat, s_R S102 289 x0 = some a105 ∧
    s_K S102 a105 = 9 ∧
    ∃ a106 : Nat, s_R S102 257 a105 = some a106 ∧
    s_K S102 a106 = 13 ∧
    vp_in x1 (s_N S102 a106) ∧
    ∃ a108 : Nat, s_P S102 a106 (Int32.toNatClampNeg x1) = some a108 ∧
    s_K S102 a108 = 11 ∧
    vp_in (4 : Int32) (s_N S102 a108) ∧
    ∀ x110 : Int32, x110 = s_B S102 a108 (Int32.toNatClampNeg (4 : Int32)) →
    ((¬ x110 = 0 → w_X8_puddle_b43 x0 S102  Q) ∧
    (x110 = 0 → vp_in (1 : Int32) (s_N S102 a108) ∧
    ∀ x113 : Int32, x113 = s_B S102 a108 (Int32.toNatClampNeg (1 : Int32)) →
    (((10 : Int32) ≤ x113 → vp_in (4 : Int32) (s_N S102 a108) ∧
    ∀ S116 : sT, S116 = s_sB S102 a108 (Int32.toNatClampNeg (4 : Int32)) (1 : Int32) →
    vp_in (2 : Int32) (s_N S116 a108) ∧
    ∀ S118 : sT, S118 = s_sB S116 a108 (Int32.toNatClampNeg (2 : Int32)) (0 : Int32) →
    vp_in (1 : Int32) (s_N S118 a108) ∧
    ∀ x120 : Int32, x120 = s_B S118 a108 (Int32.toNatClampNeg (1 : Int32)) →
    Q x120 S118) ∧
    (¬ (10 : Int32) ≤ x113 → w_X8_puddle_b43 x0 S102  Q))))) ∧
    (x103 = 0 → s_K S102 x0 = 10 ∧
    w_X8_refuse x0 (1 : Int32) S102 (fun x122 S121 =>
    Q x122 S121))))
def w_X8_puddle (x0 : Nat) (x1 : Int32) (S : sT) (Q : Int32 → sT → Prop) : Prop := w_X8_puddle_b0 x0 x1 S Q
def r_X8_puddle : Room := x_rm 2 43 0 0
theorem b_X8_puddle : x_BV yX8_puddle cX8_puddle 3 (some .int) 1 := ⟨q_15_1, q_14_23, q_15_0, q_1_5, by decide +kernel⟩
set_option maxHeartbeats 4000000 in
theorem t_X8_puddle_b43 {Q : Int32 → sT → Prop} (C : x_C p s m args c cX8_puddle RX8 gg) (hml : c.maxLocals = 3) (hr : meth.sig.returnType = (some .int)) (hlocks : meth.locks = false) {x0 : Nat}  {S : sT}  (h : w_X8_puddle_b43 x0 S  Q) : x_X p l e r_X8_puddle s m args below meth c gg 3 0 0 (MQ below (va_Qi Q (fun S1 t => s_Rep gg S1 t.heap) (s_A gg)) args s 0 0 (s_A gg)) 43 [(0, .ref x0)] [] S := by
  unfold w_X8_puddle_b43 at h
  obtain ⟨hx, hb, -⟩ := id C
  intro H locs ls hR hS hl
  refine lv_aload_n hx hb dX8_puddle_43 rfl (lv_at hl 0 rfl) ?_
  refine lv_iconst (v := 2) hx hb dX8_puddle_44 (by decide) ?_
  obtain ⟨hK_x0, h⟩ := h
  refine x_ki (x_runV (As := [.int (2 : Int32)]) (rest := []) C hml hR hS (m_X8_refuse l gg x0 (2 : Int32) S h) b_X8_refuse q_8_5 (by rw [hK_x0]; decide) (s_E_9 hK_x0) rfl rfl rfl rfl ⟨Nat.le_of_ble_eq_true rfl, Nat.le_of_ble_eq_true rfl⟩ rfl hl.1 (Nat.le_of_ble_eq_true rfl) dX8_puddle_45 ⟨Nat.le_refl _, Nat.le_refl _⟩) hS (fun x102 S101 H locs hn hR hS => ?_)
  replace h := hn
  clear hn
  exact W.iret (v := x102) hx hb hr (fun t ht hW => ⟨⟨x102, S101, rfl, h, x_rt ht hR⟩, hS.F ht⟩) hS.2.2 dX8_puddle_48
set_option maxHeartbeats 4000000 in
theorem t_X8_puddle_b0 {Q : Int32 → sT → Prop} (C : x_C p s m args c cX8_puddle RX8 gg) (hml : c.maxLocals = 3) (hr : meth.sig.returnType = (some .int)) (hlocks : meth.locks = false) {x0 : Nat} {x1 : Int32}  {S : sT}  (h : w_X8_puddle_b0 x0 x1 S  Q) : x_X p l e r_X8_puddle s m args below meth c gg 3 0 0 (MQ below (va_Qi Q (fun S1 t => s_Rep gg S1 t.heap) (s_A gg)) args s 0 0 (s_A gg)) 0 [(0, .ref x0), (1, .int x1)] [] S := by
  unfold w_X8_puddle_b0 at h
  obtain ⟨hx, hb, -⟩ := id C
  intro H locs ls hR hS hl
  refine lv_aload_n hx hb dX8_puddle_0 rfl (lv_at hl 0 rfl) ?_
  refine lv_iconst (v := 0) hx hb dX8_puddle_1 (by decide) ?_
  obtain ⟨hK_x0, h⟩ := h
  refine x_p_288 (v := (0 : Int32)) C hR hK_x0 hS q_8_1 dX8_puddle_2 (fun H locs hR hS => ?_)
  obtain ⟨S101, eS101⟩ : ∃ z : sT, z = s_sI S 288 x0 (0 : Int32) := ⟨_, rfl⟩
  rw [← eS101] at hR
  replace h := h S101 eS101
  have hK_x0 : s_K S101 x0 = 10 := by rw [eS101]; exact hK_x0
  refine lv_aload_n hx hb dX8_puddle_5 rfl (lv_at hl 0 rfl) ?_
  refine lv_iload_n hx hb dX8_puddle_6 rfl (lv_at hl 1 rfl) ?_
  refine x_ki (x_runV (As := [.int x1]) (rest := []) C hml hR hS (m_X8_isField l gg x0 x1 S101 h) b_X8_isField q_13_7 (by rw [hK_x0]; decide) (s_E_9 hK_x0) rfl rfl rfl rfl ⟨Nat.le_of_ble_eq_true rfl, Nat.le_of_ble_eq_true rfl⟩ rfl hl.1 (Nat.le_of_ble_eq_true rfl) dX8_puddle_7 ⟨Nat.le_refl _, Nat.le_refl _⟩) hS (fun x103 S102 H locs hn hR hS => ?_)
  replace h := hn
  clear hn
  refine lv_if_ne (tgt := 19) hx hb dX8_puddle_10 (by decide) (fun hc104 => ?_) (fun hc104 => ?_)
  · replace h := h.1 hc104
    refine lv_aload_n hx hb dX8_puddle_19 rfl (lv_at hl 0 rfl) ?_
    obtain ⟨hK_x0, h⟩ := h
    refine x_g_289 C hR hK_x0 q_3_8 dX8_puddle_20 ?_
    obtain ⟨a105, ea105, h⟩ := h
    refine x_some ea105 ?_
    obtain ⟨hK_a105, h⟩ := h
    refine x_gN_257 C hR hK_a105 (xn_1 C) dX8_puddle_23 ?_
    obtain ⟨a106, ea106, h⟩ := h
    refine x_some ea106 ?_
    refine lv_iload_n hx hb dX8_puddle_26 rfl (lv_at hl 1 rfl) ?_
    obtain ⟨hK_a106, h⟩ := h
    obtain ⟨hi107, a108, ea108, h⟩ := h
    refine x_aald13 C hR hK_a106 hi107 dX8_puddle_27 ?_
    refine x_some ea108 ?_
    refine lv_astore_n (lv' := [(2, .ref a108), (0, .ref x0), (1, .int x1)]) hx hb dX8_puddle_28 rfl hl (by decide) rfl (fun ls hl => ?_)
    refine lv_aload_n hx hb dX8_puddle_29 rfl (lv_at hl 0 rfl) ?_
    refine lv_iconst (v := 4) hx hb dX8_puddle_30 (by decide) ?_
    obtain ⟨hK_a108, h⟩ := h
    obtain ⟨hi109, h⟩ := h
    refine x_iald C hR hK_a108 hi109 dX8_puddle_31 ?_
    refine lv_topi (fun x110 ex110 => ?_)
    replace h := h x110 ex110
    refine lv_if_ne (tgt := 43) hx hb dX8_puddle_32 (by decide) (fun hc111 => ?_) (fun hc111 => ?_)
    · replace h := h.1 hc111
      exact t_X8_puddle_b43 C hml hr hlocks  h H locs ls hR hS (lv_sub (l' := [(0, .ref x0)]) hl [1] rfl)
    · replace h := h.2 hc111
      refine lv_aload_n hx hb dX8_puddle_35 rfl (lv_at hl 0 rfl) ?_
      refine lv_iconst (v := 1) hx hb dX8_puddle_36 (by decide) ?_
      obtain ⟨hi112, h⟩ := h
      refine x_iald C hR hK_a108 hi112 dX8_puddle_37 ?_
      refine lv_topi (fun x113 ex113 => ?_)
      replace h := h x113 ex113
      refine lv_bipush (v := 10) hx hb dX8_puddle_38 (by decide) ?_
      refine lv_icmp_ge (tgt := 49) hx hb dX8_puddle_40 (by decide) (fun hc114 => ?_) (fun hc114 => ?_)
      · replace h := h.1 hc114
        refine lv_aload_n hx hb dX8_puddle_49 rfl (lv_at hl 0 rfl) ?_
        refine lv_iconst (v := 4) hx hb dX8_puddle_50 (by decide) ?_
        refine lv_iconst (v := 1) hx hb dX8_puddle_51 (by decide) ?_
        obtain ⟨hi115, h⟩ := h
        refine x_iast C hR hK_a108 hS hi115 dX8_puddle_52 (fun H locs hR hS => ?_)
        obtain ⟨S116, eS116⟩ : ∃ z : sT, z = s_sB S102 a108 (Int32.toNatClampNeg (4 : Int32)) (1 : Int32) := ⟨_, rfl⟩
        rw [← eS116] at hR
        replace h := h S116 eS116
        have hK_x0 : s_K S116 x0 = 10 := by rw [eS116]; exact hK_x0
        have hK_a105 : s_K S116 a105 = 9 := by rw [eS116]; exact hK_a105
        have hK_a106 : s_K S116 a106 = 13 := by rw [eS116]; exact hK_a106
        have hK_a108 : s_K S116 a108 = 11 := by rw [eS116]; exact hK_a108
        refine lv_aload_n hx hb dX8_puddle_53 rfl (lv_at hl 0 rfl) ?_
        refine lv_iconst (v := 2) hx hb dX8_puddle_54 (by decide) ?_
        refine lv_iconst (v := 0) hx hb dX8_puddle_55 (by decide) ?_
        obtain ⟨hi117, h⟩ := h
        refine x_iast C hR hK_a108 hS hi117 dX8_puddle_56 (fun H locs hR hS => ?_)
        obtain ⟨S118, eS118⟩ : ∃ z : sT, z = s_sB S116 a108 (Int32.toNatClampNeg (2 : Int32)) (0 : Int32) := ⟨_, rfl⟩
        rw [← eS118] at hR
        replace h := h S118 eS118
        have hK_x0 : s_K S118 x0 = 10 := by rw [eS118]; exact hK_x0
        have hK_a105 : s_K S118 a105 = 9 := by rw [eS118]; exact hK_a105
        have hK_a106 : s_K S118 a106 = 13 := by rw [eS118]; exact hK_a106
        have hK_a108 : s_K S118 a108 = 11 := by rw [eS118]; exact hK_a108
        refine lv_aload_n hx hb dX8_puddle_57 rfl (lv_at hl 0 rfl) ?_
        refine lv_iconst (v := 1) hx hb dX8_puddle_58 (by decide) ?_
        obtain ⟨hi119, h⟩ := h
        refine x_iald C hR hK_a108 hi119 dX8_puddle_59 ?_
        refine lv_topi (fun x120 ex120 => ?_)
        replace h := h x120 ex120
        exact W.iret (v := x120) hx hb hr (fun t ht hW => ⟨⟨x120, S118, rfl, h, x_rt ht hR⟩, hS.F ht⟩) hS.2.2 dX8_puddle_60
      · replace h := h.2 hc114
        exact t_X8_puddle_b43 C hml hr hlocks  h H locs ls hR hS (lv_sub (l' := [(0, .ref x0)]) hl [1] rfl)
  · replace h := h.2 hc104
    refine lv_aload_n hx hb dX8_puddle_13 rfl (lv_at hl 0 rfl) ?_
    refine lv_iconst (v := 1) hx hb dX8_puddle_14 (by decide) ?_
    obtain ⟨hK_x0, h⟩ := h
    refine x_ki (x_runV (As := [.int (1 : Int32)]) (rest := []) C hml hR hS (m_X8_refuse l gg x0 (1 : Int32) S102 h) b_X8_refuse q_8_5 (by rw [hK_x0]; decide) (s_E_9 hK_x0) rfl rfl rfl rfl ⟨Nat.le_of_ble_eq_true rfl, Nat.le_of_ble_eq_true rfl⟩ rfl hl.1 (Nat.le_of_ble_eq_true rfl) dX8_puddle_15 ⟨Nat.le_refl _, Nat.le_refl _⟩) hS (fun x122 S121 H locs hn hR hS => ?_)
    replace h := hn
    clear hn
    exact W.iret (v := x122) hx hb hr (fun t ht hW => ⟨⟨x122, S121, rfl, h, x_rt ht hR⟩, hS.F ht⟩) hS.2.2 dX8_puddle_18
theorem m_X8_puddle (l : Launch) (gg : sG) (x0 : Nat) (x1 : Int32) (S : sT) {Q : Int32 → sT → Prop} (h : w_X8_puddle x0 x1 S Q) : x_Mi l gg yX8_puddle (x_ws yX8_puddle cX8_puddle 3 (some .int)) r_X8_puddle [.ref x0, .int x1] S Q 0 0 := by
  refine x_ofW (cc := cX8_puddle) (own := RX8) (by decide +kernel) rfl (Nat.le_of_ble_eq_true rfl) ?_
  intro p e s m args below meth c C hml hr hlocks hin ht H locs ls hR hS hl
  exact t_X8_puddle_b0 C hml hr hlocks h H locs ls hR hS (lv_sub (l' := [(0, .ref x0), (1, .int x1)]) hl [0, 1] rfl)
def w_X8_isKind_b0 (x0 : Int32) (S : sT)  (Q : Int32 → sT → Prop) : Prop :=
w_X8_is x0 (0 : Int32) (2 : Int32) S (fun x102 S101 =>
    (x102 = 0 ∨ x102 = 1) ∧
    Q x102 S101)
def w_X8_isKind (x0 : Int32) (S : sT) (Q : Int32 → sT → Prop) : Prop := w_X8_isKind_b0 x0 S Q
def r_X8_isKind : Room := x_rm 1 22 0 0
theorem b_X8_isKind : x_BS yX8_isKind cX8_isKind 1 (some .boolean) 1 := ⟨q_16_9, q_16_8, q_1_5, by decide +kernel⟩
set_option maxHeartbeats 4000000 in
theorem t_X8_isKind_b0 {Q : Int32 → sT → Prop} (C : x_C p s m args c cX8_isKind RX8 gg) (hml : c.maxLocals = 1) (hr : meth.sig.returnType = (some .boolean)) (hlocks : meth.locks = false) {x0 : Int32}  {S : sT}  (h : w_X8_isKind_b0 x0 S  Q) : x_X p l e r_X8_isKind s m args below meth c gg 1 0 0 (MQ below (va_Qi Q (fun S1 t => s_Rep gg S1 t.heap) (s_A gg)) args s 0 0 (s_A gg)) 0 [(0, .int x0)] [] S := by
  unfold w_X8_isKind_b0 at h
  obtain ⟨hx, hb, -⟩ := id C
  intro H locs ls hR hS hl
  refine lv_iload_n hx hb dX8_isKind_0 rfl (lv_at hl 0 rfl) ?_
  refine lv_iconst (v := 0) hx hb dX8_isKind_1 (by decide) ?_
  refine lv_iconst (v := 2) hx hb dX8_isKind_2 (by decide) ?_
  refine x_ki (x_runS (As := [.int x0, .int (0 : Int32), .int (2 : Int32)]) (rest := []) C hml hR hS (m_X8_is l gg x0 (0 : Int32) (2 : Int32) S h) b_X8_is q_8_2 rfl rfl ⟨Nat.le_of_ble_eq_true rfl, Nat.le_of_ble_eq_true rfl⟩ rfl hl.1 (Nat.le_of_ble_eq_true rfl) dX8_isKind_3 ⟨Nat.le_refl _, Nat.le_refl _⟩) hS (fun x102 S101 H locs hn hR hS => ?_)
  replace h := hn
  clear hn
  obtain ⟨hz103, h⟩ := h
  exact W.zret (v := x102) hx hb hr (zb_n hz103) (fun t ht hW => ⟨⟨x102, S101, rfl, h, x_rt ht hR⟩, hS.F ht⟩) hS.2.2 dX8_isKind_6
theorem m_X8_isKind (l : Launch) (gg : sG) (x0 : Int32) (S : sT) {Q : Int32 → sT → Prop} (h : w_X8_isKind x0 S Q) : x_Mi l gg yX8_isKind (x_ws yX8_isKind cX8_isKind 1 (some .boolean)) r_X8_isKind [.int x0] S Q 0 0 := by
  refine x_ofW (cc := cX8_isKind) (own := RX8) (by decide +kernel) rfl (Nat.le_of_ble_eq_true rfl) ?_
  intro p e s m args below meth c C hml hr hlocks hin ht H locs ls hR hS hl
  exact t_X8_isKind_b0 C hml hr hlocks h H locs ls hR hS (lv_sub (l' := [(0, .int x0)]) hl [0] rfl)
def w_X8_plant_b72 (x0 : Nat) (S : sT)  (Q : Int32 → sT → Prop) : Prop :=
s_K S x0 = 10 ∧
    w_X8_refuse x0 (3 : Int32) S (fun x102 S101 =>
    Q x102 S101)
def w_X8_plant_b0 (x0 : Nat) (x1 : Int32) (x2 : Int32) (S : sT)  (Q : Int32 → sT → Prop) : Prop :=
s_K S x0 = 10 ∧
    ∀ S101 : sT, S101 = s_sI S 288 x0 (0 : Int32) →
    w_X8_isField x0 x1 S101 (fun x103 S102 =>
    ((¬ x103 = 0 → w_X8_isKind x2 S102 (fun x106 S105 =>
    ((¬ x106 = 0 → s_K S105 x0 = 10 ∧
    ∃ a108 : Nat, s_R S105 289 x0 = some a108 ∧
    s_K S105 a108 = 9 ∧
    ∃ a109 : Nat, s_R S105 257 a108 = some a109 ∧
    s_K S105 a109 = 13 ∧
    vp_in x1 (s_N S105 a109) ∧
    ∃ a111 : Nat, s_P S105 a109 (Int32.toNatClampNeg x1) = some a111 ∧
    s_K S105 a111 = 11 ∧
    vp_in (4 : Int32) (s_N S105 a111) ∧
    ∀ x113 : Int32, x113 = s_B S105 a111 (Int32.toNatClampNeg (4 : Int32)) →
    ((¬ x113 = (1 : Int32) → w_X8_plant_b72 x0 S105  Q) ∧
    (x113 = (1 : Int32) → ∃ a115 : Nat, s_R S105 289 x0 = some a115 ∧
    s_K S105 a115 = 9 ∧
    ∃ a116 : Nat, s_R S105 258 a115 = some a116 ∧
    s_K S105 a116 = 11 ∧
    vp_in (0 : Int32) (s_N S105 a116) ∧
    ∀ x118 : Int32, x118 = s_B S105 a116 (Int32.toNatClampNeg (0 : Int32)) →
    ∀ x119 : Int32, x119 = x118 - x118 / (30 : Int32) * (30 : Int32) →
    ((x119 = 0 → w_X8_plant_b72 x0 S105  Q) ∧
    (¬ x119 = 0 → vp_in (10 : Int32) (s_N S105 a111) ∧
    ∀ x122 : Int32, x122 = s_B S105 a111 (Int32.toNatClampNeg (10 : Int32)) →
    (((3 : Int32) ≤ x122 → ∃ a124 : Nat, s_R S105 289 x0 = some a124 ∧
    s_K S105 a124 = 9 ∧
    w_X7_plant a124 x1 x2 S105 (fun S125 =>
    s_K S125 x0 = 10 ∧
    ∃ a126 : Nat, s_R S125 289 x0 = some a126 ∧
    s_K S125 a126 = 9 ∧
    ∃ a127 : Nat, s_R S125 258 a126 = some a127 ∧
    s_K S125 a127 = 11 ∧
    vp_in (0 : Int32) (s_N S125 a127) ∧
    ∀ x129 : Int32, x129 = s_B S125 a127 (Int32.toNatClampNeg (0 : Int32)) →
    Q x129 S125)) ∧
    (¬ (3 : Int32) ≤ x122 → w_X8_plant_b72 x0 S105  Q))))))) ∧
    (x106 = 0 → s_K S105 x0 = 10 ∧
    w_X8_refuse x0 (2 : Int32) S105 (fun x131 S130 =>
    Q x131 S130))))) ∧
    (x103 = 0 → s_K S102 x0 = 10 ∧
    w_X8_refuse x0 (1 : Int32) S102 (fun x133 S132 =>
    Q x133 S132))))
def w_X8_plant (x0 : Nat) (x1 : Int32) (x2 : Int32) (S : sT) (Q : Int32 → sT → Prop) : Prop := w_X8_plant_b0 x0 x1 x2 S Q
def r_X8_plant : Room := x_rm 2 43 0 0
theorem b_X8_plant : x_BV yX8_plant cX8_plant 4 (some .int) 2 := ⟨q_16_6, q_16_4, q_16_5, q_1_5, by decide +kernel⟩
set_option maxHeartbeats 4000000 in
theorem t_X8_plant_b72 {Q : Int32 → sT → Prop} (C : x_C p s m args c cX8_plant RX8 gg) (hml : c.maxLocals = 4) (hr : meth.sig.returnType = (some .int)) (hlocks : meth.locks = false) {x0 : Nat}  {S : sT}  (h : w_X8_plant_b72 x0 S  Q) : x_X p l e r_X8_plant s m args below meth c gg 4 0 0 (MQ below (va_Qi Q (fun S1 t => s_Rep gg S1 t.heap) (s_A gg)) args s 0 0 (s_A gg)) 72 [(0, .ref x0)] [] S := by
  unfold w_X8_plant_b72 at h
  obtain ⟨hx, hb, -⟩ := id C
  intro H locs ls hR hS hl
  refine lv_aload_n hx hb dX8_plant_72 rfl (lv_at hl 0 rfl) ?_
  refine lv_iconst (v := 3) hx hb dX8_plant_73 (by decide) ?_
  obtain ⟨hK_x0, h⟩ := h
  refine x_ki (x_runV (As := [.int (3 : Int32)]) (rest := []) C hml hR hS (m_X8_refuse l gg x0 (3 : Int32) S h) b_X8_refuse q_8_5 (by rw [hK_x0]; decide) (s_E_9 hK_x0) rfl rfl rfl rfl ⟨Nat.le_of_ble_eq_true rfl, Nat.le_of_ble_eq_true rfl⟩ rfl hl.1 (Nat.le_of_ble_eq_true rfl) dX8_plant_74 ⟨Nat.le_refl _, Nat.le_refl _⟩) hS (fun x102 S101 H locs hn hR hS => ?_)
  replace h := hn
  clear hn
  exact W.iret (v := x102) hx hb hr (fun t ht hW => ⟨⟨x102, S101, rfl, h, x_rt ht hR⟩, hS.F ht⟩) hS.2.2 dX8_plant_77
set_option maxHeartbeats 4000000 in
theorem t_X8_plant_b0 {Q : Int32 → sT → Prop} (C : x_C p s m args c cX8_plant RX8 gg) (hml : c.maxLocals = 4) (hr : meth.sig.returnType = (some .int)) (hlocks : meth.locks = false) {x0 : Nat} {x1 : Int32} {x2 : Int32}  {S : sT}  (h : w_X8_plant_b0 x0 x1 x2 S  Q) : x_X p l e r_X8_plant s m args below meth c gg 4 0 0 (MQ below (va_Qi Q (fun S1 t => s_Rep gg S1 t.heap) (s_A gg)) args s 0 0 (s_A gg)) 0 [(0, .ref x0), (1, .int x1), (2, .int x2)] [] S := by
  unfold w_X8_plant_b0 at h
  obtain ⟨hx, hb, -⟩ := id C
  intro H locs ls hR hS hl
  refine lv_aload_n hx hb dX8_plant_0 rfl (lv_at hl 0 rfl) ?_
  refine lv_iconst (v := 0) hx hb dX8_plant_1 (by decide) ?_
  obtain ⟨hK_x0, h⟩ := h
  refine x_p_288 (v := (0 : Int32)) C hR hK_x0 hS q_8_1 dX8_plant_2 (fun H locs hR hS => ?_)
  obtain ⟨S101, eS101⟩ : ∃ z : sT, z = s_sI S 288 x0 (0 : Int32) := ⟨_, rfl⟩
  rw [← eS101] at hR
  replace h := h S101 eS101
  have hK_x0 : s_K S101 x0 = 10 := by rw [eS101]; exact hK_x0
  refine lv_aload_n hx hb dX8_plant_5 rfl (lv_at hl 0 rfl) ?_
  refine lv_iload_n hx hb dX8_plant_6 rfl (lv_at hl 1 rfl) ?_
  refine x_ki (x_runV (As := [.int x1]) (rest := []) C hml hR hS (m_X8_isField l gg x0 x1 S101 h) b_X8_isField q_13_7 (by rw [hK_x0]; decide) (s_E_9 hK_x0) rfl rfl rfl rfl ⟨Nat.le_of_ble_eq_true rfl, Nat.le_of_ble_eq_true rfl⟩ rfl hl.1 (Nat.le_of_ble_eq_true rfl) dX8_plant_7 ⟨Nat.le_refl _, Nat.le_refl _⟩) hS (fun x103 S102 H locs hn hR hS => ?_)
  replace h := hn
  clear hn
  refine lv_if_ne (tgt := 19) hx hb dX8_plant_10 (by decide) (fun hc104 => ?_) (fun hc104 => ?_)
  · replace h := h.1 hc104
    refine lv_iload_n hx hb dX8_plant_19 rfl (lv_at hl 2 rfl) ?_
    refine x_ki (x_runS (As := [.int x2]) (rest := []) C hml hR hS (m_X8_isKind l gg x2 S102 h) b_X8_isKind q_16_7 rfl rfl ⟨Nat.le_of_ble_eq_true rfl, Nat.le_of_ble_eq_true rfl⟩ rfl hl.1 (Nat.le_of_ble_eq_true rfl) dX8_plant_20 ⟨Nat.le_refl _, Nat.le_refl _⟩) hS (fun x106 S105 H locs hn hR hS => ?_)
    replace h := hn
    clear hn
    refine lv_if_ne (tgt := 32) hx hb dX8_plant_23 (by decide) (fun hc107 => ?_) (fun hc107 => ?_)
    · replace h := h.1 hc107
      refine lv_aload_n hx hb dX8_plant_32 rfl (lv_at hl 0 rfl) ?_
      obtain ⟨hK_x0, h⟩ := h
      refine x_g_289 C hR hK_x0 q_3_8 dX8_plant_33 ?_
      obtain ⟨a108, ea108, h⟩ := h
      refine x_some ea108 ?_
      obtain ⟨hK_a108, h⟩ := h
      refine x_gN_257 C hR hK_a108 (xn_1 C) dX8_plant_36 ?_
      obtain ⟨a109, ea109, h⟩ := h
      refine x_some ea109 ?_
      refine lv_iload_n hx hb dX8_plant_39 rfl (lv_at hl 1 rfl) ?_
      obtain ⟨hK_a109, h⟩ := h
      obtain ⟨hi110, a111, ea111, h⟩ := h
      refine x_aald13 C hR hK_a109 hi110 dX8_plant_40 ?_
      refine x_some ea111 ?_
      refine lv_astore_n (lv' := [(3, .ref a111), (0, .ref x0), (1, .int x1), (2, .int x2)]) hx hb dX8_plant_41 rfl hl (by decide) rfl (fun ls hl => ?_)
      refine lv_aload_n hx hb dX8_plant_42 rfl (lv_at hl 0 rfl) ?_
      refine lv_iconst (v := 4) hx hb dX8_plant_43 (by decide) ?_
      obtain ⟨hK_a111, h⟩ := h
      obtain ⟨hi112, h⟩ := h
      refine x_iald C hR hK_a111 hi112 dX8_plant_44 ?_
      refine lv_topi (fun x113 ex113 => ?_)
      replace h := h x113 ex113
      refine lv_iconst (v := 1) hx hb dX8_plant_45 (by decide) ?_
      refine lv_icmp_ne (tgt := 72) hx hb dX8_plant_46 (by decide) (fun hc114 => ?_) (fun hc114 => ?_)
      · replace h := h.1 hc114
        exact t_X8_plant_b72 C hml hr hlocks  h H locs ls hR hS (lv_sub (l' := [(0, .ref x0)]) hl [1] rfl)
      · replace h := h.2 hc114
        refine lv_aload_n hx hb dX8_plant_49 rfl (lv_at hl 1 rfl) ?_
        refine x_g_289 C hR hK_x0 q_3_8 dX8_plant_50 ?_
        obtain ⟨a115, ea115, h⟩ := h
        refine x_some ea115 ?_
        obtain ⟨hK_a115, h⟩ := h
        refine x_gN_258 C hR hK_a115 (xn_0 C) dX8_plant_53 ?_
        obtain ⟨a116, ea116, h⟩ := h
        refine x_some ea116 ?_
        refine lv_iconst (v := 0) hx hb dX8_plant_56 (by decide) ?_
        obtain ⟨hK_a116, h⟩ := h
        obtain ⟨hi117, h⟩ := h
        refine x_iald C hR hK_a116 hi117 dX8_plant_57 ?_
        refine lv_topi (fun x118 ex118 => ?_)
        replace h := h x118 ex118
        refine lv_bipush (v := 30) hx hb dX8_plant_58 (by decide) ?_
        refine lv_irem hx hb dX8_plant_60 (by decide) ?_
        refine lv_topi (fun x119 ex119 => ?_)
        replace h := h x119 ex119
        refine lv_if_eq (tgt := 72) hx hb dX8_plant_61 (by decide) (fun hc120 => ?_) (fun hc120 => ?_)
        · replace h := h.1 hc120
          exact t_X8_plant_b72 C hml hr hlocks  h H locs ls hR hS (lv_sub (l' := [(0, .ref x0)]) hl [1] rfl)
        · replace h := h.2 hc120
          refine lv_aload_n hx hb dX8_plant_64 rfl (lv_at hl 0 rfl) ?_
          refine lv_bipush (v := 10) hx hb dX8_plant_65 (by decide) ?_
          obtain ⟨hi121, h⟩ := h
          refine x_iald C hR hK_a111 hi121 dX8_plant_67 ?_
          refine lv_topi (fun x122 ex122 => ?_)
          replace h := h x122 ex122
          refine lv_iconst (v := 3) hx hb dX8_plant_68 (by decide) ?_
          refine lv_icmp_ge (tgt := 78) hx hb dX8_plant_69 (by decide) (fun hc123 => ?_) (fun hc123 => ?_)
          · replace h := h.1 hc123
            refine lv_aload_n hx hb dX8_plant_78 rfl (lv_at hl 1 rfl) ?_
            refine x_g_289 C hR hK_x0 q_3_8 dX8_plant_79 ?_
            obtain ⟨a124, ea124, h⟩ := h
            refine x_some ea124 ?_
            refine lv_iload_n hx hb dX8_plant_82 rfl (lv_at hl 2 rfl) ?_
            refine lv_iload_n hx hb dX8_plant_83 rfl (lv_at hl 3 rfl) ?_
            obtain ⟨hK_a124, h⟩ := h
            refine x_kv (x_runV (As := [.int x1, .int x2]) (rest := []) C hml hR hS (m_X7_plant l gg a124 x1 x2 S105 h) b_X7_plant q_16_10 (by rw [hK_a124]; decide) (s_E_8 hK_a124) rfl rfl rfl rfl ⟨Nat.le_of_ble_eq_true rfl, Nat.le_of_ble_eq_true rfl⟩ rfl hl.1 (Nat.le_of_ble_eq_true rfl) dX8_plant_84 ⟨Nat.le_refl _, Nat.le_refl _⟩) hS (fun S125 H locs hn hR hS => ?_)
            replace h := hn
            clear hn
            refine lv_aload_n hx hb dX8_plant_87 rfl (lv_at hl 1 rfl) ?_
            obtain ⟨hK_x0, h⟩ := h
            refine x_g_289 C hR hK_x0 q_3_8 dX8_plant_88 ?_
            obtain ⟨a126, ea126, h⟩ := h
            refine x_some ea126 ?_
            obtain ⟨hK_a126, h⟩ := h
            refine x_gN_258 C hR hK_a126 (xn_0 C) dX8_plant_91 ?_
            obtain ⟨a127, ea127, h⟩ := h
            refine x_some ea127 ?_
            refine lv_iconst (v := 0) hx hb dX8_plant_94 (by decide) ?_
            obtain ⟨hK_a127, h⟩ := h
            obtain ⟨hi128, h⟩ := h
            refine x_iald C hR hK_a127 hi128 dX8_plant_95 ?_
            refine lv_topi (fun x129 ex129 => ?_)
            replace h := h x129 ex129
            exact W.iret (v := x129) hx hb hr (fun t ht hW => ⟨⟨x129, S125, rfl, h, x_rt ht hR⟩, hS.F ht⟩) hS.2.2 dX8_plant_96
          · replace h := h.2 hc123
            exact t_X8_plant_b72 C hml hr hlocks  h H locs ls hR hS (lv_sub (l' := [(0, .ref x0)]) hl [1] rfl)
    · replace h := h.2 hc107
      refine lv_aload_n hx hb dX8_plant_26 rfl (lv_at hl 0 rfl) ?_
      refine lv_iconst (v := 2) hx hb dX8_plant_27 (by decide) ?_
      obtain ⟨hK_x0, h⟩ := h
      refine x_ki (x_runV (As := [.int (2 : Int32)]) (rest := []) C hml hR hS (m_X8_refuse l gg x0 (2 : Int32) S105 h) b_X8_refuse q_8_5 (by rw [hK_x0]; decide) (s_E_9 hK_x0) rfl rfl rfl rfl ⟨Nat.le_of_ble_eq_true rfl, Nat.le_of_ble_eq_true rfl⟩ rfl hl.1 (Nat.le_of_ble_eq_true rfl) dX8_plant_28 ⟨Nat.le_refl _, Nat.le_refl _⟩) hS (fun x131 S130 H locs hn hR hS => ?_)
      replace h := hn
      clear hn
      exact W.iret (v := x131) hx hb hr (fun t ht hW => ⟨⟨x131, S130, rfl, h, x_rt ht hR⟩, hS.F ht⟩) hS.2.2 dX8_plant_31
  · replace h := h.2 hc104
    refine lv_aload_n hx hb dX8_plant_13 rfl (lv_at hl 0 rfl) ?_
    refine lv_iconst (v := 1) hx hb dX8_plant_14 (by decide) ?_
    obtain ⟨hK_x0, h⟩ := h
    refine x_ki (x_runV (As := [.int (1 : Int32)]) (rest := []) C hml hR hS (m_X8_refuse l gg x0 (1 : Int32) S102 h) b_X8_refuse q_8_5 (by rw [hK_x0]; decide) (s_E_9 hK_x0) rfl rfl rfl rfl ⟨Nat.le_of_ble_eq_true rfl, Nat.le_of_ble_eq_true rfl⟩ rfl hl.1 (Nat.le_of_ble_eq_true rfl) dX8_plant_15 ⟨Nat.le_refl _, Nat.le_refl _⟩) hS (fun x133 S132 H locs hn hR hS => ?_)
    replace h := hn
    clear hn
    exact W.iret (v := x133) hx hb hr (fun t ht hW => ⟨⟨x133, S132, rfl, h, x_rt ht hR⟩, hS.F ht⟩) hS.2.2 dX8_plant_18
theorem m_X8_plant (l : Launch) (gg : sG) (x0 : Nat) (x1 : Int32) (x2 : Int32) (S : sT) {Q : Int32 → sT → Prop} (h : w_X8_plant x0 x1 x2 S Q) : x_Mi l gg yX8_plant (x_ws yX8_plant cX8_plant 4 (some .int)) r_X8_plant [.ref x0, .int x1, .int x2] S Q 0 0 := by
  refine x_ofW (cc := cX8_plant) (own := RX8) (by decide +kernel) rfl (Nat.le_of_ble_eq_true rfl) ?_
  intro p e s m args below meth c C hml hr hlocks hin ht H locs ls hR hS hl
  exact t_X8_plant_b0 C hml hr hlocks h H locs ls hR hS (lv_sub (l' := [(0, .ref x0), (1, .int x1), (2, .int x2)]) hl [0, 1, 2] rfl)
def w_X8_help_b21 (x0 : Nat) (S : sT)  (Q : Int32 → sT → Prop) : Prop :=
s_K S x0 = 10 ∧
    w_X8_refuse x0 (1 : Int32) S (fun x102 S101 =>
    Q x102 S101)
def w_X8_help_b0 (x0 : Nat) (x1 : Int32) (x2 : Int32) (S : sT)  (Q : Int32 → sT → Prop) : Prop :=
s_K S x0 = 10 ∧
    ∀ S101 : sT, S101 = s_sI S 288 x0 (0 : Int32) →
    w_X8_isField x0 x1 S101 (fun x103 S102 =>
    ((x103 = 0 → w_X8_help_b21 x0 S102  Q) ∧
    (¬ x103 = 0 → s_K S102 x0 = 10 ∧
    w_X8_isField x0 x2 S102 (fun x106 S105 =>
    ((¬ x106 = 0 → s_K S105 x0 = 10 ∧
    ∃ a108 : Nat, s_R S105 289 x0 = some a108 ∧
    s_K S105 a108 = 9 ∧
    ∃ a109 : Nat, s_R S105 257 a108 = some a109 ∧
    s_K S105 a109 = 13 ∧
    vp_in x1 (s_N S105 a109) ∧
    ∃ a111 : Nat, s_P S105 a109 (Int32.toNatClampNeg x1) = some a111 ∧
    s_K S105 a111 = 11 ∧
    vp_in (18 : Int32) (s_N S105 a111) ∧
    ∀ x113 : Int32, x113 = s_B S105 a111 (Int32.toNatClampNeg (18 : Int32)) →
    ∀ x114 : Int32, x114 = x113 + (1 : Int32) →
    vp_in (18 : Int32) (s_N S105 a111) ∧
    ∀ S116 : sT, S116 = s_sB S105 a111 (Int32.toNatClampNeg (18 : Int32)) x114 →
    ∃ a117 : Nat, s_R S116 289 x0 = some a117 ∧
    s_K S116 a117 = 9 ∧
    ∃ a118 : Nat, s_R S116 257 a117 = some a118 ∧
    s_K S116 a118 = 13 ∧
    vp_in x2 (s_N S116 a118) ∧
    ∃ a120 : Nat, s_P S116 a118 (Int32.toNatClampNeg x2) = some a120 ∧
    s_K S116 a120 = 11 ∧
    vp_in (18 : Int32) (s_N S116 a120) ∧
    ∀ x122 : Int32, x122 = s_B S116 a120 (Int32.toNatClampNeg (18 : Int32)) →
    ∀ x123 : Int32, x123 = x122 - (1 : Int32) →
    vp_in (18 : Int32) (s_N S116 a120) ∧
    ∀ S125 : sT, S125 = s_sB S116 a120 (Int32.toNatClampNeg (18 : Int32)) x123 →
    ∃ a126 : Nat, s_R S125 289 x0 = some a126 ∧
    s_K S125 a126 = 9 ∧
    ∃ a127 : Nat, s_R S125 257 a126 = some a127 ∧
    s_K S125 a127 = 13 ∧
    vp_in x2 (s_N S125 a127) ∧
    ∃ a129 : Nat, s_P S125 a127 (Int32.toNatClampNeg x2) = some a129 ∧
    s_K S125 a129 = 11 ∧
    vp_in (10 : Int32) (s_N S125 a129) ∧
    ∀ x131 : Int32, x131 = s_B S125 a129 (Int32.toNatClampNeg (10 : Int32)) →
    ∀ x132 : Int32, x132 = x131 + (1 : Int32) →
    vp_in (10 : Int32) (s_N S125 a129) ∧
    ∀ S134 : sT, S134 = s_sB S125 a129 (Int32.toNatClampNeg (10 : Int32)) x132 →
    ∃ a135 : Nat, s_R S134 289 x0 = some a135 ∧
    s_K S134 a135 = 9 ∧
    ∃ a136 : Nat, s_R S134 257 a135 = some a136 ∧
    s_K S134 a136 = 13 ∧
    vp_in x2 (s_N S134 a136) ∧
    ∃ a138 : Nat, s_P S134 a136 (Int32.toNatClampNeg x2) = some a138 ∧
    s_K S134 a138 = 11 ∧
    vp_in (10 : Int32) (s_N S134 a138) ∧
    ∀ x140 : Int32, x140 = s_B S134 a138 (Int32.toNatClampNeg (10 : Int32)) →
    Q x140 S134) ∧
    (x106 = 0 → w_X8_help_b21 x0 S105  Q))))))
def w_X8_help (x0 : Nat) (x1 : Int32) (x2 : Int32) (S : sT) (Q : Int32 → sT → Prop) : Prop := w_X8_help_b0 x0 x1 x2 S Q
def r_X8_help : Room := x_rm 2 43 0 0
theorem b_X8_help : x_BV yX8_help cX8_help 3 (some .int) 2 := ⟨q_17_2, q_17_0, q_17_1, q_1_5, by decide +kernel⟩
set_option maxHeartbeats 4000000 in
theorem t_X8_help_b21 {Q : Int32 → sT → Prop} (C : x_C p s m args c cX8_help RX8 gg) (hml : c.maxLocals = 3) (hr : meth.sig.returnType = (some .int)) (hlocks : meth.locks = false) {x0 : Nat}  {S : sT}  (h : w_X8_help_b21 x0 S  Q) : x_X p l e r_X8_help s m args below meth c gg 3 0 0 (MQ below (va_Qi Q (fun S1 t => s_Rep gg S1 t.heap) (s_A gg)) args s 0 0 (s_A gg)) 21 [(0, .ref x0)] [] S := by
  unfold w_X8_help_b21 at h
  obtain ⟨hx, hb, -⟩ := id C
  intro H locs ls hR hS hl
  refine lv_aload_n hx hb dX8_help_21 rfl (lv_at hl 0 rfl) ?_
  refine lv_iconst (v := 1) hx hb dX8_help_22 (by decide) ?_
  obtain ⟨hK_x0, h⟩ := h
  refine x_ki (x_runV (As := [.int (1 : Int32)]) (rest := []) C hml hR hS (m_X8_refuse l gg x0 (1 : Int32) S h) b_X8_refuse q_8_5 (by rw [hK_x0]; decide) (s_E_9 hK_x0) rfl rfl rfl rfl ⟨Nat.le_of_ble_eq_true rfl, Nat.le_of_ble_eq_true rfl⟩ rfl hl.1 (Nat.le_of_ble_eq_true rfl) dX8_help_23 ⟨Nat.le_refl _, Nat.le_refl _⟩) hS (fun x102 S101 H locs hn hR hS => ?_)
  replace h := hn
  clear hn
  exact W.iret (v := x102) hx hb hr (fun t ht hW => ⟨⟨x102, S101, rfl, h, x_rt ht hR⟩, hS.F ht⟩) hS.2.2 dX8_help_26
set_option maxHeartbeats 4000000 in
theorem t_X8_help_b0 {Q : Int32 → sT → Prop} (C : x_C p s m args c cX8_help RX8 gg) (hml : c.maxLocals = 3) (hr : meth.sig.returnType = (some .int)) (hlocks : meth.locks = false) {x0 : Nat} {x1 : Int32} {x2 : Int32}  {S : sT}  (h : w_X8_help_b0 x0 x1 x2 S  Q) : x_X p l e r_X8_help s m args below meth c gg 3 0 0 (MQ below (va_Qi Q (fun S1 t => s_Rep gg S1 t.heap) (s_A gg)) args s 0 0 (s_A gg)) 0 [(0, .ref x0), (1, .int x1), (2, .int x2)] [] S := by
  unfold w_X8_help_b0 at h
  obtain ⟨hx, hb, -⟩ := id C
  intro H locs ls hR hS hl
  refine lv_aload_n hx hb dX8_help_0 rfl (lv_at hl 0 rfl) ?_
  refine lv_iconst (v := 0) hx hb dX8_help_1 (by decide) ?_
  obtain ⟨hK_x0, h⟩ := h
  refine x_p_288 (v := (0 : Int32)) C hR hK_x0 hS q_8_1 dX8_help_2 (fun H locs hR hS => ?_)
  obtain ⟨S101, eS101⟩ : ∃ z : sT, z = s_sI S 288 x0 (0 : Int32) := ⟨_, rfl⟩
  rw [← eS101] at hR
  replace h := h S101 eS101
  have hK_x0 : s_K S101 x0 = 10 := by rw [eS101]; exact hK_x0
  refine lv_aload_n hx hb dX8_help_5 rfl (lv_at hl 0 rfl) ?_
  refine lv_iload_n hx hb dX8_help_6 rfl (lv_at hl 1 rfl) ?_
  refine x_ki (x_runV (As := [.int x1]) (rest := []) C hml hR hS (m_X8_isField l gg x0 x1 S101 h) b_X8_isField q_13_7 (by rw [hK_x0]; decide) (s_E_9 hK_x0) rfl rfl rfl rfl ⟨Nat.le_of_ble_eq_true rfl, Nat.le_of_ble_eq_true rfl⟩ rfl hl.1 (Nat.le_of_ble_eq_true rfl) dX8_help_7 ⟨Nat.le_refl _, Nat.le_refl _⟩) hS (fun x103 S102 H locs hn hR hS => ?_)
  replace h := hn
  clear hn
  refine lv_if_eq (tgt := 21) hx hb dX8_help_10 (by decide) (fun hc104 => ?_) (fun hc104 => ?_)
  · replace h := h.1 hc104
    exact t_X8_help_b21 C hml hr hlocks  h H locs ls hR hS (lv_sub (l' := [(0, .ref x0)]) hl [0] rfl)
  · replace h := h.2 hc104
    refine lv_aload_n hx hb dX8_help_13 rfl (lv_at hl 0 rfl) ?_
    refine lv_iload_n hx hb dX8_help_14 rfl (lv_at hl 2 rfl) ?_
    obtain ⟨hK_x0, h⟩ := h
    refine x_ki (x_runV (As := [.int x2]) (rest := []) C hml hR hS (m_X8_isField l gg x0 x2 S102 h) b_X8_isField q_13_7 (by rw [hK_x0]; decide) (s_E_9 hK_x0) rfl rfl rfl rfl ⟨Nat.le_of_ble_eq_true rfl, Nat.le_of_ble_eq_true rfl⟩ rfl hl.1 (Nat.le_of_ble_eq_true rfl) dX8_help_15 ⟨Nat.le_refl _, Nat.le_refl _⟩) hS (fun x106 S105 H locs hn hR hS => ?_)
    replace h := hn
    clear hn
    refine lv_if_ne (tgt := 27) hx hb dX8_help_18 (by decide) (fun hc107 => ?_) (fun hc107 => ?_)
    · replace h := h.1 hc107
      refine lv_aload_n hx hb dX8_help_27 rfl (lv_at hl 0 rfl) ?_
      obtain ⟨hK_x0, h⟩ := h
      refine x_g_289 C hR hK_x0 q_3_8 dX8_help_28 ?_
      obtain ⟨a108, ea108, h⟩ := h
      refine x_some ea108 ?_
      obtain ⟨hK_a108, h⟩ := h
      refine x_gN_257 C hR hK_a108 (xn_1 C) dX8_help_31 ?_
      obtain ⟨a109, ea109, h⟩ := h
      refine x_some ea109 ?_
      refine lv_iload_n hx hb dX8_help_34 rfl (lv_at hl 1 rfl) ?_
      obtain ⟨hK_a109, h⟩ := h
      obtain ⟨hi110, a111, ea111, h⟩ := h
      refine x_aald13 C hR hK_a109 hi110 dX8_help_35 ?_
      refine x_some ea111 ?_
      refine lv_bipush (v := 18) hx hb dX8_help_36 (by decide) ?_
      refine lv_dup2_11 hx hb dX8_help_38 rfl rfl ?_
      obtain ⟨hK_a111, h⟩ := h
      obtain ⟨hi112, h⟩ := h
      refine x_iald C hR hK_a111 hi112 dX8_help_39 ?_
      refine lv_topi (fun x113 ex113 => ?_)
      replace h := h x113 ex113
      refine lv_iconst (v := 1) hx hb dX8_help_40 (by decide) ?_
      refine lv_iadd hx hb dX8_help_41 ?_
      refine lv_topi (fun x114 ex114 => ?_)
      replace h := h x114 ex114
      obtain ⟨hi115, h⟩ := h
      refine x_iast C hR hK_a111 hS hi115 dX8_help_42 (fun H locs hR hS => ?_)
      obtain ⟨S116, eS116⟩ : ∃ z : sT, z = s_sB S105 a111 (Int32.toNatClampNeg (18 : Int32)) x114 := ⟨_, rfl⟩
      rw [← eS116] at hR
      replace h := h S116 eS116
      have hK_x0 : s_K S116 x0 = 10 := by rw [eS116]; exact hK_x0
      have hK_a108 : s_K S116 a108 = 9 := by rw [eS116]; exact hK_a108
      have hK_a109 : s_K S116 a109 = 13 := by rw [eS116]; exact hK_a109
      have hK_a111 : s_K S116 a111 = 11 := by rw [eS116]; exact hK_a111
      refine lv_aload_n hx hb dX8_help_43 rfl (lv_at hl 0 rfl) ?_
      refine x_g_289 C hR hK_x0 q_3_8 dX8_help_44 ?_
      obtain ⟨a117, ea117, h⟩ := h
      refine x_some ea117 ?_
      obtain ⟨hK_a117, h⟩ := h
      refine x_gN_257 C hR hK_a117 (xn_1 C) dX8_help_47 ?_
      obtain ⟨a118, ea118, h⟩ := h
      refine x_some ea118 ?_
      refine lv_iload_n hx hb dX8_help_50 rfl (lv_at hl 2 rfl) ?_
      obtain ⟨hK_a118, h⟩ := h
      obtain ⟨hi119, a120, ea120, h⟩ := h
      refine x_aald13 C hR hK_a118 hi119 dX8_help_51 ?_
      refine x_some ea120 ?_
      refine lv_bipush (v := 18) hx hb dX8_help_52 (by decide) ?_
      refine lv_dup2_11 hx hb dX8_help_54 rfl rfl ?_
      obtain ⟨hK_a120, h⟩ := h
      obtain ⟨hi121, h⟩ := h
      refine x_iald C hR hK_a120 hi121 dX8_help_55 ?_
      refine lv_topi (fun x122 ex122 => ?_)
      replace h := h x122 ex122
      refine lv_iconst (v := 1) hx hb dX8_help_56 (by decide) ?_
      refine lv_isub hx hb dX8_help_57 ?_
      refine lv_topi (fun x123 ex123 => ?_)
      replace h := h x123 ex123
      obtain ⟨hi124, h⟩ := h
      refine x_iast C hR hK_a120 hS hi124 dX8_help_58 (fun H locs hR hS => ?_)
      obtain ⟨S125, eS125⟩ : ∃ z : sT, z = s_sB S116 a120 (Int32.toNatClampNeg (18 : Int32)) x123 := ⟨_, rfl⟩
      rw [← eS125] at hR
      replace h := h S125 eS125
      have hK_x0 : s_K S125 x0 = 10 := by rw [eS125]; exact hK_x0
      have hK_a108 : s_K S125 a108 = 9 := by rw [eS125]; exact hK_a108
      have hK_a109 : s_K S125 a109 = 13 := by rw [eS125]; exact hK_a109
      have hK_a111 : s_K S125 a111 = 11 := by rw [eS125]; exact hK_a111
      have hK_a117 : s_K S125 a117 = 9 := by rw [eS125]; exact hK_a117
      have hK_a118 : s_K S125 a118 = 13 := by rw [eS125]; exact hK_a118
      have hK_a120 : s_K S125 a120 = 11 := by rw [eS125]; exact hK_a120
      refine lv_aload_n hx hb dX8_help_59 rfl (lv_at hl 0 rfl) ?_
      refine x_g_289 C hR hK_x0 q_3_8 dX8_help_60 ?_
      obtain ⟨a126, ea126, h⟩ := h
      refine x_some ea126 ?_
      obtain ⟨hK_a126, h⟩ := h
      refine x_gN_257 C hR hK_a126 (xn_1 C) dX8_help_63 ?_
      obtain ⟨a127, ea127, h⟩ := h
      refine x_some ea127 ?_
      refine lv_iload_n hx hb dX8_help_66 rfl (lv_at hl 2 rfl) ?_
      obtain ⟨hK_a127, h⟩ := h
      obtain ⟨hi128, a129, ea129, h⟩ := h
      refine x_aald13 C hR hK_a127 hi128 dX8_help_67 ?_
      refine x_some ea129 ?_
      refine lv_bipush (v := 10) hx hb dX8_help_68 (by decide) ?_
      refine lv_dup2_11 hx hb dX8_help_70 rfl rfl ?_
      obtain ⟨hK_a129, h⟩ := h
      obtain ⟨hi130, h⟩ := h
      refine x_iald C hR hK_a129 hi130 dX8_help_71 ?_
      refine lv_topi (fun x131 ex131 => ?_)
      replace h := h x131 ex131
      refine lv_iconst (v := 1) hx hb dX8_help_72 (by decide) ?_
      refine lv_iadd hx hb dX8_help_73 ?_
      refine lv_topi (fun x132 ex132 => ?_)
      replace h := h x132 ex132
      obtain ⟨hi133, h⟩ := h
      refine x_iast C hR hK_a129 hS hi133 dX8_help_74 (fun H locs hR hS => ?_)
      obtain ⟨S134, eS134⟩ : ∃ z : sT, z = s_sB S125 a129 (Int32.toNatClampNeg (10 : Int32)) x132 := ⟨_, rfl⟩
      rw [← eS134] at hR
      replace h := h S134 eS134
      have hK_x0 : s_K S134 x0 = 10 := by rw [eS134]; exact hK_x0
      have hK_a108 : s_K S134 a108 = 9 := by rw [eS134]; exact hK_a108
      have hK_a109 : s_K S134 a109 = 13 := by rw [eS134]; exact hK_a109
      have hK_a111 : s_K S134 a111 = 11 := by rw [eS134]; exact hK_a111
      have hK_a117 : s_K S134 a117 = 9 := by rw [eS134]; exact hK_a117
      have hK_a118 : s_K S134 a118 = 13 := by rw [eS134]; exact hK_a118
      have hK_a120 : s_K S134 a120 = 11 := by rw [eS134]; exact hK_a120
      have hK_a126 : s_K S134 a126 = 9 := by rw [eS134]; exact hK_a126
      have hK_a127 : s_K S134 a127 = 13 := by rw [eS134]; exact hK_a127
      have hK_a129 : s_K S134 a129 = 11 := by rw [eS134]; exact hK_a129
      refine lv_aload_n hx hb dX8_help_75 rfl (lv_at hl 0 rfl) ?_
      refine x_g_289 C hR hK_x0 q_3_8 dX8_help_76 ?_
      obtain ⟨a135, ea135, h⟩ := h
      refine x_some ea135 ?_
      obtain ⟨hK_a135, h⟩ := h
      refine x_gN_257 C hR hK_a135 (xn_1 C) dX8_help_79 ?_
      obtain ⟨a136, ea136, h⟩ := h
      refine x_some ea136 ?_
      refine lv_iload_n hx hb dX8_help_82 rfl (lv_at hl 2 rfl) ?_
      obtain ⟨hK_a136, h⟩ := h
      obtain ⟨hi137, a138, ea138, h⟩ := h
      refine x_aald13 C hR hK_a136 hi137 dX8_help_83 ?_
      refine x_some ea138 ?_
      refine lv_bipush (v := 10) hx hb dX8_help_84 (by decide) ?_
      obtain ⟨hK_a138, h⟩ := h
      obtain ⟨hi139, h⟩ := h
      refine x_iald C hR hK_a138 hi139 dX8_help_86 ?_
      refine lv_topi (fun x140 ex140 => ?_)
      replace h := h x140 ex140
      exact W.iret (v := x140) hx hb hr (fun t ht hW => ⟨⟨x140, S134, rfl, h, x_rt ht hR⟩, hS.F ht⟩) hS.2.2 dX8_help_87
    · replace h := h.2 hc107
      exact t_X8_help_b21 C hml hr hlocks  h H locs ls hR hS (lv_sub (l' := [(0, .ref x0)]) hl [0] rfl)
theorem m_X8_help (l : Launch) (gg : sG) (x0 : Nat) (x1 : Int32) (x2 : Int32) (S : sT) {Q : Int32 → sT → Prop} (h : w_X8_help x0 x1 x2 S Q) : x_Mi l gg yX8_help (x_ws yX8_help cX8_help 3 (some .int)) r_X8_help [.ref x0, .int x1, .int x2] S Q 0 0 := by
  refine x_ofW (cc := cX8_help) (own := RX8) (by decide +kernel) rfl (Nat.le_of_ble_eq_true rfl) ?_
  intro p e s m args below meth c C hml hr hlocks hin ht H locs ls hR hS hl
  exact t_X8_help_b0 C hml hr hlocks h H locs ls hR hS (lv_sub (l' := [(0, .ref x0), (1, .int x1), (2, .int x2)]) hl [0, 1, 2] rfl)
def w_X8_ducks_b39 (x0 : Nat) (x1 : Int32) (y0 : Int32) (y1 : Int32) (y2 : Nat) (S : sT)  (Q : Int32 → sT → Prop) : Prop :=
s_K S y2 = 11 ∧
    vp_in y1 (s_N S y2) ∧
    ∀ S102 : sT, S102 = s_sB S y2 (Int32.toNatClampNeg y1) y0 →
    s_K S102 x0 = 10 ∧
    ∃ a103 : Nat, s_R S102 289 x0 = some a103 ∧
    s_K S102 a103 = 9 ∧
    ∃ a104 : Nat, s_R S102 257 a103 = some a104 ∧
    s_K S102 a104 = 13 ∧
    vp_in x1 (s_N S102 a104) ∧
    ∃ a106 : Nat, s_P S102 a104 (Int32.toNatClampNeg x1) = some a106 ∧
    s_K S102 a106 = 11 ∧
    vp_in (8 : Int32) (s_N S102 a106) ∧
    ∀ x108 : Int32, x108 = s_B S102 a106 (Int32.toNatClampNeg (8 : Int32)) →
    Q x108 S102
def w_X8_ducks_b0 (x0 : Nat) (x1 : Int32) (x2 : Int32) (S : sT)  (Q : Int32 → sT → Prop) : Prop :=
s_K S x0 = 10 ∧
    ∀ S101 : sT, S101 = s_sI S 288 x0 (0 : Int32) →
    w_X8_isField x0 x1 S101 (fun x103 S102 =>
    ((¬ x103 = 0 → s_K S102 x0 = 10 ∧
    ∃ a105 : Nat, s_R S102 289 x0 = some a105 ∧
    s_K S102 a105 = 9 ∧
    ∃ a106 : Nat, s_R S102 257 a105 = some a106 ∧
    s_K S102 a106 = 13 ∧
    vp_in x1 (s_N S102 a106) ∧
    ∃ a108 : Nat, s_P S102 a106 (Int32.toNatClampNeg x1) = some a108 ∧
    ((x2 = 0 → w_X8_ducks_b39 x0 x1 (0 : Int32) (16 : Int32) a108 S102  Q) ∧
    (¬ x2 = 0 → w_X8_ducks_b39 x0 x1 (1 : Int32) (16 : Int32) a108 S102  Q))) ∧
    (x103 = 0 → s_K S102 x0 = 10 ∧
    w_X8_refuse x0 (1 : Int32) S102 (fun x111 S110 =>
    Q x111 S110))))
def w_X8_ducks (x0 : Nat) (x1 : Int32) (x2 : Int32) (S : sT) (Q : Int32 → sT → Prop) : Prop := w_X8_ducks_b0 x0 x1 x2 S Q
def r_X8_ducks : Room := x_rm 2 43 0 0
theorem b_X8_ducks : x_BV yX8_ducks cX8_ducks 3 (some .int) 2 := ⟨q_17_15, q_17_13, q_17_14, q_1_5, by decide +kernel⟩
set_option maxHeartbeats 4000000 in
theorem t_X8_ducks_b39 {Q : Int32 → sT → Prop} (C : x_C p s m args c cX8_ducks RX8 gg) (hml : c.maxLocals = 3) (hr : meth.sig.returnType = (some .int)) (hlocks : meth.locks = false) {x0 : Nat} {x1 : Int32} {y0 : Int32} {y1 : Int32} {y2 : Nat}  {S : sT}  (h : w_X8_ducks_b39 x0 x1 y0 y1 y2 S  Q) : x_X p l e r_X8_ducks s m args below meth c gg 3 0 0 (MQ below (va_Qi Q (fun S1 t => s_Rep gg S1 t.heap) (s_A gg)) args s 0 0 (s_A gg)) 39 [(0, .ref x0), (1, .int x1)] [.int y0, .int y1, .ref y2] S := by
  unfold w_X8_ducks_b39 at h
  obtain ⟨hx, hb, -⟩ := id C
  intro H locs ls hR hS hl
  obtain ⟨hK_y2, h⟩ := h
  obtain ⟨hi101, h⟩ := h
  refine x_iast C hR hK_y2 hS hi101 dX8_ducks_39 (fun H locs hR hS => ?_)
  obtain ⟨S102, eS102⟩ : ∃ z : sT, z = s_sB S y2 (Int32.toNatClampNeg y1) y0 := ⟨_, rfl⟩
  rw [← eS102] at hR
  replace h := h S102 eS102
  have hK_y2 : s_K S102 y2 = 11 := by rw [eS102]; exact hK_y2
  refine lv_aload_n hx hb dX8_ducks_40 rfl (lv_at hl 0 rfl) ?_
  obtain ⟨hK_x0, h⟩ := h
  refine x_g_289 C hR hK_x0 q_3_8 dX8_ducks_41 ?_
  obtain ⟨a103, ea103, h⟩ := h
  refine x_some ea103 ?_
  obtain ⟨hK_a103, h⟩ := h
  refine x_gN_257 C hR hK_a103 (xn_1 C) dX8_ducks_44 ?_
  obtain ⟨a104, ea104, h⟩ := h
  refine x_some ea104 ?_
  refine lv_iload_n hx hb dX8_ducks_47 rfl (lv_at hl 1 rfl) ?_
  obtain ⟨hK_a104, h⟩ := h
  obtain ⟨hi105, a106, ea106, h⟩ := h
  refine x_aald13 C hR hK_a104 hi105 dX8_ducks_48 ?_
  refine x_some ea106 ?_
  refine lv_bipush (v := 8) hx hb dX8_ducks_49 (by decide) ?_
  obtain ⟨hK_a106, h⟩ := h
  obtain ⟨hi107, h⟩ := h
  refine x_iald C hR hK_a106 hi107 dX8_ducks_51 ?_
  refine lv_topi (fun x108 ex108 => ?_)
  replace h := h x108 ex108
  exact W.iret (v := x108) hx hb hr (fun t ht hW => ⟨⟨x108, S102, rfl, h, x_rt ht hR⟩, hS.F ht⟩) hS.2.2 dX8_ducks_52
set_option maxHeartbeats 4000000 in
theorem t_X8_ducks_b0 {Q : Int32 → sT → Prop} (C : x_C p s m args c cX8_ducks RX8 gg) (hml : c.maxLocals = 3) (hr : meth.sig.returnType = (some .int)) (hlocks : meth.locks = false) {x0 : Nat} {x1 : Int32} {x2 : Int32}  {S : sT}  (h : w_X8_ducks_b0 x0 x1 x2 S  Q) : x_X p l e r_X8_ducks s m args below meth c gg 3 0 0 (MQ below (va_Qi Q (fun S1 t => s_Rep gg S1 t.heap) (s_A gg)) args s 0 0 (s_A gg)) 0 [(0, .ref x0), (1, .int x1), (2, .int x2)] [] S := by
  unfold w_X8_ducks_b0 at h
  obtain ⟨hx, hb, -⟩ := id C
  intro H locs ls hR hS hl
  refine lv_aload_n hx hb dX8_ducks_0 rfl (lv_at hl 0 rfl) ?_
  refine lv_iconst (v := 0) hx hb dX8_ducks_1 (by decide) ?_
  obtain ⟨hK_x0, h⟩ := h
  refine x_p_288 (v := (0 : Int32)) C hR hK_x0 hS q_8_1 dX8_ducks_2 (fun H locs hR hS => ?_)
  obtain ⟨S101, eS101⟩ : ∃ z : sT, z = s_sI S 288 x0 (0 : Int32) := ⟨_, rfl⟩
  rw [← eS101] at hR
  replace h := h S101 eS101
  have hK_x0 : s_K S101 x0 = 10 := by rw [eS101]; exact hK_x0
  refine lv_aload_n hx hb dX8_ducks_5 rfl (lv_at hl 0 rfl) ?_
  refine lv_iload_n hx hb dX8_ducks_6 rfl (lv_at hl 1 rfl) ?_
  refine x_ki (x_runV (As := [.int x1]) (rest := []) C hml hR hS (m_X8_isField l gg x0 x1 S101 h) b_X8_isField q_13_7 (by rw [hK_x0]; decide) (s_E_9 hK_x0) rfl rfl rfl rfl ⟨Nat.le_of_ble_eq_true rfl, Nat.le_of_ble_eq_true rfl⟩ rfl hl.1 (Nat.le_of_ble_eq_true rfl) dX8_ducks_7 ⟨Nat.le_refl _, Nat.le_refl _⟩) hS (fun x103 S102 H locs hn hR hS => ?_)
  replace h := hn
  clear hn
  refine lv_if_ne (tgt := 19) hx hb dX8_ducks_10 (by decide) (fun hc104 => ?_) (fun hc104 => ?_)
  · replace h := h.1 hc104
    refine lv_aload_n hx hb dX8_ducks_19 rfl (lv_at hl 0 rfl) ?_
    obtain ⟨hK_x0, h⟩ := h
    refine x_g_289 C hR hK_x0 q_3_8 dX8_ducks_20 ?_
    obtain ⟨a105, ea105, h⟩ := h
    refine x_some ea105 ?_
    obtain ⟨hK_a105, h⟩ := h
    refine x_gN_257 C hR hK_a105 (xn_1 C) dX8_ducks_23 ?_
    obtain ⟨a106, ea106, h⟩ := h
    refine x_some ea106 ?_
    refine lv_iload_n hx hb dX8_ducks_26 rfl (lv_at hl 1 rfl) ?_
    obtain ⟨hK_a106, h⟩ := h
    obtain ⟨hi107, a108, ea108, h⟩ := h
    refine x_aald13 C hR hK_a106 hi107 dX8_ducks_27 ?_
    refine x_some ea108 ?_
    refine lv_bipush (v := 16) hx hb dX8_ducks_28 (by decide) ?_
    refine lv_iload_n hx hb dX8_ducks_30 rfl (lv_at hl 2 rfl) ?_
    refine lv_if_eq (tgt := 38) hx hb dX8_ducks_31 (by decide) (fun hc109 => ?_) (fun hc109 => ?_)
    · replace h := h.1 hc109
      refine lv_iconst (v := 0) hx hb dX8_ducks_38 (by decide) ?_
      exact t_X8_ducks_b39 C hml hr hlocks  h H locs ls hR hS (lv_sub (l' := [(0, .ref x0), (1, .int x1)]) hl [0, 1] rfl)
    · replace h := h.2 hc109
      refine lv_iconst (v := 1) hx hb dX8_ducks_34 (by decide) ?_
      refine lv_goto (tgt := 39) hx hb dX8_ducks_35 (by decide) ?_
      exact t_X8_ducks_b39 C hml hr hlocks  h H locs ls hR hS (lv_sub (l' := [(0, .ref x0), (1, .int x1)]) hl [0, 1] rfl)
  · replace h := h.2 hc104
    refine lv_aload_n hx hb dX8_ducks_13 rfl (lv_at hl 0 rfl) ?_
    refine lv_iconst (v := 1) hx hb dX8_ducks_14 (by decide) ?_
    obtain ⟨hK_x0, h⟩ := h
    refine x_ki (x_runV (As := [.int (1 : Int32)]) (rest := []) C hml hR hS (m_X8_refuse l gg x0 (1 : Int32) S102 h) b_X8_refuse q_8_5 (by rw [hK_x0]; decide) (s_E_9 hK_x0) rfl rfl rfl rfl ⟨Nat.le_of_ble_eq_true rfl, Nat.le_of_ble_eq_true rfl⟩ rfl hl.1 (Nat.le_of_ble_eq_true rfl) dX8_ducks_15 ⟨Nat.le_refl _, Nat.le_refl _⟩) hS (fun x111 S110 H locs hn hR hS => ?_)
    replace h := hn
    clear hn
    exact W.iret (v := x111) hx hb hr (fun t ht hW => ⟨⟨x111, S110, rfl, h, x_rt ht hR⟩, hS.F ht⟩) hS.2.2 dX8_ducks_18
theorem m_X8_ducks (l : Launch) (gg : sG) (x0 : Nat) (x1 : Int32) (x2 : Int32) (S : sT) {Q : Int32 → sT → Prop} (h : w_X8_ducks x0 x1 x2 S Q) : x_Mi l gg yX8_ducks (x_ws yX8_ducks cX8_ducks 3 (some .int)) r_X8_ducks [.ref x0, .int x1, .int x2] S Q 0 0 := by
  refine x_ofW (cc := cX8_ducks) (own := RX8) (by decide +kernel) rfl (Nat.le_of_ble_eq_true rfl) ?_
  intro p e s m args below meth c C hml hr hlocks hin ht H locs ls hR hS hl
  exact t_X8_ducks_b0 C hml hr hlocks h H locs ls hR hS (lv_sub (l' := [(0, .ref x0), (1, .int x1), (2, .int x2)]) hl [0, 1, 2] rfl)
end
