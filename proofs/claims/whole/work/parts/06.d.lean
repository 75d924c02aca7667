section
variable {p : Program} {l : Launch} {e : Env} {s : State} {m : MethodId} {args : Array Value} {below : List Frame} {meth : Method} {c : Code} {gg : sG}
def w_X8_thrown_b0 (x0 : Nat) (S : sT)  (Q : Int32 → sT → Prop) : Prop :=
s_K S x0 = 10 ∧
    ∀ x101 : Int32, x101 = s_I S 288 x0 →
    Q x101 S
def w_X8_thrown (x0 : Nat) (S : sT) (Q : Int32 → sT → Prop) : Prop := w_X8_thrown_b0 x0 S Q
def r_X8_thrown : Room := x_rm 0 0 0 0
theorem b_X8_thrown : x_BV yX8_thrown cX8_thrown 1 (some .int) 0 := ⟨q_8_19, q_8_17, q_8_18, q_1_5, by decide +kernel⟩
set_option maxHeartbeats 4000000 in
theorem t_X8_thrown_b0 (C : x_C p s m args c cX8_thrown RX8 gg) (hml : c.maxLocals = 1) (hr : meth.sig.returnType = (some .int)) (hlocks : meth.locks = false) {x0 : Nat}  {S : sT}  {Q : Int32 → sT → Prop} (h : w_X8_thrown_b0 x0 S  Q) : x_X p l e r_X8_thrown s m args below meth c gg 1 0 0 (MQ below (va_Qi Q (fun S1 t => s_Rep gg S1 t.heap) (s_A gg)) args s 0 0 (s_A gg)) 0 [(0, .ref x0)] [] S := by
  unfold w_X8_thrown_b0 at h
  obtain ⟨hx, hb, -⟩ := id C
  intro H locs ls hR hS hl
  refine lv_aload_n hx hb dX8_thrown_0 rfl (lv_at hl 0 rfl) ?_
  obtain ⟨hK_x0, h⟩ := h
  refine x_g_288 C hR hK_x0 q_8_1 dX8_thrown_1 ?_
  refine lv_topi (fun x101 ex101 => ?_)
  replace h := h x101 ex101
  exact W.iret (v := x101) hx hb hr (fun t ht hW => ⟨⟨x101, S, rfl, h, x_rt ht hR⟩, hS.F ht⟩) hS.2.2 dX8_thrown_4
theorem m_X8_thrown (l : Launch) (gg : sG) (x0 : Nat) (S : sT) {Q : Int32 → sT → Prop} (h : w_X8_thrown x0 S Q) : x_Mi l gg yX8_thrown (x_ws yX8_thrown cX8_thrown 1 (some .int)) r_X8_thrown [.ref x0] S Q 0 0 := by
  refine x_ofW (cc := cX8_thrown) (own := RX8) (by decide +kernel) rfl (Nat.le_of_ble_eq_true rfl) ?_
  intro p e s m args below meth c C hml hr hlocks hin ht H locs ls hR hS hl
  exact t_X8_thrown_b0 C hml hr hlocks h H locs ls hR hS (lv_sub (l' := [(0, .ref x0)]) hl [0] rfl)
def w_X8_isField_b0 (x0 : Nat) (x1 : Int32) (S : sT)  (Q : Int32 → sT → Prop) : Prop :=
s_K S x0 = 10 ∧
    ∃ a101 : Nat, s_R S 289 x0 = some a101 ∧
    s_K S a101 = 9 ∧
    ∃ a102 : Nat, s_R S 257 a101 = some a102 ∧
    s_K S a102 = 13 ∧
    ∀ x103 : Int32, x103 = nI (s_N S a102) →
    ∀ x104 : Int32, x104 = x103 - (1 : Int32) →
    w_X8_is x1 (0 : Int32) x104 S (fun x106 S105 =>
    (x106 = 0 ∨ x106 = 1) ∧
    Q x106 S105)
def w_X8_isField (x0 : Nat) (x1 : Int32) (S : sT) (Q : Int32 → sT → Prop) : Prop := w_X8_isField_b0 x0 x1 S Q
def r_X8_isField : Room := x_rm 1 22 0 0
theorem b_X8_isField : x_BV yX8_isField cX8_isField 2 (some .boolean) 1 := ⟨q_13_10, q_13_8, q_13_9, q_1_5, by decide +kernel⟩
set_option maxHeartbeats 4000000 in
theorem t_X8_isField_b0 (C : x_C p s m args c cX8_isField RX8 gg) (hml : c.maxLocals = 2) (hr : meth.sig.returnType = (some .boolean)) (hlocks : meth.locks = false) {x0 : Nat} {x1 : Int32}  {S : sT}  {Q : Int32 → sT → Prop} (h : w_X8_isField_b0 x0 x1 S  Q) : x_X p l e r_X8_isField s m args below meth c gg 2 0 0 (MQ below (va_Qi Q (fun S1 t => s_Rep gg S1 t.heap) (s_A gg)) args s 0 0 (s_A gg)) 0 [(0, .ref x0), (1, .int x1)] [] S := by
  unfold w_X8_isField_b0 at h
  obtain ⟨hx, hb, -⟩ := id C
  intro H locs ls hR hS hl
  refine lv_iload_n hx hb dX8_isField_0 rfl (lv_at hl 1 rfl) ?_
  refine lv_iconst (v := 0) hx hb dX8_isField_1 (by decide) ?_
  refine lv_aload_n hx hb dX8_isField_2 rfl (lv_at hl 0 rfl) ?_
  obtain ⟨hK_x0, h⟩ := h
  refine x_g_289 C hR hK_x0 q_3_8 dX8_isField_3 ?_
  obtain ⟨a101, ea101, h⟩ := h
  refine x_some ea101 ?_
  obtain ⟨hK_a101, h⟩ := h
  refine x_gN_257 C hR hK_a101 ⟨rfl, C.2.2.2.2.2.2.1 _ (List.mem_of_getElem? (i := 1) rfl)⟩ dX8_isField_6 ?_
  obtain ⟨a102, ea102, h⟩ := h
  refine x_some ea102 ?_
  obtain ⟨hK_a102, h⟩ := h
  refine x_alen13 C hR hK_a102 dX8_isField_9 ?_
  refine lv_topi (fun x103 ex103 => ?_)
  replace h := h x103 ex103
  refine lv_iconst (v := 1) hx hb dX8_isField_10 (by decide) ?_
  refine lv_isub hx hb dX8_isField_11 ?_
  refine lv_topi (fun x104 ex104 => ?_)
  replace h := h x104 ex104
  refine x_ki (x_runS (As := [.int x1, .int (0 : Int32), .int x104]) (rest := []) C hml hR hS (m_X8_is l gg x1 (0 : Int32) x104 S h) b_X8_is q_8_2 rfl rfl ⟨Nat.le_of_ble_eq_true rfl, Nat.le_of_ble_eq_true rfl⟩ rfl hl.1 (Nat.le_of_ble_eq_true rfl) dX8_isField_12 ⟨Nat.le_refl _, Nat.le_refl _⟩) hS (fun x106 S105 H locs h hR hS => ?_)
  obtain ⟨hz107, h⟩ := h
  exact W.zret (v := x106) hx hb hr (zb_n hz107) (fun t ht hW => ⟨⟨x106, S105, rfl, h, x_rt ht hR⟩, hS.F ht⟩) hS.2.2 dX8_isField_15
theorem m_X8_isField (l : Launch) (gg : sG) (x0 : Nat) (x1 : Int32) (S : sT) {Q : Int32 → sT → Prop} (h : w_X8_isField x0 x1 S Q) : x_Mi l gg yX8_isField (x_ws yX8_isField cX8_isField 2 (some .boolean)) r_X8_isField [.ref x0, .int x1] S Q 0 0 := by
  refine x_ofW (cc := cX8_isField) (own := RX8) (by decide +kernel) rfl (Nat.le_of_ble_eq_true rfl) ?_
  intro p e s m args below meth c C hml hr hlocks hin ht H locs ls hR hS hl
  exact t_X8_isField_b0 C hml hr hlocks h H locs ls hR hS (lv_sub (l' := [(0, .ref x0), (1, .int x1)]) hl [0, 1] rfl)
def w_X8_gate_b68 (x3 : Int32) (y0 : Int32) (y1 : Int32) (y2 : Nat) (S : sT)  (Q : Int32 → sT → Prop) : Prop :=
s_K S y2 = 11 ∧
    vp_in y1 (s_N S y2) ∧
    ∀ S102 : sT, S102 = s_sB S y2 (Int32.toNatClampNeg y1) y0 →
    (x3 = 0 ∨ x3 = 1) ∧
    Q x3 S102
def w_X8_gate_b47 (x0 : Nat) (x1 : Int32) (x2 : Int32) (y0 : Int32) (S : sT)  (Q : Int32 → sT → Prop) : Prop :=
s_K S x0 = 10 ∧
    ∃ a101 : Nat, s_R S 289 x0 = some a101 ∧
    s_K S a101 = 9 ∧
    ∃ a102 : Nat, s_R S 257 a101 = some a102 ∧
    s_K S a102 = 13 ∧
    vp_in x1 (s_N S a102) ∧
    ∃ a104 : Nat, s_P S a102 (Int32.toNatClampNeg x1) = some a104 ∧
    ((x2 = 0 → w_X8_gate_b68 y0 (0 : Int32) (12 : Int32) a104 S  Q) ∧
    (¬ x2 = 0 → w_X8_gate_b68 y0 (1 : Int32) (12 : Int32) a104 S  Q))
def w_X8_gate_b14 (x0 : Nat) (x1 : Int32) (x2 : Int32) (y0 : Int32) (y1 : Nat) (S : sT)  (Q : Int32 → sT → Prop) : Prop :=
s_K S y1 = 10 ∧
    ∀ S101 : sT, S101 = s_sI S 288 y1 y0 →
    s_K S101 x0 = 10 ∧
    ∀ x102 : Int32, x102 = s_I S101 288 x0 →
    ((x102 ≤ 0 → ∃ a104 : Nat, s_R S101 289 x0 = some a104 ∧
    s_K S101 a104 = 9 ∧
    ∃ a105 : Nat, s_R S101 257 a104 = some a105 ∧
    s_K S101 a105 = 13 ∧
    vp_in x1 (s_N S101 a105) ∧
    ∃ a107 : Nat, s_P S101 a105 (Int32.toNatClampNeg x1) = some a107 ∧
    s_K S101 a107 = 11 ∧
    vp_in (12 : Int32) (s_N S101 a107) ∧
    ∀ x109 : Int32, x109 = s_B S101 a107 (Int32.toNatClampNeg (12 : Int32)) →
    ((¬ x109 = (1 : Int32) → w_X8_gate_b47 x0 x1 x2 (0 : Int32) S101  Q) ∧
    (x109 = (1 : Int32) → w_X8_gate_b47 x0 x1 x2 (1 : Int32) S101  Q))) ∧
    (¬ x102 ≤ 0 → Q (0 : Int32) S101))
def w_X8_gate_b0 (x0 : Nat) (x1 : Int32) (x2 : Int32) (S : sT)  (Q : Int32 → sT → Prop) : Prop :=
s_K S x0 = 10 ∧
    w_X8_isField x0 x1 S (fun x102 S101 =>
    ((x102 = 0 → w_X8_gate_b14 x0 x1 x2 (1 : Int32) x0 S101  Q) ∧
    (¬ x102 = 0 → w_X8_gate_b14 x0 x1 x2 (0 : Int32) x0 S101  Q)))
def w_X8_gate (x0 : Nat) (x1 : Int32) (x2 : Int32) (S : sT) (Q : Int32 → sT → Prop) : Prop := w_X8_gate_b0 x0 x1 x2 S Q
def r_X8_gate : Room := x_rm 2 43 0 0
theorem b_X8_gate : x_BV yX8_gate cX8_gate 4 (some .boolean) 2 := ⟨q_13_6, q_13_4, q_13_5, q_1_5, by decide +kernel⟩
set_option maxHeartbeats 4000000 in
theorem t_X8_gate_b68 (C : x_C p s m args c cX8_gate RX8 gg) (hml : c.maxLocals = 4) (hr : meth.sig.returnType = (some .boolean)) (hlocks : meth.locks = false) {x3 : Int32} {y0 : Int32} {y1 : Int32} {y2 : Nat}  {S : sT}  {Q : Int32 → sT → Prop} (h : w_X8_gate_b68 x3 y0 y1 y2 S  Q) : x_X p l e r_X8_gate s m args below meth c gg 4 0 0 (MQ below (va_Qi Q (fun S1 t => s_Rep gg S1 t.heap) (s_A gg)) args s 0 0 (s_A gg)) 68 [(3, .int x3)] [.int y0, .int y1, .ref y2] S := by
  unfold w_X8_gate_b68 at h
  obtain ⟨hx, hb, -⟩ := id C
  intro H locs ls hR hS hl
  obtain ⟨hK_y2, h⟩ := h
  obtain ⟨hi101, h⟩ := h
  refine x_iast C hR hK_y2 hS hi101 dX8_gate_68 (fun H locs hR hS => ?_)
  obtain ⟨S102, eS102⟩ : ∃ z : sT, z = s_sB S y2 (Int32.toNatClampNeg y1) y0 := ⟨_, rfl⟩
  rw [← eS102] at hR
  replace h := h S102 eS102
  have hK_y2 : s_K S102 y2 = 11 := by rw [eS102]; exact hK_y2
  refine lv_iload_n hx hb dX8_gate_69 rfl (lv_at hl 0 rfl) ?_
  obtain ⟨hz103, h⟩ := h
  exact W.zret (v := x3) hx hb hr (zb_n hz103) (fun t ht hW => ⟨⟨x3, S102, rfl, h, x_rt ht hR⟩, hS.F ht⟩) hS.2.2 dX8_gate_70
set_option maxHeartbeats 4000000 in
theorem t_X8_gate_b47 (C : x_C p s m args c cX8_gate RX8 gg) (hml : c.maxLocals = 4) (hr : meth.sig.returnType = (some .boolean)) (hlocks : meth.locks = false) {x0 : Nat} {x1 : Int32} {x2 : Int32} {y0 : Int32}  {S : sT}  {Q : Int32 → sT → Prop} (h : w_X8_gate_b47 x0 x1 x2 y0 S  Q) : x_X p l e r_X8_gate s m args below meth c gg 4 0 0 (MQ below (va_Qi Q (fun S1 t => s_Rep gg S1 t.heap) (s_A gg)) args s 0 0 (s_A gg)) 47 [(0, .ref x0), (1, .int x1), (2, .int x2)] [.int y0] S := by
  unfold w_X8_gate_b47 at h
  obtain ⟨hx, hb, -⟩ := id C
  intro H locs ls hR hS hl
  refine lv_istore_n (lv' := [(3, .int y0), (0, .ref x0), (1, .int x1), (2, .int x2)]) hx hb dX8_gate_47 rfl hl (by decide) rfl (fun ls hl => ?_)
  refine lv_aload_n hx hb dX8_gate_48 rfl (lv_at hl 1 rfl) ?_
  obtain ⟨hK_x0, h⟩ := h
  refine x_g_289 C hR hK_x0 q_3_8 dX8_gate_49 ?_
  obtain ⟨a101, ea101, h⟩ := h
  refine x_some ea101 ?_
  obtain ⟨hK_a101, h⟩ := h
  refine x_gN_257 C hR hK_a101 ⟨rfl, C.2.2.2.2.2.2.1 _ (List.mem_of_getElem? (i := 1) rfl)⟩ dX8_gate_52 ?_
  obtain ⟨a102, ea102, h⟩ := h
  refine x_some ea102 ?_
  refine lv_iload_n hx hb dX8_gate_55 rfl (lv_at hl 2 rfl) ?_
  obtain ⟨hK_a102, h⟩ := h
  obtain ⟨hi103, a104, ea104, h⟩ := h
  refine x_aald13 C hR hK_a102 hi103 dX8_gate_56 ?_
  refine x_some ea104 ?_
  refine lv_bipush (v := 12) hx hb dX8_gate_57 (by decide) ?_
  refine lv_iload_n hx hb dX8_gate_59 rfl (lv_at hl 3 rfl) ?_
  refine lv_if_eq (tgt := 67) hx hb dX8_gate_60 (by decide) (fun hc105 => ?_) (fun hc105 => ?_)
  · replace h := h.1 hc105
    refine lv_iconst (v := 0) hx hb dX8_gate_67 (by decide) ?_
    exact t_X8_gate_b68 C hml hr hlocks  h H locs ls hR hS (lv_sub (l' := [(3, .int y0)]) hl [0] rfl)
  · replace h := h.2 hc105
    refine lv_iconst (v := 1) hx hb dX8_gate_63 (by decide) ?_
    refine lv_goto (tgt := 68) hx hb dX8_gate_64 (by decide) ?_
    exact t_X8_gate_b68 C hml hr hlocks  h H locs ls hR hS (lv_sub (l' := [(3, .int y0)]) hl [0] rfl)
set_option maxHeartbeats 4000000 in
theorem t_X8_gate_b14 (C : x_C p s m args c cX8_gate RX8 gg) (hml : c.maxLocals = 4) (hr : meth.sig.returnType = (some .boolean)) (hlocks : meth.locks = false) {x0 : Nat} {x1 : Int32} {x2 : Int32} {y0 : Int32} {y1 : Nat}  {S : sT}  {Q : Int32 → sT → Prop} (h : w_X8_gate_b14 x0 x1 x2 y0 y1 S  Q) : x_X p l e r_X8_gate s m args below meth c gg 4 0 0 (MQ below (va_Qi Q (fun S1 t => s_Rep gg S1 t.heap) (s_A gg)) args s 0 0 (s_A gg)) 14 [(0, .ref x0), (1, .int x1), (2, .int x2)] [.int y0, .ref y1] S := by
  unfold w_X8_gate_b14 at h
  obtain ⟨hx, hb, -⟩ := id C
  intro H locs ls hR hS hl
  obtain ⟨hK_y1, h⟩ := h
  refine x_p_288 (v := y0) C hR hK_y1 hS q_8_1 dX8_gate_14 (fun H locs hR hS => ?_)
  obtain ⟨S101, eS101⟩ : ∃ z : sT, z = s_sI S 288 y1 y0 := ⟨_, rfl⟩
  rw [← eS101] at hR
  replace h := h S101 eS101
  have hK_y1 : s_K S101 y1 = 10 := by rw [eS101]; exact hK_y1
  refine lv_aload_n hx hb dX8_gate_17 rfl (lv_at hl 0 rfl) ?_
  obtain ⟨hK_x0, h⟩ := h
  refine x_g_288 C hR hK_x0 q_8_1 dX8_gate_18 ?_
  refine lv_topi (fun x102 ex102 => ?_)
  replace h := h x102 ex102
  refine lv_if_le (tgt := 26) hx hb dX8_gate_21 (by decide) (fun hc103 => ?_) (fun hc103 => ?_)
  · replace h := h.1 hc103
    refine lv_aload_n hx hb dX8_gate_26 rfl (lv_at hl 0 rfl) ?_
    refine x_g_289 C hR hK_x0 q_3_8 dX8_gate_27 ?_
    obtain ⟨a104, ea104, h⟩ := h
    refine x_some ea104 ?_
    obtain ⟨hK_a104, h⟩ := h
    refine x_gN_257 C hR hK_a104 ⟨rfl, C.2.2.2.2.2.2.1 _ (List.mem_of_getElem? (i := 1) rfl)⟩ dX8_gate_30 ?_
    obtain ⟨a105, ea105, h⟩ := h
    refine x_some ea105 ?_
    refine lv_iload_n hx hb dX8_gate_33 rfl (lv_at hl 1 rfl) ?_
    obtain ⟨hK_a105, h⟩ := h
    obtain ⟨hi106, a107, ea107, h⟩ := h
    refine x_aald13 C hR hK_a105 hi106 dX8_gate_34 ?_
    refine x_some ea107 ?_
    refine lv_bipush (v := 12) hx hb dX8_gate_35 (by decide) ?_
    obtain ⟨hK_a107, h⟩ := h
    obtain ⟨hi108, h⟩ := h
    refine x_iald C hR hK_a107 hi108 dX8_gate_37 ?_
    refine lv_topi (fun x109 ex109 => ?_)
    replace h := h x109 ex109
    refine lv_iconst (v := 1) hx hb dX8_gate_38 (by decide) ?_
    refine lv_icmp_ne (tgt := 46) hx hb dX8_gate_39 (by decide) (fun hc110 => ?_) (fun hc110 => ?_)
    · replace h := h.1 hc110
      refine lv_iconst (v := 0) hx hb dX8_gate_46 (by decide) ?_
      exact t_X8_gate_b47 C hml hr hlocks  h H locs ls hR hS (lv_sub (l' := [(0, .ref x0), (1, .int x1), (2, .int x2)]) hl [0, 1, 2] rfl)
    · replace h := h.2 hc110
      refine lv_iconst (v := 1) hx hb dX8_gate_42 (by decide) ?_
      refine lv_goto (tgt := 47) hx hb dX8_gate_43 (by decide) ?_
      exact t_X8_gate_b47 C hml hr hlocks  h H locs ls hR hS (lv_sub (l' := [(0, .ref x0), (1, .int x1), (2, .int x2)]) hl [0, 1, 2] rfl)
  · replace h := h.2 hc103
    refine lv_iconst (v := 0) hx hb dX8_gate_24 (by decide) ?_
    exact W.zret (v := (0 : Int32)) hx hb hr (by decide) (fun t ht hW => ⟨⟨(0 : Int32), S101, rfl, h, x_rt ht hR⟩, hS.F ht⟩) hS.2.2 dX8_gate_25
set_option maxHeartbeats 4000000 in
theorem t_X8_gate_b0 (C : x_C p s m args c cX8_gate RX8 gg) (hml : c.maxLocals = 4) (hr : meth.sig.returnType = (some .boolean)) (hlocks : meth.locks = false) {x0 : Nat} {x1 : Int32} {x2 : Int32}  {S : sT}  {Q : Int32 → sT → Prop} (h : w_X8_gate_b0 x0 x1 x2 S  Q) : x_X p l e r_X8_gate s m args below meth c gg 4 0 0 (MQ below (va_Qi Q (fun S1 t => s_Rep gg S1 t.heap) (s_A gg)) args s 0 0 (s_A gg)) 0 [(0, .ref x0), (1, .int x1), (2, .int x2)] [] S := by
  unfold w_X8_gate_b0 at h
  obtain ⟨hx, hb, -⟩ := id C
  intro H locs ls hR hS hl
  refine lv_aload_n hx hb dX8_gate_0 rfl (lv_at hl 0 rfl) ?_
  refine lv_aload_n hx hb dX8_gate_1 rfl (lv_at hl 0 rfl) ?_
  refine lv_iload_n hx hb dX8_gate_2 rfl (lv_at hl 1 rfl) ?_
  obtain ⟨hK_x0, h⟩ := h
  refine x_ki (x_runV (As := [.int x1]) (rest := [.ref x0]) C hml hR hS (m_X8_isField l gg x0 x1 S h) b_X8_isField q_13_7 (by rw [hK_x0]; decide) (s_E_9 hK_x0) rfl rfl rfl rfl ⟨Nat.le_of_ble_eq_true rfl, Nat.le_of_ble_eq_true rfl⟩ rfl hl.1 (Nat.le_of_ble_eq_true rfl) dX8_gate_3 ⟨Nat.le_refl _, Nat.le_refl _⟩) hS (fun x102 S101 H locs h hR hS => ?_)
  refine lv_if_eq (tgt := 13) hx hb dX8_gate_6 (by decide) (fun hc103 => ?_) (fun hc103 => ?_)
  · replace h := h.1 hc103
    refine lv_iconst (v := 1) hx hb dX8_gate_13 (by decide) ?_
    exact t_X8_gate_b14 C hml hr hlocks  h H locs ls hR hS (lv_sub (l' := [(0, .ref x0), (1, .int x1), (2, .int x2)]) hl [0, 1, 2] rfl)
  · replace h := h.2 hc103
    refine lv_iconst (v := 0) hx hb dX8_gate_9 (by decide) ?_
    refine lv_goto (tgt := 14) hx hb dX8_gate_10 (by decide) ?_
    exact t_X8_gate_b14 C hml hr hlocks  h H locs ls hR hS (lv_sub (l' := [(0, .ref x0), (1, .int x1), (2, .int x2)]) hl [0, 1, 2] rfl)
theorem m_X8_gate (l : Launch) (gg : sG) (x0 : Nat) (x1 : Int32) (x2 : Int32) (S : sT) {Q : Int32 → sT → Prop} (h : w_X8_gate x0 x1 x2 S Q) : x_Mi l gg yX8_gate (x_ws yX8_gate cX8_gate 4 (some .boolean)) r_X8_gate [.ref x0, .int x1, .int x2] S Q 0 0 := by
  refine x_ofW (cc := cX8_gate) (own := RX8) (by decide +kernel) rfl (Nat.le_of_ble_eq_true rfl) ?_
  intro p e s m args below meth c C hml hr hlocks hin ht H locs ls hR hS hl
  exact t_X8_gate_b0 C hml hr hlocks h H locs ls hR hS (lv_sub (l' := [(0, .ref x0), (1, .int x1), (2, .int x2)]) hl [0, 1, 2] rfl)
def w_X8_refuse_b0 (x0 : Nat) (x1 : Int32) (S : sT)  (Q : Int32 → sT → Prop) : Prop :=
s_K S x0 = 10 ∧
    ∀ S101 : sT, S101 = s_sI S 288 x0 x1 →
    Q (0 : Int32) S101
def w_X8_refuse (x0 : Nat) (x1 : Int32) (S : sT) (Q : Int32 → sT → Prop) : Prop := w_X8_refuse_b0 x0 x1 S Q
def r_X8_refuse : Room := x_rm 0 0 0 0
theorem b_X8_refuse : x_BV yX8_refuse cX8_refuse 2 (some .int) 1 := ⟨q_8_8, q_8_6, q_8_7, q_1_5, by decide +kernel⟩
set_option maxHeartbeats 4000000 in
theorem t_X8_refuse_b0 (C : x_C p s m args c cX8_refuse RX8 gg) (hml : c.maxLocals = 2) (hr : meth.sig.returnType = (some .int)) (hlocks : meth.locks = false) {x0 : Nat} {x1 : Int32}  {S : sT}  {Q : Int32 → sT → Prop} (h : w_X8_refuse_b0 x0 x1 S  Q) : x_X p l e r_X8_refuse s m args below meth c gg 2 0 0 (MQ below (va_Qi Q (fun S1 t => s_Rep gg S1 t.heap) (s_A gg)) args s 0 0 (s_A gg)) 0 [(0, .ref x0), (1, .int x1)] [] S := by
  unfold w_X8_refuse_b0 at h
  obtain ⟨hx, hb, -⟩ := id C
  intro H locs ls hR hS hl
  refine lv_aload_n hx hb dX8_refuse_0 rfl (lv_at hl 0 rfl) ?_
  refine lv_iload_n hx hb dX8_refuse_1 rfl (lv_at hl 1 rfl) ?_
  obtain ⟨hK_x0, h⟩ := h
  refine x_p_288 (v := x1) C hR hK_x0 hS q_8_1 dX8_refuse_2 (fun H locs hR hS => ?_)
  obtain ⟨S101, eS101⟩ : ∃ z : sT, z = s_sI S 288 x0 x1 := ⟨_, rfl⟩
  rw [← eS101] at hR
  replace h := h S101 eS101
  have hK_x0 : s_K S101 x0 = 10 := by rw [eS101]; exact hK_x0
  refine lv_iconst (v := 0) hx hb dX8_refuse_5 (by decide) ?_
  exact W.iret (v := (0 : Int32)) hx hb hr (fun t ht hW => ⟨⟨(0 : Int32), S101, rfl, h, x_rt ht hR⟩, hS.F ht⟩) hS.2.2 dX8_refuse_6
theorem m_X8_refuse (l : Launch) (gg : sG) (x0 : Nat) (x1 : Int32) (S : sT) {Q : Int32 → sT → Prop} (h : w_X8_refuse x0 x1 S Q) : x_Mi l gg yX8_refuse (x_ws yX8_refuse cX8_refuse 2 (some .int)) r_X8_refuse [.ref x0, .int x1] S Q 0 0 := by
  refine x_ofW (cc := cX8_refuse) (own := RX8) (by decide +kernel) rfl (Nat.le_of_ble_eq_true rfl) ?_
  intro p e s m args below meth c C hml hr hlocks hin ht H locs ls hR hS hl
  exact t_X8_refuse_b0 C hml hr hlocks h H locs ls hR hS (lv_sub (l' := [(0, .ref x0), (1, .int x1)]) hl [0, 1] rfl)
def w_X8_stones_b0 (x0 : Nat) (x1 : Int32) (x2 : Int32) (S : sT)  (Q : Int32 → sT → Prop) : Prop :=
s_K S x0 = 10 ∧
    ∀ S101 : sT, S101 = s_sI S 288 x0 (0 : Int32) →
    w_X8_isField x0 x1 S101 (fun x103 S102 =>
    ((¬ x103 = 0 → w_X8_is x2 (0 : Int32) (5 : Int32) S102 (fun x106 S105 =>
    ((¬ x106 = 0 → s_K S105 x0 = 10 ∧
    ∃ a108 : Nat, s_R S105 289 x0 = some a108 ∧
    s_K S105 a108 = 9 ∧
    ∃ a109 : Nat, s_R S105 257 a108 = some a109 ∧
    s_K S105 a109 = 13 ∧
    vp_in x1 (s_N S105 a109) ∧
    ∃ a111 : Nat, s_P S105 a109 (Int32.toNatClampNeg x1) = some a111 ∧
    s_K S105 a111 = 11 ∧
    vp_in (15 : Int32) (s_N S105 a111) ∧
    ∀ x113 : Int32, x113 = s_B S105 a111 (Int32.toNatClampNeg (15 : Int32)) →
    ∃ a114 : Nat, s_R S105 289 x0 = some a114 ∧
    s_K S105 a114 = 9 ∧
    ∃ a115 : Nat, s_R S105 257 a114 = some a115 ∧
    s_K S105 a115 = 13 ∧
    vp_in x1 (s_N S105 a115) ∧
    ∃ a117 : Nat, s_P S105 a115 (Int32.toNatClampNeg x1) = some a117 ∧
    s_K S105 a117 = 11 ∧
    vp_in (15 : Int32) (s_N S105 a117) ∧
    ∀ S119 : sT, S119 = s_sB S105 a117 (Int32.toNatClampNeg (15 : Int32)) x2 →
    Q x113 S119) ∧
    (x106 = 0 → s_K S105 x0 = 10 ∧
    w_X8_refuse x0 (2 : Int32) S105 (fun x121 S120 =>
    Q x121 S120))))) ∧
    (x103 = 0 → s_K S102 x0 = 10 ∧
    w_X8_refuse x0 (1 : Int32) S102 (fun x123 S122 =>
    Q x123 S122))))
def w_X8_stones (x0 : Nat) (x1 : Int32) (x2 : Int32) (S : sT) (Q : Int32 → sT → Prop) : Prop := w_X8_stones_b0 x0 x1 x2 S Q
def r_X8_stones : Room := x_rm 2 43 0 0
theorem b_X8_stones : x_BV yX8_stones cX8_stones 4 (some .int) 2 := ⟨q_13_22, q_13_20, q_13_21, q_1_5, by decide +kernel⟩
set_option maxHeartbeats 4000000 in
theorem t_X8_stones_b0 (C : x_C p s m args c cX8_stones RX8 gg) (hml : c.maxLocals = 4) (hr : meth.sig.returnType = (some .int)) (hlocks : meth.locks = false) {x0 : Nat} {x1 : Int32} {x2 : Int32}  {S : sT}  {Q : Int32 → sT → Prop} (h : w_X8_stones_b0 x0 x1 x2 S  Q) : x_X p l e r_X8_stones s m args below meth c gg 4 0 0 (MQ below (va_Qi Q (fun S1 t => s_Rep gg S1 t.heap) (s_A gg)) args s 0 0 (s_A gg)) 0 [(0, .ref x0), (1, .int x1), (2, .int x2)] [] S := by
  unfold w_X8_stones_b0 at h
  obtain ⟨hx, hb, -⟩ := id C
  intro H locs ls hR hS hl
  refine lv_aload_n hx hb dX8_stones_0 rfl (lv_at hl 0 rfl) ?_
  refine lv_iconst (v := 0) hx hb dX8_stones_1 (by decide) ?_
  obtain ⟨hK_x0, h⟩ := h
  refine x_p_288 (v := (0 : Int32)) C hR hK_x0 hS q_8_1 dX8_stones_2 (fun H locs hR hS => ?_)
  obtain ⟨S101, eS101⟩ : ∃ z : sT, z = s_sI S 288 x0 (0 : Int32) := ⟨_, rfl⟩
  rw [← eS101] at hR
  replace h := h S101 eS101
  have hK_x0 : s_K S101 x0 = 10 := by rw [eS101]; exact hK_x0
  refine lv_aload_n hx hb dX8_stones_5 rfl (lv_at hl 0 rfl) ?_
  refine lv_iload_n hx hb dX8_stones_6 rfl (lv_at hl 1 rfl) ?_
  refine x_ki (x_runV (As := [.int x1]) (rest := []) C hml hR hS (m_X8_isField l gg x0 x1 S101 h) b_X8_isField q_13_7 (by rw [hK_x0]; decide) (s_E_9 hK_x0) rfl rfl rfl rfl ⟨Nat.le_of_ble_eq_true rfl, Nat.le_of_ble_eq_true rfl⟩ rfl hl.1 (Nat.le_of_ble_eq_true rfl) dX8_stones_7 ⟨Nat.le_refl _, Nat.le_refl _⟩) hS (fun x103 S102 H locs h hR hS => ?_)
  refine lv_if_ne (tgt := 19) hx hb dX8_stones_10 (by decide) (fun hc104 => ?_) (fun hc104 => ?_)
  · replace h := h.1 hc104
    refine lv_iload_n hx hb dX8_stones_19 rfl (lv_at hl 2 rfl) ?_
    refine lv_iconst (v := 0) hx hb dX8_stones_20 (by decide) ?_
    refine lv_iconst (v := 5) hx hb dX8_stones_21 (by decide) ?_
    refine x_ki (x_runS (As := [.int x2, .int (0 : Int32), .int (5 : Int32)]) (rest := []) C hml hR hS (m_X8_is l gg x2 (0 : Int32) (5 : Int32) S102 h) b_X8_is q_8_2 rfl rfl ⟨Nat.le_of_ble_eq_true rfl, Nat.le_of_ble_eq_true rfl⟩ rfl hl.1 (Nat.le_of_ble_eq_true rfl) dX8_stones_22 ⟨Nat.le_refl _, Nat.le_refl _⟩) hS (fun x106 S105 H locs h hR hS => ?_)
    refine lv_if_ne (tgt := 34) hx hb dX8_stones_25 (by decide) (fun hc107 => ?_) (fun hc107 => ?_)
    · replace h := h.1 hc107
      refine lv_aload_n hx hb dX8_stones_34 rfl (lv_at hl 0 rfl) ?_
      obtain ⟨hK_x0, h⟩ := h
      refine x_g_289 C hR hK_x0 q_3_8 dX8_stones_35 ?_
      obtain ⟨a108, ea108, h⟩ := h
      refine x_some ea108 ?_
      obtain ⟨hK_a108, h⟩ := h
      refine x_gN_257 C hR hK_a108 ⟨rfl, C.2.2.2.2.2.2.1 _ (List.mem_of_getElem? (i := 1) rfl)⟩ dX8_stones_38 ?_
      obtain ⟨a109, ea109, h⟩ := h
      refine x_some ea109 ?_
      refine lv_iload_n hx hb dX8_stones_41 rfl (lv_at hl 1 rfl) ?_
      obtain ⟨hK_a109, h⟩ := h
      obtain ⟨hi110, a111, ea111, h⟩ := h
      refine x_aald13 C hR hK_a109 hi110 dX8_stones_42 ?_
      refine x_some ea111 ?_
      refine lv_bipush (v := 15) hx hb dX8_stones_43 (by decide) ?_
      obtain ⟨hK_a111, h⟩ := h
      obtain ⟨hi112, h⟩ := h
      refine x_iald C hR hK_a111 hi112 dX8_stones_45 ?_
      refine lv_topi (fun x113 ex113 => ?_)
      replace h := h x113 ex113
      refine lv_istore_n (lv' := [(3, .int x113), (0, .ref x0), (1, .int x1), (2, .int x2)]) hx hb dX8_stones_46 rfl hl (by decide) rfl (fun ls hl => ?_)
      refine lv_aload_n hx hb dX8_stones_47 rfl (lv_at hl 1 rfl) ?_
      refine x_g_289 C hR hK_x0 q_3_8 dX8_stones_48 ?_
      obtain ⟨a114, ea114, h⟩ := h
      refine x_some ea114 ?_
      obtain ⟨hK_a114, h⟩ := h
      refine x_gN_257 C hR hK_a114 ⟨rfl, C.2.2.2.2.2.2.1 _ (List.mem_of_getElem? (i := 1) rfl)⟩ dX8_stones_51 ?_
      obtain ⟨a115, ea115, h⟩ := h
      refine x_some ea115 ?_
      refine lv_iload_n hx hb dX8_stones_54 rfl (lv_at hl 2 rfl) ?_
      obtain ⟨hK_a115, h⟩ := h
      obtain ⟨hi116, a117, ea117, h⟩ := h
      refine x_aald13 C hR hK_a115 hi116 dX8_stones_55 ?_
      refine x_some ea117 ?_
      refine lv_bipush (v := 15) hx hb dX8_stones_56 (by decide) ?_
      refine lv_iload_n hx hb dX8_stones_58 rfl (lv_at hl 3 rfl) ?_
      obtain ⟨hK_a117, h⟩ := h
      obtain ⟨hi118, h⟩ := h
      refine x_iast C hR hK_a117 hS hi118 dX8_stones_59 (fun H locs hR hS => ?_)
      obtain ⟨S119, eS119⟩ : ∃ z : sT, z = s_sB S105 a117 (Int32.toNatClampNeg (15 : Int32)) x2 := ⟨_, rfl⟩
      rw [← eS119] at hR
      replace h := h S119 eS119
      have hK_x0 : s_K S119 x0 = 10 := by rw [eS119]; exact hK_x0
      have hK_a108 : s_K S119 a108 = 9 := by rw [eS119]; exact hK_a108
      have hK_a109 : s_K S119 a109 = 13 := by rw [eS119]; exact hK_a109
      have hK_a111 : s_K S119 a111 = 11 := by rw [eS119]; exact hK_a111
      have hK_a114 : s_K S119 a114 = 9 := by rw [eS119]; exact hK_a114
      have hK_a115 : s_K S119 a115 = 13 := by rw [eS119]; exact hK_a115
      have hK_a117 : s_K S119 a117 = 11 := by rw [eS119]; exact hK_a117
      refine lv_iload_n hx hb dX8_stones_60 rfl (lv_at hl 0 rfl) ?_
      exact W.iret (v := x113) hx hb hr (fun t ht hW => ⟨⟨x113, S119, rfl, h, x_rt ht hR⟩, hS.F ht⟩) hS.2.2 dX8_stones_61
    · replace h := h.2 hc107
      refine lv_aload_n hx hb dX8_stones_28 rfl (lv_at hl 0 rfl) ?_
      refine lv_iconst (v := 2) hx hb dX8_stones_29 (by decide) ?_
      obtain ⟨hK_x0, h⟩ := h
      refine x_ki (x_runV (As := [.int (2 : Int32)]) (rest := []) C hml hR hS (m_X8_refuse l gg x0 (2 : Int32) S105 h) b_X8_refuse q_8_5 (by rw [hK_x0]; decide) (s_E_9 hK_x0) rfl rfl rfl rfl ⟨Nat.le_of_ble_eq_true rfl, Nat.le_of_ble_eq_true rfl⟩ rfl hl.1 (Nat.le_of_ble_eq_true rfl) dX8_stones_30 ⟨Nat.le_refl _, Nat.le_refl _⟩) hS (fun x121 S120 H locs h hR hS => ?_)
      exact W.iret (v := x121) hx hb hr (fun t ht hW => ⟨⟨x121, S120, rfl, h, x_rt ht hR⟩, hS.F ht⟩) hS.2.2 dX8_stones_33
  · replace h := h.2 hc104
    refine lv_aload_n hx hb dX8_stones_13 rfl (lv_at hl 0 rfl) ?_
    refine lv_iconst (v := 1) hx hb dX8_stones_14 (by decide) ?_
    obtain ⟨hK_x0, h⟩ := h
    refine x_ki (x_runV (As := [.int (1 : Int32)]) (rest := []) C hml hR hS (m_X8_refuse l gg x0 (1 : Int32) S102 h) b_X8_refuse q_8_5 (by rw [hK_x0]; decide) (s_E_9 hK_x0) rfl rfl rfl rfl ⟨Nat.le_of_ble_eq_true rfl, Nat.le_of_ble_eq_true rfl⟩ rfl hl.1 (Nat.le_of_ble_eq_true rfl) dX8_stones_15 ⟨Nat.le_refl _, Nat.le_refl _⟩) hS (fun x123 S122 H locs h hR hS => ?_)
    exact W.iret (v := x123) hx hb hr (fun t ht hW => ⟨⟨x123, S122, rfl, h, x_rt ht hR⟩, hS.F ht⟩) hS.2.2 dX8_stones_18
theorem m_X8_stones (l : Launch) (gg : sG) (x0 : Nat) (x1 : Int32) (x2 : Int32) (S : sT) {Q : Int32 → sT → Prop} (h : w_X8_stones x0 x1 x2 S Q) : x_Mi l gg yX8_stones (x_ws yX8_stones cX8_stones 4 (some .int)) r_X8_stones [.ref x0, .int x1, .int x2] S Q 0 0 := by
  refine x_ofW (cc := cX8_stones) (own := RX8) (by decide +kernel) rfl (Nat.le_of_ble_eq_true rfl) ?_
  intro p e s m args below meth c C hml hr hlocks hin ht H locs ls hR hS hl
  exact t_X8_stones_b0 C hml hr hlocks h H locs ls hR hS (lv_sub (l' := [(0, .ref x0), (1, .int x1), (2, .int x2)]) hl [0, 1, 2] rfl)
def w_X8_isSociety_b0 (x0 : Nat) (x1 : Int32) (S : sT)  (Q : Int32 → sT → Prop) : Prop :=
s_K S x0 = 10 ∧
    ∃ a101 : Nat, s_R S 289 x0 = some a101 ∧
    s_K S a101 = 9 ∧
    ∃ a102 : Nat, s_R S 256 a101 = some a102 ∧
    s_K S a102 = 13 ∧
    ∀ x103 : Int32, x103 = nI (s_N S a102) →
    ∀ x104 : Int32, x104 = x103 - (1 : Int32) →
    w_X8_is x1 (0 : Int32) x104 S (fun x106 S105 =>
    (x106 = 0 ∨ x106 = 1) ∧
    Q x106 S105)
def w_X8_isSociety (x0 : Nat) (x1 : Int32) (S : sT) (Q : Int32 → sT → Prop) : Prop := w_X8_isSociety_b0 x0 x1 S Q
def r_X8_isSociety : Room := x_rm 1 22 0 0
theorem b_X8_isSociety : x_BV yX8_isSociety cX8_isSociety 2 (some .boolean) 1 := ⟨q_12_13, q_12_11, q_12_12, q_1_5, by decide +kernel⟩
set_option maxHeartbeats 4000000 in
theorem t_X8_isSociety_b0 (C : x_C p s m args c cX8_isSociety RX8 gg) (hml : c.maxLocals = 2) (hr : meth.sig.returnType = (some .boolean)) (hlocks : meth.locks = false) {x0 : Nat} {x1 : Int32}  {S : sT}  {Q : Int32 → sT → Prop} (h : w_X8_isSociety_b0 x0 x1 S  Q) : x_X p l e r_X8_isSociety s m args below meth c gg 2 0 0 (MQ below (va_Qi Q (fun S1 t => s_Rep gg S1 t.heap) (s_A gg)) args s 0 0 (s_A gg)) 0 [(0, .ref x0), (1, .int x1)] [] S := by
  unfold w_X8_isSociety_b0 at h
  obtain ⟨hx, hb, -⟩ := id C
  intro H locs ls hR hS hl
  refine lv_iload_n hx hb dX8_isSociety_0 rfl (lv_at hl 1 rfl) ?_
  refine lv_iconst (v := 0) hx hb dX8_isSociety_1 (by decide) ?_
  refine lv_aload_n hx hb dX8_isSociety_2 rfl (lv_at hl 0 rfl) ?_
  obtain ⟨hK_x0, h⟩ := h
  refine x_g_289 C hR hK_x0 q_3_8 dX8_isSociety_3 ?_
  obtain ⟨a101, ea101, h⟩ := h
  refine x_some ea101 ?_
  obtain ⟨hK_a101, h⟩ := h
  refine x_gN_256 C hR hK_a101 ⟨rfl, C.2.2.2.2.2.2.1 _ (List.mem_of_getElem? (i := 2) rfl)⟩ dX8_isSociety_6 ?_
  obtain ⟨a102, ea102, h⟩ := h
  refine x_some ea102 ?_
  obtain ⟨hK_a102, h⟩ := h
  refine x_alen13 C hR hK_a102 dX8_isSociety_9 ?_
  refine lv_topi (fun x103 ex103 => ?_)
  replace h := h x103 ex103
  refine lv_iconst (v := 1) hx hb dX8_isSociety_10 (by decide) ?_
  refine lv_isub hx hb dX8_isSociety_11 ?_
  refine lv_topi (fun x104 ex104 => ?_)
  replace h := h x104 ex104
  refine x_ki (x_runS (As := [.int x1, .int (0 : Int32), .int x104]) (rest := []) C hml hR hS (m_X8_is l gg x1 (0 : Int32) x104 S h) b_X8_is q_8_2 rfl rfl ⟨Nat.le_of_ble_eq_true rfl, Nat.le_of_ble_eq_true rfl⟩ rfl hl.1 (Nat.le_of_ble_eq_true rfl) dX8_isSociety_12 ⟨Nat.le_refl _, Nat.le_refl _⟩) hS (fun x106 S105 H locs h hR hS => ?_)
  obtain ⟨hz107, h⟩ := h
  exact W.zret (v := x106) hx hb hr (zb_n hz107) (fun t ht hW => ⟨⟨x106, S105, rfl, h, x_rt ht hR⟩, hS.F ht⟩) hS.2.2 dX8_isSociety_15
theorem m_X8_isSociety (l : Launch) (gg : sG) (x0 : Nat) (x1 : Int32) (S : sT) {Q : Int32 → sT → Prop} (h : w_X8_isSociety x0 x1 S Q) : x_Mi l gg yX8_isSociety (x_ws yX8_isSociety cX8_isSociety 2 (some .boolean)) r_X8_isSociety [.ref x0, .int x1] S Q 0 0 := by
  refine x_ofW (cc := cX8_isSociety) (own := RX8) (by decide +kernel) rfl (Nat.le_of_ble_eq_true rfl) ?_
  intro p e s m args below meth c C hml hr hlocks hin ht H locs ls hR hS hl
  exact t_X8_isSociety_b0 C hml hr hlocks h H locs ls hR hS (lv_sub (l' := [(0, .ref x0), (1, .int x1)]) hl [0, 1] rfl)
def w_X8_rotate_b68 (x3 : Int32) (y0 : Int32) (y1 : Int32) (y2 : Nat) (S : sT)  (Q : Int32 → sT → Prop) : Prop :=
s_K S y2 = 11 ∧
    vp_in y1 (s_N S y2) ∧
    ∀ S102 : sT, S102 = s_sB S y2 (Int32.toNatClampNeg y1) y0 →
    (x3 = 0 ∨ x3 = 1) ∧
    Q x3 S102
def w_X8_rotate_b47 (x0 : Nat) (x1 : Int32) (x2 : Int32) (y0 : Int32) (S : sT)  (Q : Int32 → sT → Prop) : Prop :=
s_K S x0 = 10 ∧
    ∃ a101 : Nat, s_R S 289 x0 = some a101 ∧
    s_K S a101 = 9 ∧
    ∃ a102 : Nat, s_R S 256 a101 = some a102 ∧
    s_K S a102 = 13 ∧
    vp_in x1 (s_N S a102) ∧
    ∃ a104 : Nat, s_P S a102 (Int32.toNatClampNeg x1) = some a104 ∧
    ((x2 = 0 → w_X8_rotate_b68 y0 (0 : Int32) (6 : Int32) a104 S  Q) ∧
    (¬ x2 = 0 → w_X8_rotate_b68 y0 (1 : Int32) (6 : Int32) a104 S  Q))
def w_X8_rotate_b14 (x0 : Nat) (x1 : Int32) (x2 : Int32) (y0 : Int32) (y1 : Nat) (S : sT)  (Q : Int32 → sT → Prop) : Prop :=
s_K S y1 = 10 ∧
    ∀ S101 : sT, S101 = s_sI S 288 y1 y0 →
    s_K S101 x0 = 10 ∧
    ∀ x102 : Int32, x102 = s_I S101 288 x0 →
    ((x102 ≤ 0 → ∃ a104 : Nat, s_R S101 289 x0 = some a104 ∧
    s_K S101 a104 = 9 ∧
    ∃ a105 : Nat, s_R S101 256 a104 = some a105 ∧
    s_K S101 a105 = 13 ∧
    vp_in x1 (s_N S101 a105) ∧
    ∃ a107 : Nat, s_P S101 a105 (Int32.toNatClampNeg x1) = some a107 ∧
    s_K S101 a107 = 11 ∧
    vp_in (6 : Int32) (s_N S101 a107) ∧
    ∀ x109 : Int32, x109 = s_B S101 a107 (Int32.toNatClampNeg (6 : Int32)) →
    ((¬ x109 = (1 : Int32) → w_X8_rotate_b47 x0 x1 x2 (0 : Int32) S101  Q) ∧
    (x109 = (1 : Int32) → w_X8_rotate_b47 x0 x1 x2 (1 : Int32) S101  Q))) ∧
    (¬ x102 ≤ 0 → Q (0 : Int32) S101))
def w_X8_rotate_b0 (x0 : Nat) (x1 : Int32) (x2 : Int32) (S : sT)  (Q : Int32 → sT → Prop) : Prop :=
s_K S x0 = 10 ∧
    w_X8_isSociety x0 x1 S (fun x102 S101 =>
    ((x102 = 0 → w_X8_rotate_b14 x0 x1 x2 (1 : Int32) x0 S101  Q) ∧
    (¬ x102 = 0 → w_X8_rotate_b14 x0 x1 x2 (0 : Int32) x0 S101  Q)))
def w_X8_rotate (x0 : Nat) (x1 : Int32) (x2 : Int32) (S : sT) (Q : Int32 → sT → Prop) : Prop := w_X8_rotate_b0 x0 x1 x2 S Q
def r_X8_rotate : Room := x_rm 2 43 0 0
theorem b_X8_rotate : x_BV yX8_rotate cX8_rotate 4 (some .boolean) 2 := ⟨q_14_10, q_14_8, q_14_9, q_1_5, by decide +kernel⟩
set_option maxHeartbeats 4000000 in
theorem t_X8_rotate_b68 (C : x_C p s m args c cX8_rotate RX8 gg) (hml : c.maxLocals = 4) (hr : meth.sig.returnType = (some .boolean)) (hlocks : meth.locks = false) {x3 : Int32} {y0 : Int32} {y1 : Int32} {y2 : Nat}  {S : sT}  {Q : Int32 → sT → Prop} (h : w_X8_rotate_b68 x3 y0 y1 y2 S  Q) : x_X p l e r_X8_rotate s m args below meth c gg 4 0 0 (MQ below (va_Qi Q (fun S1 t => s_Rep gg S1 t.heap) (s_A gg)) args s 0 0 (s_A gg)) 68 [(3, .int x3)] [.int y0, .int y1, .ref y2] S := by
  unfold w_X8_rotate_b68 at h
  obtain ⟨hx, hb, -⟩ := id C
  intro H locs ls hR hS hl
  obtain ⟨hK_y2, h⟩ := h
  obtain ⟨hi101, h⟩ := h
  refine x_iast C hR hK_y2 hS hi101 dX8_rotate_68 (fun H locs hR hS => ?_)
  obtain ⟨S102, eS102⟩ : ∃ z : sT, z = s_sB S y2 (Int32.toNatClampNeg y1) y0 := ⟨_, rfl⟩
  rw [← eS102] at hR
  replace h := h S102 eS102
  have hK_y2 : s_K S102 y2 = 11 := by rw [eS102]; exact hK_y2
  refine lv_iload_n hx hb dX8_rotate_69 rfl (lv_at hl 0 rfl) ?_
  obtain ⟨hz103, h⟩ := h
  exact W.zret (v := x3) hx hb hr (zb_n hz103) (fun t ht hW => ⟨⟨x3, S102, rfl, h, x_rt ht hR⟩, hS.F ht⟩) hS.2.2 dX8_rotate_70
set_option maxHeartbeats 4000000 in
theorem t_X8_rotate_b47 (C : x_C p s m args c cX8_rotate RX8 gg) (hml : c.maxLocals = 4) (hr : meth.sig.returnType = (some .boolean)) (hlocks : meth.locks = false) {x0 : Nat} {x1 : Int32} {x2 : Int32} {y0 : Int32}  {S : sT}  {Q : Int32 → sT → Prop} (h : w_X8_rotate_b47 x0 x1 x2 y0 S  Q) : x_X p l e r_X8_rotate s m args below meth c gg 4 0 0 (MQ below (va_Qi Q (fun S1 t => s_Rep gg S1 t.heap) (s_A gg)) args s 0 0 (s_A gg)) 47 [(0, .ref x0), (1, .int x1), (2, .int x2)] [.int y0] S := by
  unfold w_X8_rotate_b47 at h
  obtain ⟨hx, hb, -⟩ := id C
  intro H locs ls hR hS hl
  refine lv_istore_n (lv' := [(3, .int y0), (0, .ref x0), (1, .int x1), (2, .int x2)]) hx hb dX8_rotate_47 rfl hl (by decide) rfl (fun ls hl => ?_)
  refine lv_aload_n hx hb dX8_rotate_48 rfl (lv_at hl 1 rfl) ?_
  obtain ⟨hK_x0, h⟩ := h
  refine x_g_289 C hR hK_x0 q_3_8 dX8_rotate_49 ?_
  obtain ⟨a101, ea101, h⟩ := h
  refine x_some ea101 ?_
  obtain ⟨hK_a101, h⟩ := h
  refine x_gN_256 C hR hK_a101 ⟨rfl, C.2.2.2.2.2.2.1 _ (List.mem_of_getElem? (i := 2) rfl)⟩ dX8_rotate_52 ?_
  obtain ⟨a102, ea102, h⟩ := h
  refine x_some ea102 ?_
  refine lv_iload_n hx hb dX8_rotate_55 rfl (lv_at hl 2 rfl) ?_
  obtain ⟨hK_a102, h⟩ := h
  obtain ⟨hi103, a104, ea104, h⟩ := h
  refine x_aald13 C hR hK_a102 hi103 dX8_rotate_56 ?_
  refine x_some ea104 ?_
  refine lv_bipush (v := 6) hx hb dX8_rotate_57 (by decide) ?_
  refine lv_iload_n hx hb dX8_rotate_59 rfl (lv_at hl 3 rfl) ?_
  refine lv_if_eq (tgt := 67) hx hb dX8_rotate_60 (by decide) (fun hc105 => ?_) (fun hc105 => ?_)
  · replace h := h.1 hc105
    refine lv_iconst (v := 0) hx hb dX8_rotate_67 (by decide) ?_
    exact t_X8_rotate_b68 C hml hr hlocks  h H locs ls hR hS (lv_sub (l' := [(3, .int y0)]) hl [0] rfl)
  · replace h := h.2 hc105
    refine lv_iconst (v := 1) hx hb dX8_rotate_63 (by decide) ?_
    refine lv_goto (tgt := 68) hx hb dX8_rotate_64 (by decide) ?_
    exact t_X8_rotate_b68 C hml hr hlocks  h H locs ls hR hS (lv_sub (l' := [(3, .int y0)]) hl [0] rfl)
set_option maxHeartbeats 4000000 in
theorem t_X8_rotate_b14 (C : x_C p s m args c cX8_rotate RX8 gg) (hml : c.maxLocals = 4) (hr : meth.sig.returnType = (some .boolean)) (hlocks : meth.locks = false) {x0 : Nat} {x1 : Int32} {x2 : Int32} {y0 : Int32} {y1 : Nat}  {S : sT}  {Q : Int32 → sT → Prop} (h : w_X8_rotate_b14 x0 x1 x2 y0 y1 S  Q) : x_X p l e r_X8_rotate s m args below meth c gg 4 0 0 (MQ below (va_Qi Q (fun S1 t => s_Rep gg S1 t.heap) (s_A gg)) args s 0 0 (s_A gg)) 14 [(0, .ref x0), (1, .int x1), (2, .int x2)] [.int y0, .ref y1] S := by
  unfold w_X8_rotate_b14 at h
  obtain ⟨hx, hb, -⟩ := id C
  intro H locs ls hR hS hl
  obtain ⟨hK_y1, h⟩ := h
  refine x_p_288 (v := y0) C hR hK_y1 hS q_8_1 dX8_rotate_14 (fun H locs hR hS => ?_)
  obtain ⟨S101, eS101⟩ : ∃ z : sT, z = s_sI S 288 y1 y0 := ⟨_, rfl⟩
  rw [← eS101] at hR
  replace h := h S101 eS101
  have hK_y1 : s_K S101 y1 = 10 := by rw [eS101]; exact hK_y1
  refine lv_aload_n hx hb dX8_rotate_17 rfl (lv_at hl 0 rfl) ?_
  obtain ⟨hK_x0, h⟩ := h
  refine x_g_288 C hR hK_x0 q_8_1 dX8_rotate_18 ?_
  refine lv_topi (fun x102 ex102 => ?_)
  replace h := h x102 ex102
  refine lv_if_le (tgt := 26) hx hb dX8_rotate_21 (by decide) (fun hc103 => ?_) (fun hc103 => ?_)
  · replace h := h.1 hc103
    refine lv_aload_n hx hb dX8_rotate_26 rfl (lv_at hl 0 rfl) ?_
    refine x_g_289 C hR hK_x0 q_3_8 dX8_rotate_27 ?_
    obtain ⟨a104, ea104, h⟩ := h
    refine x_some ea104 ?_
    obtain ⟨hK_a104, h⟩ := h
    refine x_gN_256 C hR hK_a104 ⟨rfl, C.2.2.2.2.2.2.1 _ (List.mem_of_getElem? (i := 2) rfl)⟩ dX8_rotate_30 ?_
    obtain ⟨a105, ea105, h⟩ := h
    refine x_some ea105 ?_
    refine lv_iload_n hx hb dX8_rotate_33 rfl (lv_at hl 1 rfl) ?_
    obtain ⟨hK_a105, h⟩ := h
    obtain ⟨hi106, a107, ea107, h⟩ := h
    refine x_aald13 C hR hK_a105 hi106 dX8_rotate_34 ?_
    refine x_some ea107 ?_
    refine lv_bipush (v := 6) hx hb dX8_rotate_35 (by decide) ?_
    obtain ⟨hK_a107, h⟩ := h
    obtain ⟨hi108, h⟩ := h
    refine x_iald C hR hK_a107 hi108 dX8_rotate_37 ?_
    refine lv_topi (fun x109 ex109 => ?_)
    replace h := h x109 ex109
    refine lv_iconst (v := 1) hx hb dX8_rotate_38 (by decide) ?_
    refine lv_icmp_ne (tgt := 46) hx hb dX8_rotate_39 (by decide) (fun hc110 => ?_) (fun hc110 => ?_)
    · replace h := h.1 hc110
      refine lv_iconst (v := 0) hx hb dX8_rotate_46 (by decide) ?_
      exact t_X8_rotate_b47 C hml hr hlocks  h H locs ls hR hS (lv_sub (l' := [(0, .ref x0), (1, .int x1), (2, .int x2)]) hl [0, 1, 2] rfl)
    · replace h := h.2 hc110
      refine lv_iconst (v := 1) hx hb dX8_rotate_42 (by decide) ?_
      refine lv_goto (tgt := 47) hx hb dX8_rotate_43 (by decide) ?_
      exact t_X8_rotate_b47 C hml hr hlocks  h H locs ls hR hS (lv_sub (l' := [(0, .ref x0), (1, .int x1), (2, .int x2)]) hl [0, 1, 2] rfl)
  · replace h := h.2 hc103
    refine lv_iconst (v := 0) hx hb dX8_rotate_24 (by decide) ?_
    exact W.zret (v := (0 : Int32)) hx hb hr (by decide) (fun t ht hW => ⟨⟨(0 : Int32), S101, rfl, h, x_rt ht hR⟩, hS.F ht⟩) hS.2.2 dX8_rotate_25
set_option maxHeartbeats 4000000 in
theorem t_X8_rotate_b0 (C : x_C p s m args c cX8_rotate RX8 gg) (hml : c.maxLocals = 4) (hr : meth.sig.returnType = (some .boolean)) (hlocks : meth.locks = false) {x0 : Nat} {x1 : Int32} {x2 : Int32}  {S : sT}  {Q : Int32 → sT → Prop} (h : w_X8_rotate_b0 x0 x1 x2 S  Q) : x_X p l e r_X8_rotate s m args below meth c gg 4 0 0 (MQ below (va_Qi Q (fun S1 t => s_Rep gg S1 t.heap) (s_A gg)) args s 0 0 (s_A gg)) 0 [(0, .ref x0), (1, .int x1), (2, .int x2)] [] S := by
  unfold w_X8_rotate_b0 at h
  obtain ⟨hx, hb, -⟩ := id C
  intro H locs ls hR hS hl
  refine lv_aload_n hx hb dX8_rotate_0 rfl (lv_at hl 0 rfl) ?_
  refine lv_aload_n hx hb dX8_rotate_1 rfl (lv_at hl 0 rfl) ?_
  refine lv_iload_n hx hb dX8_rotate_2 rfl (lv_at hl 1 rfl) ?_
  obtain ⟨hK_x0, h⟩ := h
  refine x_ki (x_runV (As := [.int x1]) (rest := [.ref x0]) C hml hR hS (m_X8_isSociety l gg x0 x1 S h) b_X8_isSociety q_12_10 (by rw [hK_x0]; decide) (s_E_9 hK_x0) rfl rfl rfl rfl ⟨Nat.le_of_ble_eq_true rfl, Nat.le_of_ble_eq_true rfl⟩ rfl hl.1 (Nat.le_of_ble_eq_true rfl) dX8_rotate_3 ⟨Nat.le_refl _, Nat.le_refl _⟩) hS (fun x102 S101 H locs h hR hS => ?_)
  refine lv_if_eq (tgt := 13) hx hb dX8_rotate_6 (by decide) (fun hc103 => ?_) (fun hc103 => ?_)
  · replace h := h.1 hc103
    refine lv_iconst (v := 1) hx hb dX8_rotate_13 (by decide) ?_
    exact t_X8_rotate_b14 C hml hr hlocks  h H locs ls hR hS (lv_sub (l' := [(0, .ref x0), (1, .int x1), (2, .int x2)]) hl [0, 1, 2] rfl)
  · replace h := h.2 hc103
    refine lv_iconst (v := 0) hx hb dX8_rotate_9 (by decide) ?_
    refine lv_goto (tgt := 14) hx hb dX8_rotate_10 (by decide) ?_
    exact t_X8_rotate_b14 C hml hr hlocks  h H locs ls hR hS (lv_sub (l' := [(0, .ref x0), (1, .int x1), (2, .int x2)]) hl [0, 1, 2] rfl)
theorem m_X8_rotate (l : Launch) (gg : sG) (x0 : Nat) (x1 : Int32) (x2 : Int32) (S : sT) {Q : Int32 → sT → Prop} (h : w_X8_rotate x0 x1 x2 S Q) : x_Mi l gg yX8_rotate (x_ws yX8_rotate cX8_rotate 4 (some .boolean)) r_X8_rotate [.ref x0, .int x1, .int x2] S Q 0 0 := by
  refine x_ofW (cc := cX8_rotate) (own := RX8) (by decide +kernel) rfl (Nat.le_of_ble_eq_true rfl) ?_
  intro p e s m args below meth c C hml hr hlocks hin ht H locs ls hR hS hl
  exact t_X8_rotate_b0 C hml hr hlocks h H locs ls hR hS (lv_sub (l' := [(0, .ref x0), (1, .int x1), (2, .int x2)]) hl [0, 1, 2] rfl)
def w_X8_puddle_b43 (x0 : Nat) (S : sT)  (Q : Int32 → sT → Prop) : Prop :=
s_K S x0 = 10 ∧
    w_X8_refuse x0 (2 : Int32) S (fun x102 S101 =>
    Q x102 S101)
def w_X8_puddle_b0 (x0 : Nat) (x1 : Int32) (S : sT)  (Q : Int32 → sT → Prop) : Prop :=
s_K S x0 = 10 ∧
    ∀ S101 : sT, S101 = s_sI S 288 x0 (0 : Int32) →
    w_X8_isField x0 x1 S101 (fun x103 S102 =>
    ((¬ x103 = 0 → s_K S102 x0 = 10 ∧
    ∃ a105 : Nat, s_R S102 289 x0 = some a105 ∧
    s_K S102 a105 = 9 ∧
    ∃ a106 : Nat, s_R S102 257 a105 = some a106 ∧
    s_K S102 a106 = 13 ∧
    vp_in x1 (s_N S102 a106) ∧
    ∃ a108 : Nat, s_P S102 a106 (Int32.toNatClampNeg x1) = some a108 ∧
    s_K S102 a108 = 11 ∧
    vp_in (4 : Int32) (s_N S102 a108) ∧
    ∀ x110 : Int32, x110 = s_B S102 a108 (Int32.toNatClampNeg (4 : Int32)) →
    ((¬ x110 = 0 → w_X8_puddle_b43 x0 S102  Q) ∧
    (x110 = 0 → vp_in (1 : Int32) (s_N S102 a108) ∧
    ∀ x113 : Int32, x113 = s_B S102 a108 (Int32.toNatClampNeg (1 : Int32)) →
    (((10 : Int32) ≤ x113 → vp_in (4 : Int32) (s_N S102 a108) ∧
    ∀ S116 : sT, S116 = s_sB S102 a108 (Int32.toNatClampNeg (4 : Int32)) (1 : Int32) →
    vp_in (2 : Int32) (s_N S116 a108) ∧
    ∀ S118 : sT, S118 = s_sB S116 a108 (Int32.toNatClampNeg (2 : Int32)) (0 : Int32) →
    vp_in (1 : Int32) (s_N S118 a108) ∧
    ∀ x120 : Int32, x120 = s_B S118 a108 (Int32.toNatClampNeg (1 : Int32)) →
    Q x120 S118) ∧
    (¬ (10 : Int32) ≤ x113 → w_X8_puddle_b43 x0 S102  Q))))) ∧
    (x103 = 0 → s_K S102 x0 = 10 ∧
    w_X8_refuse x0 (1 : Int32) S102 (fun x122 S121 =>
    Q x122 S121))))
def w_X8_puddle (x0 : Nat) (x1 : Int32) (S : sT) (Q : Int32 → sT → Prop) : Prop := w_X8_puddle_b0 x0 x1 S Q
def r_X8_puddle : Room := x_rm 2 43 0 0
theorem b_X8_puddle : x_BV yX8_puddle cX8_puddle 3 (some .int) 1 := ⟨q_15_1, q_14_23, q_15_0, q_1_5, by decide +kernel⟩
set_option maxHeartbeats 4000000 in
theorem t_X8_puddle_b43 (C : x_C p s m args c cX8_puddle RX8 gg) (hml : c.maxLocals = 3) (hr : meth.sig.returnType = (some .int)) (hlocks : meth.locks = false) {x0 : Nat}  {S : sT}  {Q : Int32 → sT → Prop} (h : w_X8_puddle_b43 x0 S  Q) : x_X p l e r_X8_puddle s m args below meth c gg 3 0 0 (MQ below (va_Qi Q (fun S1 t => s_Rep gg S1 t.heap) (s_A gg)) args s 0 0 (s_A gg)) 43 [(0, .ref x0)] [] S := by
  unfold w_X8_puddle_b43 at h
  obtain ⟨hx, hb, -⟩ := id C
  intro H locs ls hR hS hl
  refine lv_aload_n hx hb dX8_puddle_43 rfl (lv_at hl 0 rfl) ?_
  refine lv_iconst (v := 2) hx hb dX8_puddle_44 (by decide) ?_
  obtain ⟨hK_x0, h⟩ := h
  refine x_ki (x_runV (As := [.int (2 : Int32)]) (rest := []) C hml hR hS (m_X8_refuse l gg x0 (2 : Int32) S h) b_X8_refuse q_8_5 (by rw [hK_x0]; decide) (s_E_9 hK_x0) rfl rfl rfl rfl ⟨Nat.le_of_ble_eq_true rfl, Nat.le_of_ble_eq_true rfl⟩ rfl hl.1 (Nat.le_of_ble_eq_true rfl) dX8_puddle_45 ⟨Nat.le_refl _, Nat.le_refl _⟩) hS (fun x102 S101 H locs h hR hS => ?_)
  exact W.iret (v := x102) hx hb hr (fun t ht hW => ⟨⟨x102, S101, rfl, h, x_rt ht hR⟩, hS.F ht⟩) hS.2.2 dX8_puddle_48
set_option maxHeartbeats 4000000 in
theorem t_X8_puddle_b0 (C : x_C p s m args c cX8_puddle RX8 gg) (hml : c.maxLocals = 3) (hr : meth.sig.returnType = (some .int)) (hlocks : meth.locks = false) {x0 : Nat} {x1 : Int32}  {S : sT}  {Q : Int32 → sT → Prop} (h : w_X8_puddle_b0 x0 x1 S  Q) : x_X p l e r_X8_puddle s m args below meth c gg 3 0 0 (MQ below (va_Qi Q (fun S1 t => s_Rep gg S1 t.heap) (s_A gg)) args s 0 0 (s_A gg)) 0 [(0, .ref x0), (1, .int x1)] [] S := by
  unfold w_X8_puddle_b0 at h
  obtain ⟨hx, hb, -⟩ := id C
  intro H locs ls hR hS hl
  refine lv_aload_n hx hb dX8_puddle_0 rfl (lv_at hl 0 rfl) ?_
  refine lv_iconst (v := 0) hx hb dX8_puddle_1 (by decide) ?_
  obtain ⟨hK_x0, h⟩ := h
  refine x_p_288 (v := (0 : Int32)) C hR hK_x0 hS q_8_1 dX8_puddle_2 (fun H locs hR hS => ?_)
  obtain ⟨S101, eS101⟩ : ∃ z : sT, z = s_sI S 288 x0 (0 : Int32) := ⟨_, rfl⟩
  rw [← eS101] at hR
  replace h := h S101 eS101
  have hK_x0 : s_K S101 x0 = 10 := by rw [eS101]; exact hK_x0
  refine lv_aload_n hx hb dX8_puddle_5 rfl (lv_at hl 0 rfl) ?_
  refine lv_iload_n hx hb dX8_puddle_6 rfl (lv_at hl 1 rfl) ?_
  refine x_ki (x_runV (As := [.int x1]) (rest := []) C hml hR hS (m_X8_isField l gg x0 x1 S101 h) b_X8_isField q_13_7 (by rw [hK_x0]; decide) (s_E_9 hK_x0) rfl rfl rfl rfl ⟨Nat.le_of_ble_eq_true rfl, Nat.le_of_ble_eq_true rfl⟩ rfl hl.1 (Nat.le_of_ble_eq_true rfl) dX8_puddle_7 ⟨Nat.le_refl _, Nat.le_refl _⟩) hS (fun x103 S102 H locs h hR hS => ?_)
  refine lv_if_ne (tgt := 19) hx hb dX8_puddle_10 (by decide) (fun hc104 => ?_) (fun hc104 => ?_)
  · replace h := h.1 hc104
    refine lv_aload_n hx hb dX8_puddle_19 rfl (lv_at hl 0 rfl) ?_
    obtain ⟨hK_x0, h⟩ := h
    refine x_g_289 C hR hK_x0 q_3_8 dX8_puddle_20 ?_
    obtain ⟨a105, ea105, h⟩ := h
    refine x_some ea105 ?_
    obtain ⟨hK_a105, h⟩ := h
    refine x_gN_257 C hR hK_a105 ⟨rfl, C.2.2.2.2.2.2.1 _ (List.mem_of_getElem? (i := 1) rfl)⟩ dX8_puddle_23 ?_
    obtain ⟨a106, ea106, h⟩ := h
    refine x_some ea106 ?_
    refine lv_iload_n hx hb dX8_puddle_26 rfl (lv_at hl 1 rfl) ?_
    obtain ⟨hK_a106, h⟩ := h
    obtain ⟨hi107, a108, ea108, h⟩ := h
    refine x_aald13 C hR hK_a106 hi107 dX8_puddle_27 ?_
    refine x_some ea108 ?_
    refine lv_astore_n (lv' := [(2, .ref a108), (0, .ref x0), (1, .int x1)]) hx hb dX8_puddle_28 rfl hl (by decide) rfl (fun ls hl => ?_)
    refine lv_aload_n hx hb dX8_puddle_29 rfl (lv_at hl 0 rfl) ?_
    refine lv_iconst (v := 4) hx hb dX8_puddle_30 (by decide) ?_
    obtain ⟨hK_a108, h⟩ := h
    obtain ⟨hi109, h⟩ := h
    refine x_iald C hR hK_a108 hi109 dX8_puddle_31 ?_
    refine lv_topi (fun x110 ex110 => ?_)
    replace h := h x110 ex110
    refine lv_if_ne (tgt := 43) hx hb dX8_puddle_32 (by decide) (fun hc111 => ?_) (fun hc111 => ?_)
    · replace h := h.1 hc111
      exact t_X8_puddle_b43 C hml hr hlocks  h H locs ls hR hS (lv_sub (l' := [(0, .ref x0)]) hl [1] rfl)
    · replace h := h.2 hc111
      refine lv_aload_n hx hb dX8_puddle_35 rfl (lv_at hl 0 rfl) ?_
      refine lv_iconst (v := 1) hx hb dX8_puddle_36 (by decide) ?_
      obtain ⟨hi112, h⟩ := h
      refine x_iald C hR hK_a108 hi112 dX8_puddle_37 ?_
      refine lv_topi (fun x113 ex113 => ?_)
      replace h := h x113 ex113
      refine lv_bipush (v := 10) hx hb dX8_puddle_38 (by decide) ?_
      refine lv_icmp_ge (tgt := 49) hx hb dX8_puddle_40 (by decide) (fun hc114 => ?_) (fun hc114 => ?_)
      · replace h := h.1 hc114
        refine lv_aload_n hx hb dX8_puddle_49 rfl (lv_at hl 0 rfl) ?_
        refine lv_iconst (v := 4) hx hb dX8_puddle_50 (by decide) ?_
        refine lv_iconst (v := 1) hx hb dX8_puddle_51 (by decide) ?_
        obtain ⟨hi115, h⟩ := h
        refine x_iast C hR hK_a108 hS hi115 dX8_puddle_52 (fun H locs hR hS => ?_)
        obtain ⟨S116, eS116⟩ : ∃ z : sT, z = s_sB S102 a108 (Int32.toNatClampNeg (4 : Int32)) (1 : Int32) := ⟨_, rfl⟩
        rw [← eS116] at hR
        replace h := h S116 eS116
        have hK_x0 : s_K S116 x0 = 10 := by rw [eS116]; exact hK_x0
        have hK_a105 : s_K S116 a105 = 9 := by rw [eS116]; exact hK_a105
        have hK_a106 : s_K S116 a106 = 13 := by rw [eS116]; exact hK_a106
        have hK_a108 : s_K S116 a108 = 11 := by rw [eS116]; exact hK_a108
        refine lv_aload_n hx hb dX8_puddle_53 rfl (lv_at hl 0 rfl) ?_
        refine lv_iconst (v := 2) hx hb dX8_puddle_54 (by decide) ?_
        refine lv_iconst (v := 0) hx hb dX8_puddle_55 (by decide) ?_
        obtain ⟨hi117, h⟩ := h
        refine x_iast C hR hK_a108 hS hi117 dX8_puddle_56 (fun H locs hR hS => ?_)
        obtain ⟨S118, eS118⟩ : ∃ z : sT, z = s_sB S116 a108 (Int32.toNatClampNeg (2 : Int32)) (0 : Int32) := ⟨_, rfl⟩
        rw [← eS118] at hR
        replace h := h S118 eS118
        have hK_x0 : s_K S118 x0 = 10 := by rw [eS118]; exact hK_x0
        have hK_a105 : s_K S118 a105 = 9 := by rw [eS118]; exact hK_a105
        have hK_a106 : s_K S118 a106 = 13 := by rw [eS118]; exact hK_a106
        have hK_a108 : s_K S118 a108 = 11 := by rw [eS118]; exact hK_a108
        refine lv_aload_n hx hb dX8_puddle_57 rfl (lv_at hl 0 rfl) ?_
        refine lv_iconst (v := 1) hx hb dX8_puddle_58 (by decide) ?_
        obtain ⟨hi119, h⟩ := h
        refine x_iald C hR hK_a108 hi119 dX8_puddle_59 ?_
        refine lv_topi (fun x120 ex120 => ?_)
        replace h := h x120 ex120
        exact W.iret (v := x120) hx hb hr (fun t ht hW => ⟨⟨x120, S118, rfl, h, x_rt ht hR⟩, hS.F ht⟩) hS.2.2 dX8_puddle_60
      · replace h := h.2 hc114
        exact t_X8_puddle_b43 C hml hr hlocks  h H locs ls hR hS (lv_sub (l' := [(0, .ref x0)]) hl [1] rfl)
  · replace h := h.2 hc104
    refine lv_aload_n hx hb dX8_puddle_13 rfl (lv_at hl 0 rfl) ?_
    refine lv_iconst (v := 1) hx hb dX8_puddle_14 (by decide) ?_
    obtain ⟨hK_x0, h⟩ := h
    refine x_ki (x_runV (As := [.int (1 : Int32)]) (rest := []) C hml hR hS (m_X8_refuse l gg x0 (1 : Int32) S102 h) b_X8_refuse q_8_5 (by rw [hK_x0]; decide) (s_E_9 hK_x0) rfl rfl rfl rfl ⟨Nat.le_of_ble_eq_true rfl, Nat.le_of_ble_eq_true rfl⟩ rfl hl.1 (Nat.le_of_ble_eq_true rfl) dX8_puddle_15 ⟨Nat.le_refl _, Nat.le_refl _⟩) hS (fun x122 S121 H locs h hR hS => ?_)
    exact W.iret (v := x122) hx hb hr (fun t ht hW => ⟨⟨x122, S121, rfl, h, x_rt ht hR⟩, hS.F ht⟩) hS.2.2 dX8_puddle_18
theorem m_X8_puddle (l : Launch) (gg : sG) (x0 : Nat) (x1 : Int32) (S : sT) {Q : Int32 → sT → Prop} (h : w_X8_puddle x0 x1 S Q) : x_Mi l gg yX8_puddle (x_ws yX8_puddle cX8_puddle 3 (some .int)) r_X8_puddle [.ref x0, .int x1] S Q 0 0 := by
  refine x_ofW (cc := cX8_puddle) (own := RX8) (by decide +kernel) rfl (Nat.le_of_ble_eq_true rfl) ?_
  intro p e s m args below meth c C hml hr hlocks hin ht H locs ls hR hS hl
  exact t_X8_puddle_b0 C hml hr hlocks h H locs ls hR hS (lv_sub (l' := [(0, .ref x0), (1, .int x1)]) hl [0, 1] rfl)
def w_X8_isKind_b0 (x0 : Int32) (S : sT)  (Q : Int32 → sT → Prop) : Prop :=
w_X8_is x0 (0 : Int32) (2 : Int32) S (fun x102 S101 =>
    (x102 = 0 ∨ x102 = 1) ∧
    Q x102 S101)
def w_X8_isKind (x0 : Int32) (S : sT) (Q : Int32 → sT → Prop) : Prop := w_X8_isKind_b0 x0 S Q
def r_X8_isKind : Room := x_rm 1 22 0 0
theorem b_X8_isKind : x_BS yX8_isKind cX8_isKind 1 (some .boolean) 1 := ⟨q_16_9, q_16_8, q_1_5, by decide +kernel⟩
set_option maxHeartbeats 4000000 in
theorem t_X8_isKind_b0 (C : x_C p s m args c cX8_isKind RX8 gg) (hml : c.maxLocals = 1) (hr : meth.sig.returnType = (some .boolean)) (hlocks : meth.locks = false) {x0 : Int32}  {S : sT}  {Q : Int32 → sT → Prop} (h : w_X8_isKind_b0 x0 S  Q) : x_X p l e r_X8_isKind s m args below meth c gg 1 0 0 (MQ below (va_Qi Q (fun S1 t => s_Rep gg S1 t.heap) (s_A gg)) args s 0 0 (s_A gg)) 0 [(0, .int x0)] [] S := by
  unfold w_X8_isKind_b0 at h
  obtain ⟨hx, hb, -⟩ := id C
  intro H locs ls hR hS hl
  refine lv_iload_n hx hb dX8_isKind_0 rfl (lv_at hl 0 rfl) ?_
  refine lv_iconst (v := 0) hx hb dX8_isKind_1 (by decide) ?_
  refine lv_iconst (v := 2) hx hb dX8_isKind_2 (by decide) ?_
  refine x_ki (x_runS (As := [.int x0, .int (0 : Int32), .int (2 : Int32)]) (rest := []) C hml hR hS (m_X8_is l gg x0 (0 : Int32) (2 : Int32) S h) b_X8_is q_8_2 rfl rfl ⟨Nat.le_of_ble_eq_true rfl, Nat.le_of_ble_eq_true rfl⟩ rfl hl.1 (Nat.le_of_ble_eq_true rfl) dX8_isKind_3 ⟨Nat.le_refl _, Nat.le_refl _⟩) hS (fun x102 S101 H locs h hR hS => ?_)
  obtain ⟨hz103, h⟩ := h
  exact W.zret (v := x102) hx hb hr (zb_n hz103) (fun t ht hW => ⟨⟨x102, S101, rfl, h, x_rt ht hR⟩, hS.F ht⟩) hS.2.2 dX8_isKind_6
theorem m_X8_isKind (l : Launch) (gg : sG) (x0 : Int32) (S : sT) {Q : Int32 → sT → Prop} (h : w_X8_isKind x0 S Q) : x_Mi l gg yX8_isKind (x_ws yX8_isKind cX8_isKind 1 (some .boolean)) r_X8_isKind [.int x0] S Q 0 0 := by
  refine x_ofW (cc := cX8_isKind) (own := RX8) (by decide +kernel) rfl (Nat.le_of_ble_eq_true rfl) ?_
  intro p e s m args below meth c C hml hr hlocks hin ht H locs ls hR hS hl
  exact t_X8_isKind_b0 C hml hr hlocks h H locs ls hR hS (lv_sub (l' := [(0, .int x0)]) hl [0] rfl)
def w_X8_plant_b72 (x0 : Nat) (S : sT)  (Q : Int32 → sT → Prop) : Prop :=
s_K S x0 = 10 ∧
    w_X8_refuse x0 (3 : Int32) S (fun x102 S101 =>
    Q x102 S101)
def w_X8_plant_b0 (x0 : Nat) (x1 : Int32) (x2 : Int32) (S : sT)  (Q : Int32 → sT → Prop) : Prop :=
s_K S x0 = 10 ∧
    ∀ S101 : sT, S101 = s_sI S 288 x0 (0 : Int32) →
    w_X8_isField x0 x1 S101 (fun x103 S102 =>
    ((¬ x103 = 0 → w_X8_isKind x2 S102 (fun x106 S105 =>
    ((¬ x106 = 0 → s_K S105 x0 = 10 ∧
    ∃ a108 : Nat, s_R S105 289 x0 = some a108 ∧
    s_K S105 a108 = 9 ∧
    ∃ a109 : Nat, s_R S105 257 a108 = some a109 ∧
    s_K S105 a109 = 13 ∧
    vp_in x1 (s_N S105 a109) ∧
    ∃ a111 : Nat, s_P S105 a109 (Int32.toNatClampNeg x1) = some a111 ∧
    s_K S105 a111 = 11 ∧
    vp_in (4 : Int32) (s_N S105 a111) ∧
    ∀ x113 : Int32, x113 = s_B S105 a111 (Int32.toNatClampNeg (4 : Int32)) →
    ((¬ x113 = (1 : Int32) → w_X8_plant_b72 x0 S105  Q) ∧
    (x113 = (1 : Int32) → ∃ a115 : Nat, s_R S105 289 x0 = some a115 ∧
    s_K S105 a115 = 9 ∧
    ∃ a116 : Nat, s_R S105 258 a115 = some a116 ∧
    s_K S105 a116 = 11 ∧
    vp_in (0 : Int32) (s_N S105 a116) ∧
    ∀ x118 : Int32, x118 = s_B S105 a116 (Int32.toNatClampNeg (0 : Int32)) →
    ∀ x119 : Int32, x119 = x118 - x118 / (30 : Int32) * (30 : Int32) →
    ((x119 = 0 → w_X8_plant_b72 x0 S105  Q) ∧
    (¬ x119 = 0 → vp_in (10 : Int32) (s_N S105 a111) ∧
    ∀ x122 : Int32, x122 = s_B S105 a111 (Int32.toNatClampNeg (10 : Int32)) →
    (((3 : Int32) ≤ x122 → ∃ a124 : Nat, s_R S105 289 x0 = some a124 ∧
    s_K S105 a124 = 9 ∧
    w_X7_plant a124 x1 x2 S105 (fun S125 =>
    s_K S125 x0 = 10 ∧
    ∃ a126 : Nat, s_R S125 289 x0 = some a126 ∧
    s_K S125 a126 = 9 ∧
    ∃ a127 : Nat, s_R S125 258 a126 = some a127 ∧
    s_K S125 a127 = 11 ∧
    vp_in (0 : Int32) (s_N S125 a127) ∧
    ∀ x129 : Int32, x129 = s_B S125 a127 (Int32.toNatClampNeg (0 : Int32)) →
    Q x129 S125)) ∧
    (¬ (3 : Int32) ≤ x122 → w_X8_plant_b72 x0 S105  Q))))))) ∧
    (x106 = 0 → s_K S105 x0 = 10 ∧
    w_X8_refuse x0 (2 : Int32) S105 (fun x131 S130 =>
    Q x131 S130))))) ∧
    (x103 = 0 → s_K S102 x0 = 10 ∧
    w_X8_refuse x0 (1 : Int32) S102 (fun x133 S132 =>
    Q x133 S132))))
def w_X8_plant (x0 : Nat) (x1 : Int32) (x2 : Int32) (S : sT) (Q : Int32 → sT → Prop) : Prop := w_X8_plant_b0 x0 x1 x2 S Q
def r_X8_plant : Room := x_rm 2 43 0 0
theorem b_X8_plant : x_BV yX8_plant cX8_plant 4 (some .int) 2 := ⟨q_16_6, q_16_4, q_16_5, q_1_5, by decide +kernel⟩
set_option maxHeartbeats 4000000 in
theorem t_X8_plant_b72 (C : x_C p s m args c cX8_plant RX8 gg) (hml : c.maxLocals = 4) (hr : meth.sig.returnType = (some .int)) (hlocks : meth.locks = false) {x0 : Nat}  {S : sT}  {Q : Int32 → sT → Prop} (h : w_X8_plant_b72 x0 S  Q) : x_X p l e r_X8_plant s m args below meth c gg 4 0 0 (MQ below (va_Qi Q (fun S1 t => s_Rep gg S1 t.heap) (s_A gg)) args s 0 0 (s_A gg)) 72 [(0, .ref x0)] [] S := by
  unfold w_X8_plant_b72 at h
  obtain ⟨hx, hb, -⟩ := id C
  intro H locs ls hR hS hl
  refine lv_aload_n hx hb dX8_plant_72 rfl (lv_at hl 0 rfl) ?_
  refine lv_iconst (v := 3) hx hb dX8_plant_73 (by decide) ?_
  obtain ⟨hK_x0, h⟩ := h
  refine x_ki (x_runV (As := [.int (3 : Int32)]) (rest := []) C hml hR hS (m_X8_refuse l gg x0 (3 : Int32) S h) b_X8_refuse q_8_5 (by rw [hK_x0]; decide) (s_E_9 hK_x0) rfl rfl rfl rfl ⟨Nat.le_of_ble_eq_true rfl, Nat.le_of_ble_eq_true rfl⟩ rfl hl.1 (Nat.le_of_ble_eq_true rfl) dX8_plant_74 ⟨Nat.le_refl _, Nat.le_refl _⟩) hS (fun x102 S101 H locs h hR hS => ?_)
  exact W.iret (v := x102) hx hb hr (fun t ht hW => ⟨⟨x102, S101, rfl, h, x_rt ht hR⟩, hS.F ht⟩) hS.2.2 dX8_plant_77
set_option maxHeartbeats 4000000 in
theorem t_X8_plant_b0 (C : x_C p s m args c cX8_plant RX8 gg) (hml : c.maxLocals = 4) (hr : meth.sig.returnType = (some .int)) (hlocks : meth.locks = false) {x0 : Nat} {x1 : Int32} {x2 : Int32}  {S : sT}  {Q : Int32 → sT → Prop} (h : w_X8_plant_b0 x0 x1 x2 S  Q) : x_X p l e r_X8_plant s m args below meth c gg 4 0 0 (MQ below (va_Qi Q (fun S1 t => s_Rep gg S1 t.heap) (s_A gg)) args s 0 0 (s_A gg)) 0 [(0, .ref x0), (1, .int x1), (2, .int x2)] [] S := by
  unfold w_X8_plant_b0 at h
  obtain ⟨hx, hb, -⟩ := id C
  intro H locs ls hR hS hl
  refine lv_aload_n hx hb dX8_plant_0 rfl (lv_at hl 0 rfl) ?_
  refine lv_iconst (v := 0) hx hb dX8_plant_1 (by decide) ?_
  obtain ⟨hK_x0, h⟩ := h
  refine x_p_288 (v := (0 : Int32)) C hR hK_x0 hS q_8_1 dX8_plant_2 (fun H locs hR hS => ?_)
  obtain ⟨S101, eS101⟩ : ∃ z : sT, z = s_sI S 288 x0 (0 : Int32) := ⟨_, rfl⟩
  rw [← eS101] at hR
  replace h := h S101 eS101
  have hK_x0 : s_K S101 x0 = 10 := by rw [eS101]; exact hK_x0
  refine lv_aload_n hx hb dX8_plant_5 rfl (lv_at hl 0 rfl) ?_
  refine lv_iload_n hx hb dX8_plant_6 rfl (lv_at hl 1 rfl) ?_
  refine x_ki (x_runV (As := [.int x1]) (rest := []) C hml hR hS (m_X8_isField l gg x0 x1 S101 h) b_X8_isField q_13_7 (by rw [hK_x0]; decide) (s_E_9 hK_x0) rfl rfl rfl rfl ⟨Nat.le_of_ble_eq_true rfl, Nat.le_of_ble_eq_true rfl⟩ rfl hl.1 (Nat.le_of_ble_eq_true rfl) dX8_plant_7 ⟨Nat.le_refl _, Nat.le_refl _⟩) hS (fun x103 S102 H locs h hR hS => ?_)
  refine lv_if_ne (tgt := 19) hx hb dX8_plant_10 (by decide) (fun hc104 => ?_) (fun hc104 => ?_)
  · replace h := h.1 hc104
    refine lv_iload_n hx hb dX8_plant_19 rfl (lv_at hl 2 rfl) ?_
    refine x_ki (x_runS (As := [.int x2]) (rest := []) C hml hR hS (m_X8_isKind l gg x2 S102 h) b_X8_isKind q_16_7 rfl rfl ⟨Nat.le_of_ble_eq_true rfl, Nat.le_of_ble_eq_true rfl⟩ rfl hl.1 (Nat.le_of_ble_eq_true rfl) dX8_plant_20 ⟨Nat.le_refl _, Nat.le_refl _⟩) hS (fun x106 S105 H locs h hR hS => ?_)
    refine lv_if_ne (tgt := 32) hx hb dX8_plant_23 (by decide) (fun hc107 => ?_) (fun hc107 => ?_)
    · replace h := h.1 hc107
      refine lv_aload_n hx hb dX8_plant_32 rfl (lv_at hl 0 rfl) ?_
      obtain ⟨hK_x0, h⟩ := h
      refine x_g_289 C hR hK_x0 q_3_8 dX8_plant_33 ?_
      obtain ⟨a108, ea108, h⟩ := h
      refine x_some ea108 ?_
      obtain ⟨hK_a108, h⟩ := h
      refine x_gN_257 C hR hK_a108 ⟨rfl, C.2.2.2.2.2.2.1 _ (List.mem_of_getElem? (i := 1) rfl)⟩ dX8_plant_36 ?_
      obtain ⟨a109, ea109, h⟩ := h
      refine x_some ea109 ?_
      refine lv_iload_n hx hb dX8_plant_39 rfl (lv_at hl 1 rfl) ?_
      obtain ⟨hK_a109, h⟩ := h
      obtain ⟨hi110, a111, ea111, h⟩ := h
      refine x_aald13 C hR hK_a109 hi110 dX8_plant_40 ?_
      refine x_some ea111 ?_
      refine lv_astore_n (lv' := [(3, .ref a111), (0, .ref x0), (1, .int x1), (2, .int x2)]) hx hb dX8_plant_41 rfl hl (by decide) rfl (fun ls hl => ?_)
      refine lv_aload_n hx hb dX8_plant_42 rfl (lv_at hl 0 rfl) ?_
      refine lv_iconst (v := 4) hx hb dX8_plant_43 (by decide) ?_
      obtain ⟨hK_a111, h⟩ := h
      obtain ⟨hi112, h⟩ := h
      refine x_iald C hR hK_a111 hi112 dX8_plant_44 ?_
      refine lv_topi (fun x113 ex113 => ?_)
      replace h := h x113 ex113
      refine lv_iconst (v := 1) hx hb dX8_plant_45 (by decide) ?_
      refine lv_icmp_ne (tgt := 72) hx hb dX8_plant_46 (by decide) (fun hc114 => ?_) (fun hc114 => ?_)
      · replace h := h.1 hc114
        exact t_X8_plant_b72 C hml hr hlocks  h H locs ls hR hS (lv_sub (l' := [(0, .ref x0)]) hl [1] rfl)
      · replace h := h.2 hc114
        refine lv_aload_n hx hb dX8_plant_49 rfl (lv_at hl 1 rfl) ?_
        refine x_g_289 C hR hK_x0 q_3_8 dX8_plant_50 ?_
        obtain ⟨a115, ea115, h⟩ := h
        refine x_some ea115 ?_
        obtain ⟨hK_a115, h⟩ := h
        refine x_gN_258 C hR hK_a115 ⟨rfl, C.2.2.2.2.2.2.1 _ (List.mem_of_getElem? (i := 0) rfl)⟩ dX8_plant_53 ?_
        obtain ⟨a116, ea116, h⟩ := h
        refine x_some ea116 ?_
        refine lv_iconst (v := 0) hx hb dX8_plant_56 (by decide) ?_
        obtain ⟨hK_a116, h⟩ := h
        obtain ⟨hi117, h⟩ := h
        refine x_iald C hR hK_a116 hi117 dX8_plant_57 ?_
        refine lv_topi (fun x118 ex118 => ?_)
        replace h := h x118 ex118
        refine lv_bipush (v := 30) hx hb dX8_plant_58 (by decide) ?_
        refine lv_irem hx hb dX8_plant_60 (by decide) ?_
        refine lv_topi (fun x119 ex119 => ?_)
        replace h := h x119 ex119
        refine lv_if_eq (tgt := 72) hx hb dX8_plant_61 (by decide) (fun hc120 => ?_) (fun hc120 => ?_)
        · replace h := h.1 hc120
          exact t_X8_plant_b72 C hml hr hlocks  h H locs ls hR hS (lv_sub (l' := [(0, .ref x0)]) hl [1] rfl)
        · replace h := h.2 hc120
          refine lv_aload_n hx hb dX8_plant_64 rfl (lv_at hl 0 rfl) ?_
          refine lv_bipush (v := 10) hx hb dX8_plant_65 (by decide) ?_
          obtain ⟨hi121, h⟩ := h
          refine x_iald C hR hK_a111 hi121 dX8_plant_67 ?_
          refine lv_topi (fun x122 ex122 => ?_)
          replace h := h x122 ex122
          refine lv_iconst (v := 3) hx hb dX8_plant_68 (by decide) ?_
          refine lv_icmp_ge (tgt := 78) hx hb dX8_plant_69 (by decide) (fun hc123 => ?_) (fun hc123 => ?_)
          · replace h := h.1 hc123
            refine lv_aload_n hx hb dX8_plant_78 rfl (lv_at hl 1 rfl) ?_
            refine x_g_289 C hR hK_x0 q_3_8 dX8_plant_79 ?_
            obtain ⟨a124, ea124, h⟩ := h
            refine x_some ea124 ?_
            refine lv_iload_n hx hb dX8_plant_82 rfl (lv_at hl 2 rfl) ?_
            refine lv_iload_n hx hb dX8_plant_83 rfl (lv_at hl 3 rfl) ?_
            obtain ⟨hK_a124, h⟩ := h
            refine x_kv (x_runV (As := [.int x1, .int x2]) (rest := []) C hml hR hS (m_X7_plant l gg a124 x1 x2 S105 h) b_X7_plant q_16_10 (by rw [hK_a124]; decide) (s_E_8 hK_a124) rfl rfl rfl rfl ⟨Nat.le_of_ble_eq_true rfl, Nat.le_of_ble_eq_true rfl⟩ rfl hl.1 (Nat.le_of_ble_eq_true rfl) dX8_plant_84 ⟨Nat.le_refl _, Nat.le_refl _⟩) hS (fun S125 H locs h hR hS => ?_)
            refine lv_aload_n hx hb dX8_plant_87 rfl (lv_at hl 1 rfl) ?_
            obtain ⟨hK_x0, h⟩ := h
            refine x_g_289 C hR hK_x0 q_3_8 dX8_plant_88 ?_
            obtain ⟨a126, ea126, h⟩ := h
            refine x_some ea126 ?_
            obtain ⟨hK_a126, h⟩ := h
            refine x_gN_258 C hR hK_a126 ⟨rfl, C.2.2.2.2.2.2.1 _ (List.mem_of_getElem? (i := 0) rfl)⟩ dX8_plant_91 ?_
            obtain ⟨a127, ea127, h⟩ := h
            refine x_some ea127 ?_
            refine lv_iconst (v := 0) hx hb dX8_plant_94 (by decide) ?_
            obtain ⟨hK_a127, h⟩ := h
            obtain ⟨hi128, h⟩ := h
            refine x_iald C hR hK_a127 hi128 dX8_plant_95 ?_
            refine lv_topi (fun x129 ex129 => ?_)
            replace h := h x129 ex129
            exact W.iret (v := x129) hx hb hr (fun t ht hW => ⟨⟨x129, S125, rfl, h, x_rt ht hR⟩, hS.F ht⟩) hS.2.2 dX8_plant_96
          · replace h := h.2 hc123
            exact t_X8_plant_b72 C hml hr hlocks  h H locs ls hR hS (lv_sub (l' := [(0, .ref x0)]) hl [1] rfl)
    · replace h := h.2 hc107
      refine lv_aload_n hx hb dX8_plant_26 rfl (lv_at hl 0 rfl) ?_
      refine lv_iconst (v := 2) hx hb dX8_plant_27 (by decide) ?_
      obtain ⟨hK_x0, h⟩ := h
      refine x_ki (x_runV (As := [.int (2 : Int32)]) (rest := []) C hml hR hS (m_X8_refuse l gg x0 (2 : Int32) S105 h) b_X8_refuse q_8_5 (by rw [hK_x0]; decide) (s_E_9 hK_x0) rfl rfl rfl rfl ⟨Nat.le_of_ble_eq_true rfl, Nat.le_of_ble_eq_true rfl⟩ rfl hl.1 (Nat.le_of_ble_eq_true rfl) dX8_plant_28 ⟨Nat.le_refl _, Nat.le_refl _⟩) hS (fun x131 S130 H locs h hR hS => ?_)
      exact W.iret (v := x131) hx hb hr (fun t ht hW => ⟨⟨x131, S130, rfl, h, x_rt ht hR⟩, hS.F ht⟩) hS.2.2 dX8_plant_31
  · replace h := h.2 hc104
    refine lv_aload_n hx hb dX8_plant_13 rfl (lv_at hl 0 rfl) ?_
    refine lv_iconst (v := 1) hx hb dX8_plant_14 (by decide) ?_
    obtain ⟨hK_x0, h⟩ := h
    refine x_ki (x_runV (As := [.int (1 : Int32)]) (rest := []) C hml hR hS (m_X8_refuse l gg x0 (1 : Int32) S102 h) b_X8_refuse q_8_5 (by rw [hK_x0]; decide) (s_E_9 hK_x0) rfl rfl rfl rfl ⟨Nat.le_of_ble_eq_true rfl, Nat.le_of_ble_eq_true rfl⟩ rfl hl.1 (Nat.le_of_ble_eq_true rfl) dX8_plant_15 ⟨Nat.le_refl _, Nat.le_refl _⟩) hS (fun x133 S132 H locs h hR hS => ?_)
    exact W.iret (v := x133) hx hb hr (fun t ht hW => ⟨⟨x133, S132, rfl, h, x_rt ht hR⟩, hS.F ht⟩) hS.2.2 dX8_plant_18
theorem m_X8_plant (l : Launch) (gg : sG) (x0 : Nat) (x1 : Int32) (x2 : Int32) (S : sT) {Q : Int32 → sT → Prop} (h : w_X8_plant x0 x1 x2 S Q) : x_Mi l gg yX8_plant (x_ws yX8_plant cX8_plant 4 (some .int)) r_X8_plant [.ref x0, .int x1, .int x2] S Q 0 0 := by
  refine x_ofW (cc := cX8_plant) (own := RX8) (by decide +kernel) rfl (Nat.le_of_ble_eq_true rfl) ?_
  intro p e s m args below meth c C hml hr hlocks hin ht H locs ls hR hS hl
  exact t_X8_plant_b0 C hml hr hlocks h H locs ls hR hS (lv_sub (l' := [(0, .ref x0), (1, .int x1), (2, .int x2)]) hl [0, 1, 2] rfl)
def w_X8_help_b21 (x0 : Nat) (S : sT)  (Q : Int32 → sT → Prop) : Prop :=
s_K S x0 = 10 ∧
    w_X8_refuse x0 (1 : Int32) S (fun x102 S101 =>
    Q x102 S101)
def w_X8_help_b0 (x0 : Nat) (x1 : Int32) (x2 : Int32) (S : sT)  (Q : Int32 → sT → Prop) : Prop :=
s_K S x0 = 10 ∧
    ∀ S101 : sT, S101 = s_sI S 288 x0 (0 : Int32) →
    w_X8_isField x0 x1 S101 (fun x103 S102 =>
    ((x103 = 0 → w_X8_help_b21 x0 S102  Q) ∧
    (¬ x103 = 0 → s_K S102 x0 = 10 ∧
    w_X8_isField x0 x2 S102 (fun x106 S105 =>
    ((¬ x106 = 0 → s_K S105 x0 = 10 ∧
    ∃ a108 : Nat, s_R S105 289 x0 = some a108 ∧
    s_K S105 a108 = 9 ∧
    ∃ a109 : Nat, s_R S105 257 a108 = some a109 ∧
    s_K S105 a109 = 13 ∧
    vp_in x1 (s_N S105 a109) ∧
    ∃ a111 : Nat, s_P S105 a109 (Int32.toNatClampNeg x1) = some a111 ∧
    s_K S105 a111 = 11 ∧
    vp_in (18 : Int32) (s_N S105 a111) ∧
    ∀ x113 : Int32, x113 = s_B S105 a111 (Int32.toNatClampNeg (18 : Int32)) →
    ∀ x114 : Int32, x114 = x113 + (1 : Int32) →
    vp_in (18 : Int32) (s_N S105 a111) ∧
    ∀ S116 : sT, S116 = s_sB S105 a111 (Int32.toNatClampNeg (18 : Int32)) x114 →
    ∃ a117 : Nat, s_R S116 289 x0 = some a117 ∧
    s_K S116 a117 = 9 ∧
    ∃ a118 : Nat, s_R S116 257 a117 = some a118 ∧
    s_K S116 a118 = 13 ∧
    vp_in x2 (s_N S116 a118) ∧
    ∃ a120 : Nat, s_P S116 a118 (Int32.toNatClampNeg x2) = some a120 ∧
    s_K S116 a120 = 11 ∧
    vp_in (18 : Int32) (s_N S116 a120) ∧
    ∀ x122 : Int32, x122 = s_B S116 a120 (Int32.toNatClampNeg (18 : Int32)) →
    ∀ x123 : Int32, x123 = x122 - (1 : Int32) →
    vp_in (18 : Int32) (s_N S116 a120) ∧
    ∀ S125 : sT, S125 = s_sB S116 a120 (Int32.toNatClampNeg (18 : Int32)) x123 →
    ∃ a126 : Nat, s_R S125 289 x0 = some a126 ∧
    s_K S125 a126 = 9 ∧
    ∃ a127 : Nat, s_R S125 257 a126 = some a127 ∧
    s_K S125 a127 = 13 ∧
    vp_in x2 (s_N S125 a127) ∧
    ∃ a129 : Nat, s_P S125 a127 (Int32.toNatClampNeg x2) = some a129 ∧
    s_K S125 a129 = 11 ∧
    vp_in (10 : Int32) (s_N S125 a129) ∧
    ∀ x131 : Int32, x131 = s_B S125 a129 (Int32.toNatClampNeg (10 : Int32)) →
    ∀ x132 : Int32, x132 = x131 + (1 : Int32) →
    vp_in (10 : Int32) (s_N S125 a129) ∧
    ∀ S134 : sT, S134 = s_sB S125 a129 (Int32.toNatClampNeg (10 : Int32)) x132 →
    ∃ a135 : Nat, s_R S134 289 x0 = some a135 ∧
    s_K S134 a135 = 9 ∧
    ∃ a136 : Nat, s_R S134 257 a135 = some a136 ∧
    s_K S134 a136 = 13 ∧
    vp_in x2 (s_N S134 a136) ∧
    ∃ a138 : Nat, s_P S134 a136 (Int32.toNatClampNeg x2) = some a138 ∧
    s_K S134 a138 = 11 ∧
    vp_in (10 : Int32) (s_N S134 a138) ∧
    ∀ x140 : Int32, x140 = s_B S134 a138 (Int32.toNatClampNeg (10 : Int32)) →
    Q x140 S134) ∧
    (x106 = 0 → w_X8_help_b21 x0 S105  Q))))))
def w_X8_help (x0 : Nat) (x1 : Int32) (x2 : Int32) (S : sT) (Q : Int32 → sT → Prop) : Prop := w_X8_help_b0 x0 x1 x2 S Q
def r_X8_help : Room := x_rm 2 43 0 0
theorem b_X8_help : x_BV yX8_help cX8_help 3 (some .int) 2 := ⟨q_17_2, q_17_0, q_17_1, q_1_5, by decide +kernel⟩
set_option maxHeartbeats 4000000 in
theorem t_X8_help_b21 (C : x_C p s m args c cX8_help RX8 gg) (hml : c.maxLocals = 3) (hr : meth.sig.returnType = (some .int)) (hlocks : meth.locks = false) {x0 : Nat}  {S : sT}  {Q : Int32 → sT → Prop} (h : w_X8_help_b21 x0 S  Q) : x_X p l e r_X8_help s m args below meth c gg 3 0 0 (MQ below (va_Qi Q (fun S1 t => s_Rep gg S1 t.heap) (s_A gg)) args s 0 0 (s_A gg)) 21 [(0, .ref x0)] [] S := by
  unfold w_X8_help_b21 at h
  obtain ⟨hx, hb, -⟩ := id C
  intro H locs ls hR hS hl
  refine lv_aload_n hx hb dX8_help_21 rfl (lv_at hl 0 rfl) ?_
  refine lv_iconst (v := 1) hx hb dX8_help_22 (by decide) ?_
  obtain ⟨hK_x0, h⟩ := h
  refine x_ki (x_runV (As := [.int (1 : Int32)]) (rest := []) C hml hR hS (m_X8_refuse l gg x0 (1 : Int32) S h) b_X8_refuse q_8_5 (by rw [hK_x0]; decide) (s_E_9 hK_x0) rfl rfl rfl rfl ⟨Nat.le_of_ble_eq_true rfl, Nat.le_of_ble_eq_true rfl⟩ rfl hl.1 (Nat.le_of_ble_eq_true rfl) dX8_help_23 ⟨Nat.le_refl _, Nat.le_refl _⟩) hS (fun x102 S101 H locs h hR hS => ?_)
  exact W.iret (v := x102) hx hb hr (fun t ht hW => ⟨⟨x102, S101, rfl, h, x_rt ht hR⟩, hS.F ht⟩) hS.2.2 dX8_help_26
set_option maxHeartbeats 4000000 in
theorem t_X8_help_b0 (C : x_C p s m args c cX8_help RX8 gg) (hml : c.maxLocals = 3) (hr : meth.sig.returnType = (some .int)) (hlocks : meth.locks = false) {x0 : Nat} {x1 : Int32} {x2 : Int32}  {S : sT}  {Q : Int32 → sT → Prop} (h : w_X8_help_b0 x0 x1 x2 S  Q) : x_X p l e r_X8_help s m args below meth c gg 3 0 0 (MQ below (va_Qi Q (fun S1 t => s_Rep gg S1 t.heap) (s_A gg)) args s 0 0 (s_A gg)) 0 [(0, .ref x0), (1, .int x1), (2, .int x2)] [] S := by
  unfold w_X8_help_b0 at h
  obtain ⟨hx, hb, -⟩ := id C
  intro H locs ls hR hS hl
  refine lv_aload_n hx hb dX8_help_0 rfl (lv_at hl 0 rfl) ?_
  refine lv_iconst (v := 0) hx hb dX8_help_1 (by decide) ?_
  obtain ⟨hK_x0, h⟩ := h
  refine x_p_288 (v := (0 : Int32)) C hR hK_x0 hS q_8_1 dX8_help_2 (fun H locs hR hS => ?_)
  obtain ⟨S101, eS101⟩ : ∃ z : sT, z = s_sI S 288 x0 (0 : Int32) := ⟨_, rfl⟩
  rw [← eS101] at hR
  replace h := h S101 eS101
  have hK_x0 : s_K S101 x0 = 10 := by rw [eS101]; exact hK_x0
  refine lv_aload_n hx hb dX8_help_5 rfl (lv_at hl 0 rfl) ?_
  refine lv_iload_n hx hb dX8_help_6 rfl (lv_at hl 1 rfl) ?_
  refine x_ki (x_runV (As := [.int x1]) (rest := []) C hml hR hS (m_X8_isField l gg x0 x1 S101 h) b_X8_isField q_13_7 (by rw [hK_x0]; decide) (s_E_9 hK_x0) rfl rfl rfl rfl ⟨Nat.le_of_ble_eq_true rfl, Nat.le_of_ble_eq_true rfl⟩ rfl hl.1 (Nat.le_of_ble_eq_true rfl) dX8_help_7 ⟨Nat.le_refl _, Nat.le_refl _⟩) hS (fun x103 S102 H locs h hR hS => ?_)
  refine lv_if_eq (tgt := 21) hx hb dX8_help_10 (by decide) (fun hc104 => ?_) (fun hc104 => ?_)
  · replace h := h.1 hc104
    exact t_X8_help_b21 C hml hr hlocks  h H locs ls hR hS (lv_sub (l' := [(0, .ref x0)]) hl [0] rfl)
  · replace h := h.2 hc104
    refine lv_aload_n hx hb dX8_help_13 rfl (lv_at hl 0 rfl) ?_
    refine lv_iload_n hx hb dX8_help_14 rfl (lv_at hl 2 rfl) ?_
    obtain ⟨hK_x0, h⟩ := h
    refine x_ki (x_runV (As := [.int x2]) (rest := []) C hml hR hS (m_X8_isField l gg x0 x2 S102 h) b_X8_isField q_13_7 (by rw [hK_x0]; decide) (s_E_9 hK_x0) rfl rfl rfl rfl ⟨Nat.le_of_ble_eq_true rfl, Nat.le_of_ble_eq_true rfl⟩ rfl hl.1 (Nat.le_of_ble_eq_true rfl) dX8_help_15 ⟨Nat.le_refl _, Nat.le_refl _⟩) hS (fun x106 S105 H locs h hR hS => ?_)
    refine lv_if_ne (tgt := 27) hx hb dX8_help_18 (by decide) (fun hc107 => ?_) (fun hc107 => ?_)
    · replace h := h.1 hc107
      refine lv_aload_n hx hb dX8_help_27 rfl (lv_at hl 0 rfl) ?_
      obtain ⟨hK_x0, h⟩ := h
      refine x_g_289 C hR hK_x0 q_3_8 dX8_help_28 ?_
      obtain ⟨a108, ea108, h⟩ := h
      refine x_some ea108 ?_
      obtain ⟨hK_a108, h⟩ := h
      refine x_gN_257 C hR hK_a108 ⟨rfl, C.2.2.2.2.2.2.1 _ (List.mem_of_getElem? (i := 1) rfl)⟩ dX8_help_31 ?_
      obtain ⟨a109, ea109, h⟩ := h
      refine x_some ea109 ?_
      refine lv_iload_n hx hb dX8_help_34 rfl (lv_at hl 1 rfl) ?_
      obtain ⟨hK_a109, h⟩ := h
      obtain ⟨hi110, a111, ea111, h⟩ := h
      refine x_aald13 C hR hK_a109 hi110 dX8_help_35 ?_
      refine x_some ea111 ?_
      refine lv_bipush (v := 18) hx hb dX8_help_36 (by decide) ?_
      refine lv_dup2_11 hx hb dX8_help_38 rfl rfl ?_
      obtain ⟨hK_a111, h⟩ := h
      obtain ⟨hi112, h⟩ := h
      refine x_iald C hR hK_a111 hi112 dX8_help_39 ?_
      refine lv_topi (fun x113 ex113 => ?_)
      replace h := h x113 ex113
      refine lv_iconst (v := 1) hx hb dX8_help_40 (by decide) ?_
      refine lv_iadd hx hb dX8_help_41 ?_
      refine lv_topi (fun x114 ex114 => ?_)
      replace h := h x114 ex114
      obtain ⟨hi115, h⟩ := h
      refine x_iast C hR hK_a111 hS hi115 dX8_help_42 (fun H locs hR hS => ?_)
      obtain ⟨S116, eS116⟩ : ∃ z : sT, z = s_sB S105 a111 (Int32.toNatClampNeg (18 : Int32)) x114 := ⟨_, rfl⟩
      rw [← eS116] at hR
      replace h := h S116 eS116
      have hK_x0 : s_K S116 x0 = 10 := by rw [eS116]; exact hK_x0
      have hK_a108 : s_K S116 a108 = 9 := by rw [eS116]; exact hK_a108
      have hK_a109 : s_K S116 a109 = 13 := by rw [eS116]; exact hK_a109
      have hK_a111 : s_K S116 a111 = 11 := by rw [eS116]; exact hK_a111
      refine lv_aload_n hx hb dX8_help_43 rfl (lv_at hl 0 rfl) ?_
      refine x_g_289 C hR hK_x0 q_3_8 dX8_help_44 ?_
      obtain ⟨a117, ea117, h⟩ := h
      refine x_some ea117 ?_
      obtain ⟨hK_a117, h⟩ := h
      refine x_gN_257 C hR hK_a117 ⟨rfl, C.2.2.2.2.2.2.1 _ (List.mem_of_getElem? (i := 1) rfl)⟩ dX8_help_47 ?_
      obtain ⟨a118, ea118, h⟩ := h
      refine x_some ea118 ?_
      refine lv_iload_n hx hb dX8_help_50 rfl (lv_at hl 2 rfl) ?_
      obtain ⟨hK_a118, h⟩ := h
      obtain ⟨hi119, a120, ea120, h⟩ := h
      refine x_aald13 C hR hK_a118 hi119 dX8_help_51 ?_
      refine x_some ea120 ?_
      refine lv_bipush (v := 18) hx hb dX8_help_52 (by decide) ?_
      refine lv_dup2_11 hx hb dX8_help_54 rfl rfl ?_
      obtain ⟨hK_a120, h⟩ := h
      obtain ⟨hi121, h⟩ := h
      refine x_iald C hR hK_a120 hi121 dX8_help_55 ?_
      refine lv_topi (fun x122 ex122 => ?_)
      replace h := h x122 ex122
      refine lv_iconst (v := 1) hx hb dX8_help_56 (by decide) ?_
      refine lv_isub hx hb dX8_help_57 ?_
      refine lv_topi (fun x123 ex123 => ?_)
      replace h := h x123 ex123
      obtain ⟨hi124, h⟩ := h
      refine x_iast C hR hK_a120 hS hi124 dX8_help_58 (fun H locs hR hS => ?_)
      obtain ⟨S125, eS125⟩ : ∃ z : sT, z = s_sB S116 a120 (Int32.toNatClampNeg (18 : Int32)) x123 := ⟨_, rfl⟩
      rw [← eS125] at hR
      replace h := h S125 eS125
      have hK_x0 : s_K S125 x0 = 10 := by rw [eS125]; exact hK_x0
      have hK_a108 : s_K S125 a108 = 9 := by rw [eS125]; exact hK_a108
      have hK_a109 : s_K S125 a109 = 13 := by rw [eS125]; exact hK_a109
      have hK_a111 : s_K S125 a111 = 11 := by rw [eS125]; exact hK_a111
      have hK_a117 : s_K S125 a117 = 9 := by rw [eS125]; exact hK_a117
      have hK_a118 : s_K S125 a118 = 13 := by rw [eS125]; exact hK_a118
      have hK_a120 : s_K S125 a120 = 11 := by rw [eS125]; exact hK_a120
      refine lv_aload_n hx hb dX8_help_59 rfl (lv_at hl 0 rfl) ?_
      refine x_g_289 C hR hK_x0 q_3_8 dX8_help_60 ?_
      obtain ⟨a126, ea126, h⟩ := h
      refine x_some ea126 ?_
      obtain ⟨hK_a126, h⟩ := h
      refine x_gN_257 C hR hK_a126 ⟨rfl, C.2.2.2.2.2.2.1 _ (List.mem_of_getElem? (i := 1) rfl)⟩ dX8_help_63 ?_
      obtain ⟨a127, ea127, h⟩ := h
      refine x_some ea127 ?_
      refine lv_iload_n hx hb dX8_help_66 rfl (lv_at hl 2 rfl) ?_
      obtain ⟨hK_a127, h⟩ := h
      obtain ⟨hi128, a129, ea129, h⟩ := h
      refine x_aald13 C hR hK_a127 hi128 dX8_help_67 ?_
      refine x_some ea129 ?_
      refine lv_bipush (v := 10) hx hb dX8_help_68 (by decide) ?_
      refine lv_dup2_11 hx hb dX8_help_70 rfl rfl ?_
      obtain ⟨hK_a129, h⟩ := h
      obtain ⟨hi130, h⟩ := h
      refine x_iald C hR hK_a129 hi130 dX8_help_71 ?_
      refine lv_topi (fun x131 ex131 => ?_)
      replace h := h x131 ex131
      refine lv_iconst (v := 1) hx hb dX8_help_72 (by decide) ?_
      refine lv_iadd hx hb dX8_help_73 ?_
      refine lv_topi (fun x132 ex132 => ?_)
      replace h := h x132 ex132
      obtain ⟨hi133, h⟩ := h
      refine x_iast C hR hK_a129 hS hi133 dX8_help_74 (fun H locs hR hS => ?_)
      obtain ⟨S134, eS134⟩ : ∃ z : sT, z = s_sB S125 a129 (Int32.toNatClampNeg (10 : Int32)) x132 := ⟨_, rfl⟩
      rw [← eS134] at hR
      replace h := h S134 eS134
      have hK_x0 : s_K S134 x0 = 10 := by rw [eS134]; exact hK_x0
      have hK_a108 : s_K S134 a108 = 9 := by rw [eS134]; exact hK_a108
      have hK_a109 : s_K S134 a109 = 13 := by rw [eS134]; exact hK_a109
      have hK_a111 : s_K S134 a111 = 11 := by rw [eS134]; exact hK_a111
      have hK_a117 : s_K S134 a117 = 9 := by rw [eS134]; exact hK_a117
      have hK_a118 : s_K S134 a118 = 13 := by rw [eS134]; exact hK_a118
      have hK_a120 : s_K S134 a120 = 11 := by rw [eS134]; exact hK_a120
      have hK_a126 : s_K S134 a126 = 9 := by rw [eS134]; exact hK_a126
      have hK_a127 : s_K S134 a127 = 13 := by rw [eS134]; exact hK_a127
      have hK_a129 : s_K S134 a129 = 11 := by rw [eS134]; exact hK_a129
      refine lv_aload_n hx hb dX8_help_75 rfl (lv_at hl 0 rfl) ?_
      refine x_g_289 C hR hK_x0 q_3_8 dX8_help_76 ?_
      obtain ⟨a135, ea135, h⟩ := h
      refine x_some ea135 ?_
      obtain ⟨hK_a135, h⟩ := h
      refine x_gN_257 C hR hK_a135 ⟨rfl, C.2.2.2.2.2.2.1 _ (List.mem_of_getElem? (i := 1) rfl)⟩ dX8_help_79 ?_
      obtain ⟨a136, ea136, h⟩ := h
      refine x_some ea136 ?_
      refine lv_iload_n hx hb dX8_help_82 rfl (lv_at hl 2 rfl) ?_
      obtain ⟨hK_a136, h⟩ := h
      obtain ⟨hi137, a138, ea138, h⟩ := h
      refine x_aald13 C hR hK_a136 hi137 dX8_help_83 ?_
      refine x_some ea138 ?_
      refine lv_bipush (v := 10) hx hb dX8_help_84 (by decide) ?_
      obtain ⟨hK_a138, h⟩ := h
      obtain ⟨hi139, h⟩ := h
      refine x_iald C hR hK_a138 hi139 dX8_help_86 ?_
      refine lv_topi (fun x140 ex140 => ?_)
      replace h := h x140 ex140
      exact W.iret (v := x140) hx hb hr (fun t ht hW => ⟨⟨x140, S134, rfl, h, x_rt ht hR⟩, hS.F ht⟩) hS.2.2 dX8_help_87
    · replace h := h.2 hc107
      exact t_X8_help_b21 C hml hr hlocks  h H locs ls hR hS (lv_sub (l' := [(0, .ref x0)]) hl [0] rfl)
theorem m_X8_help (l : Launch) (gg : sG) (x0 : Nat) (x1 : Int32) (x2 : Int32) (S : sT) {Q : Int32 → sT → Prop} (h : w_X8_help x0 x1 x2 S Q) : x_Mi l gg yX8_help (x_ws yX8_help cX8_help 3 (some .int)) r_X8_help [.ref x0, .int x1, .int x2] S Q 0 0 := by
  refine x_ofW (cc := cX8_help) (own := RX8) (by decide +kernel) rfl (Nat.le_of_ble_eq_true rfl) ?_
  intro p e s m args below meth c C hml hr hlocks hin ht H locs ls hR hS hl
  exact t_X8_help_b0 C hml hr hlocks h H locs ls hR hS (lv_sub (l' := [(0, .ref x0), (1, .int x1), (2, .int x2)]) hl [0, 1, 2] rfl)
def w_X8_ducks_b39 (x0 : Nat) (x1 : Int32) (y0 : Int32) (y1 : Int32) (y2 : Nat) (S : sT)  (Q : Int32 → sT → Prop) : Prop :=
s_K S y2 = 11 ∧
    vp_in y1 (s_N S y2) ∧
    ∀ S102 : sT, S102 = s_sB S y2 (Int32.toNatClampNeg y1) y0 →
    s_K S102 x0 = 10 ∧
    ∃ a103 : Nat, s_R S102 289 x0 = some a103 ∧
    s_K S102 a103 = 9 ∧
    ∃ a104 : Nat, s_R S102 257 a103 = some a104 ∧
    s_K S102 a104 = 13 ∧
    vp_in x1 (s_N S102 a104) ∧
    ∃ a106 : Nat, s_P S102 a104 (Int32.toNatClampNeg x1) = some a106 ∧
    s_K S102 a106 = 11 ∧
    vp_in (8 : Int32) (s_N S102 a106) ∧
    ∀ x108 : Int32, x108 = s_B S102 a106 (Int32.toNatClampNeg (8 : Int32)) →
    Q x108 S102
def w_X8_ducks_b0 (x0 : Nat) (x1 : Int32) (x2 : Int32) (S : sT)  (Q : Int32 → sT → Prop) : Prop :=
s_K S x0 = 10 ∧
    ∀ S101 : sT, S101 = s_sI S 288 x0 (0 : Int32) →
    w_X8_isField x0 x1 S101 (fun x103 S102 =>
    ((¬ x103 = 0 → s_K S102 x0 = 10 ∧
    ∃ a105 : Nat, s_R S102 289 x0 = some a105 ∧
    s_K S102 a105 = 9 ∧
    ∃ a106 : Nat, s_R S102 257 a105 = some a106 ∧
    s_K S102 a106 = 13 ∧
    vp_in x1 (s_N S102 a106) ∧
    ∃ a108 : Nat, s_P S102 a106 (Int32.toNatClampNeg x1) = some a108 ∧
    ((x2 = 0 → w_X8_ducks_b39 x0 x1 (0 : Int32) (16 : Int32) a108 S102  Q) ∧
    (¬ x2 = 0 → w_X8_ducks_b39 x0 x1 (1 : Int32) (16 : Int32) a108 S102  Q))) ∧
    (x103 = 0 → s_K S102 x0 = 10 ∧
    w_X8_refuse x0 (1 : Int32) S102 (fun x111 S110 =>
    Q x111 S110))))
def w_X8_ducks (x0 : Nat) (x1 : Int32) (x2 : Int32) (S : sT) (Q : Int32 → sT → Prop) : Prop := w_X8_ducks_b0 x0 x1 x2 S Q
def r_X8_ducks : Room := x_rm 2 43 0 0
theorem b_X8_ducks : x_BV yX8_ducks cX8_ducks 3 (some .int) 2 := ⟨q_17_15, q_17_13, q_17_14, q_1_5, by decide +kernel⟩
set_option maxHeartbeats 4000000 in
theorem t_X8_ducks_b39 (C : x_C p s m args c cX8_ducks RX8 gg) (hml : c.maxLocals = 3) (hr : meth.sig.returnType = (some .int)) (hlocks : meth.locks = false) {x0 : Nat} {x1 : Int32} {y0 : Int32} {y1 : Int32} {y2 : Nat}  {S : sT}  {Q : Int32 → sT → Prop} (h : w_X8_ducks_b39 x0 x1 y0 y1 y2 S  Q) : x_X p l e r_X8_ducks s m args below meth c gg 3 0 0 (MQ below (va_Qi Q (fun S1 t => s_Rep gg S1 t.heap) (s_A gg)) args s 0 0 (s_A gg)) 39 [(0, .ref x0), (1, .int x1)] [.int y0, .int y1, .ref y2] S := by
  unfold w_X8_ducks_b39 at h
  obtain ⟨hx, hb, -⟩ := id C
  intro H locs ls hR hS hl
  obtain ⟨hK_y2, h⟩ := h
  obtain ⟨hi101, h⟩ := h
  refine x_iast C hR hK_y2 hS hi101 dX8_ducks_39 (fun H locs hR hS => ?_)
  obtain ⟨S102, eS102⟩ : ∃ z : sT, z = s_sB S y2 (Int32.toNatClampNeg y1) y0 := ⟨_, rfl⟩
  rw [← eS102] at hR
  replace h := h S102 eS102
  have hK_y2 : s_K S102 y2 = 11 := by rw [eS102]; exact hK_y2
  refine lv_aload_n hx hb dX8_ducks_40 rfl (lv_at hl 0 rfl) ?_
  obtain ⟨hK_x0, h⟩ := h
  refine x_g_289 C hR hK_x0 q_3_8 dX8_ducks_41 ?_
  obtain ⟨a103, ea103, h⟩ := h
  refine x_some ea103 ?_
  obtain ⟨hK_a103, h⟩ := h
  refine x_gN_257 C hR hK_a103 ⟨rfl, C.2.2.2.2.2.2.1 _ (List.mem_of_getElem? (i := 1) rfl)⟩ dX8_ducks_44 ?_
  obtain ⟨a104, ea104, h⟩ := h
  refine x_some ea104 ?_
  refine lv_iload_n hx hb dX8_ducks_47 rfl (lv_at hl 1 rfl) ?_
  obtain ⟨hK_a104, h⟩ := h
  obtain ⟨hi105, a106, ea106, h⟩ := h
  refine x_aald13 C hR hK_a104 hi105 dX8_ducks_48 ?_
  refine x_some ea106 ?_
  refine lv_bipush (v := 8) hx hb dX8_ducks_49 (by decide) ?_
  obtain ⟨hK_a106, h⟩ := h
  obtain ⟨hi107, h⟩ := h
  refine x_iald C hR hK_a106 hi107 dX8_ducks_51 ?_
  refine lv_topi (fun x108 ex108 => ?_)
  replace h := h x108 ex108
  exact W.iret (v := x108) hx hb hr (fun t ht hW => ⟨⟨x108, S102, rfl, h, x_rt ht hR⟩, hS.F ht⟩) hS.2.2 dX8_ducks_52
set_option maxHeartbeats 4000000 in
theorem t_X8_ducks_b0 (C : x_C p s m args c cX8_ducks RX8 gg) (hml : c.maxLocals = 3) (hr : meth.sig.returnType = (some .int)) (hlocks : meth.locks = false) {x0 : Nat} {x1 : Int32} {x2 : Int32}  {S : sT}  {Q : Int32 → sT → Prop} (h : w_X8_ducks_b0 x0 x1 x2 S  Q) : x_X p l e r_X8_ducks s m args below meth c gg 3 0 0 (MQ below (va_Qi Q (fun S1 t => s_Rep gg S1 t.heap) (s_A gg)) args s 0 0 (s_A gg)) 0 [(0, .ref x0), (1, .int x1), (2, .int x2)] [] S := by
  unfold w_X8_ducks_b0 at h
  obtain ⟨hx, hb, -⟩ := id C
  intro H locs ls hR hS hl
  refine lv_aload_n hx hb dX8_ducks_0 rfl (lv_at hl 0 rfl) ?_
  refine lv_iconst (v := 0) hx hb dX8_ducks_1 (by decide) ?_
  obtain ⟨hK_x0, h⟩ := h
  refine x_p_288 (v := (0 : Int32)) C hR hK_x0 hS q_8_1 dX8_ducks_2 (fun H locs hR hS => ?_)
  obtain ⟨S101, eS101⟩ : ∃ z : sT, z = s_sI S 288 x0 (0 : Int32) := ⟨_, rfl⟩
  rw [← eS101] at hR
  replace h := h S101 eS101
  have hK_x0 : s_K S101 x0 = 10 := by rw [eS101]; exact hK_x0
  refine lv_aload_n hx hb dX8_ducks_5 rfl (lv_at hl 0 rfl) ?_
  refine lv_iload_n hx hb dX8_ducks_6 rfl (lv_at hl 1 rfl) ?_
  refine x_ki (x_runV (As := [.int x1]) (rest := []) C hml hR hS (m_X8_isField l gg x0 x1 S101 h) b_X8_isField q_13_7 (by rw [hK_x0]; decide) (s_E_9 hK_x0) rfl rfl rfl rfl ⟨Nat.le_of_ble_eq_true rfl, Nat.le_of_ble_eq_true rfl⟩ rfl hl.1 (Nat.le_of_ble_eq_true rfl) dX8_ducks_7 ⟨Nat.le_refl _, Nat.le_refl _⟩) hS (fun x103 S102 H locs h hR hS => ?_)
  refine lv_if_ne (tgt := 19) hx hb dX8_ducks_10 (by decide) (fun hc104 => ?_) (fun hc104 => ?_)
  · replace h := h.1 hc104
    refine lv_aload_n hx hb dX8_ducks_19 rfl (lv_at hl 0 rfl) ?_
    obtain ⟨hK_x0, h⟩ := h
    refine x_g_289 C hR hK_x0 q_3_8 dX8_ducks_20 ?_
    obtain ⟨a105, ea105, h⟩ := h
    refine x_some ea105 ?_
    obtain ⟨hK_a105, h⟩ := h
    refine x_gN_257 C hR hK_a105 ⟨rfl, C.2.2.2.2.2.2.1 _ (List.mem_of_getElem? (i := 1) rfl)⟩ dX8_ducks_23 ?_
    obtain ⟨a106, ea106, h⟩ := h
    refine x_some ea106 ?_
    refine lv_iload_n hx hb dX8_ducks_26 rfl (lv_at hl 1 rfl) ?_
    obtain ⟨hK_a106, h⟩ := h
    obtain ⟨hi107, a108, ea108, h⟩ := h
    refine x_aald13 C hR hK_a106 hi107 dX8_ducks_27 ?_
    refine x_some ea108 ?_
    refine lv_bipush (v := 16) hx hb dX8_ducks_28 (by decide) ?_
    refine lv_iload_n hx hb dX8_ducks_30 rfl (lv_at hl 2 rfl) ?_
    refine lv_if_eq (tgt := 38) hx hb dX8_ducks_31 (by decide) (fun hc109 => ?_) (fun hc109 => ?_)
    · replace h := h.1 hc109
      refine lv_iconst (v := 0) hx hb dX8_ducks_38 (by decide) ?_
      exact t_X8_ducks_b39 C hml hr hlocks  h H locs ls hR hS (lv_sub (l' := [(0, .ref x0), (1, .int x1)]) hl [0, 1] rfl)
    · replace h := h.2 hc109
      refine lv_iconst (v := 1) hx hb dX8_ducks_34 (by decide) ?_
      refine lv_goto (tgt := 39) hx hb dX8_ducks_35 (by decide) ?_
      exact t_X8_ducks_b39 C hml hr hlocks  h H locs ls hR hS (lv_sub (l' := [(0, .ref x0), (1, .int x1)]) hl [0, 1] rfl)
  · replace h := h.2 hc104
    refine lv_aload_n hx hb dX8_ducks_13 rfl (lv_at hl 0 rfl) ?_
    refine lv_iconst (v := 1) hx hb dX8_ducks_14 (by decide) ?_
    obtain ⟨hK_x0, h⟩ := h
    refine x_ki (x_runV (As := [.int (1 : Int32)]) (rest := []) C hml hR hS (m_X8_refuse l gg x0 (1 : Int32) S102 h) b_X8_refuse q_8_5 (by rw [hK_x0]; decide) (s_E_9 hK_x0) rfl rfl rfl rfl ⟨Nat.le_of_ble_eq_true rfl, Nat.le_of_ble_eq_true rfl⟩ rfl hl.1 (Nat.le_of_ble_eq_true rfl) dX8_ducks_15 ⟨Nat.le_refl _, Nat.le_refl _⟩) hS (fun x111 S110 H locs h hR hS => ?_)
    exact W.iret (v := x111) hx hb hr (fun t ht hW => ⟨⟨x111, S110, rfl, h, x_rt ht hR⟩, hS.F ht⟩) hS.2.2 dX8_ducks_18
theorem m_X8_ducks (l : Launch) (gg : sG) (x0 : Nat) (x1 : Int32) (x2 : Int32) (S : sT) {Q : Int32 → sT → Prop} (h : w_X8_ducks x0 x1 x2 S Q) : x_Mi l gg yX8_ducks (x_ws yX8_ducks cX8_ducks 3 (some .int)) r_X8_ducks [.ref x0, .int x1, .int x2] S Q 0 0 := by
  refine x_ofW (cc := cX8_ducks) (own := RX8) (by decide +kernel) rfl (Nat.le_of_ble_eq_true rfl) ?_
  intro p e s m args below meth c C hml hr hlocks hin ht H locs ls hR hS hl
  exact t_X8_ducks_b0 C hml hr hlocks h H locs ls hR hS (lv_sub (l' := [(0, .ref x0), (1, .int x1), (2, .int x2)]) hl [0, 1, 2] rfl)
def w_X7_yield_b0 (x1 : Nat) (S : sT)  (Q : Int32 → sT → Prop) : Prop :=
s_K S x1 = 11 ∧
    vp_in (4 : Int32) (s_N S x1) ∧
    ∀ x102 : Int32, x102 = s_B S x1 (Int32.toNatClampNeg (4 : Int32)) →
    ((x102 = (5 : Int32) → vp_in (5 : Int32) (s_N S x1) ∧
    ∀ x105 : Int32, x105 = s_B S x1 (Int32.toNatClampNeg (5 : Int32)) →
    ∀ x106 : Int32, x106 = (20 : Int32) * x105 →
    ∀ x107 : Int32, x107 = (40 : Int32) + x106 →
    vp_in (7 : Int32) (s_N S x1) ∧
    ∀ x109 : Int32, x109 = s_B S x1 (Int32.toNatClampNeg (7 : Int32)) →
    ∀ x110 : Int32, x110 = x107 * x109 →
    ∀ x111 : Int32, x111 = x110 / (100 : Int32) →
    vp_in (9 : Int32) (s_N S x1) ∧
    ∀ x113 : Int32, x113 = s_B S x1 (Int32.toNatClampNeg (9 : Int32)) →
    ∀ x114 : Int32, x114 = (50 : Int32) + x113 →
    ∀ x115 : Int32, x115 = x111 * x114 →
    ∀ x116 : Int32, x116 = x115 / (100 : Int32) →
    Q x116 S) ∧
    (¬ x102 = (5 : Int32) → Q (0 : Int32) S))
def w_X7_yield (x0 : Nat) (x1 : Nat) (S : sT) (Q : Int32 → sT → Prop) : Prop := w_X7_yield_b0 x1 S Q
def r_X7_yield : Room := x_rm 0 0 0 0
theorem b_X7_yield : x_BV yX7_yield cX7_yield 3 (some .int) 1 := ⟨q_19_9, q_19_7, q_19_8, q_3_7, by decide +kernel⟩
set_option maxHeartbeats 4000000 in
theorem t_X7_yield_b0 (C : x_C p s m args c cX7_yield RX7 gg) (hml : c.maxLocals = 3) (hr : meth.sig.returnType = (some .int)) (hlocks : meth.locks = false) {x1 : Nat}  {S : sT}  {Q : Int32 → sT → Prop} (h : w_X7_yield_b0 x1 S  Q) : x_X p l e r_X7_yield s m args below meth c gg 3 0 0 (MQ below (va_Qi Q (fun S1 t => s_Rep gg S1 t.heap) (s_A gg)) args s 0 0 (s_A gg)) 0 [(1, .ref x1)] [] S := by
  unfold w_X7_yield_b0 at h
  obtain ⟨hx, hb, -⟩ := id C
  intro H locs ls hR hS hl
  refine lv_aload_n hx hb dX7_yield_0 rfl (lv_at hl 0 rfl) ?_
  refine lv_iconst (v := 4) hx hb dX7_yield_1 (by decide) ?_
  obtain ⟨hK_x1, h⟩ := h
  obtain ⟨hi101, h⟩ := h
  refine x_iald C hR hK_x1 hi101 dX7_yield_2 ?_
  refine lv_topi (fun x102 ex102 => ?_)
  replace h := h x102 ex102
  refine lv_iconst (v := 5) hx hb dX7_yield_3 (by decide) ?_
  refine lv_icmp_eq (tgt := 9) hx hb dX7_yield_4 (by decide) (fun hc103 => ?_) (fun hc103 => ?_)
  · replace h := h.1 hc103
    refine lv_bipush (v := 40) hx hb dX7_yield_9 (by decide) ?_
    refine lv_bipush (v := 20) hx hb dX7_yield_11 (by decide) ?_
    refine lv_aload_n hx hb dX7_yield_13 rfl (lv_at hl 0 rfl) ?_
    refine lv_iconst (v := 5) hx hb dX7_yield_14 (by decide) ?_
    obtain ⟨hi104, h⟩ := h
    refine x_iald C hR hK_x1 hi104 dX7_yield_15 ?_
    refine lv_topi (fun x105 ex105 => ?_)
    replace h := h x105 ex105
    refine lv_imul hx hb dX7_yield_16 ?_
    refine lv_topi (fun x106 ex106 => ?_)
    replace h := h x106 ex106
    refine lv_iadd hx hb dX7_yield_17 ?_
    refine lv_topi (fun x107 ex107 => ?_)
    replace h := h x107 ex107
    refine lv_aload_n hx hb dX7_yield_18 rfl (lv_at hl 0 rfl) ?_
    refine lv_bipush (v := 7) hx hb dX7_yield_19 (by decide) ?_
    obtain ⟨hi108, h⟩ := h
    refine x_iald C hR hK_x1 hi108 dX7_yield_21 ?_
    refine lv_topi (fun x109 ex109 => ?_)
    replace h := h x109 ex109
    refine lv_imul hx hb dX7_yield_22 ?_
    refine lv_topi (fun x110 ex110 => ?_)
    replace h := h x110 ex110
    refine lv_bipush (v := 100) hx hb dX7_yield_23 (by decide) ?_
    refine lv_idiv hx hb dX7_yield_25 (by decide) ?_
    refine lv_topi (fun x111 ex111 => ?_)
    replace h := h x111 ex111
    refine lv_istore_n (lv' := [(2, .int x111), (1, .ref x1)]) hx hb dX7_yield_26 rfl hl (by decide) rfl (fun ls hl => ?_)
    refine lv_iload_n hx hb dX7_yield_27 rfl (lv_at hl 0 rfl) ?_
    refine lv_bipush (v := 50) hx hb dX7_yield_28 (by decide) ?_
    refine lv_aload_n hx hb dX7_yield_30 rfl (lv_at hl 1 rfl) ?_
    refine lv_bipush (v := 9) hx hb dX7_yield_31 (by decide) ?_
    obtain ⟨hi112, h⟩ := h
    refine x_iald C hR hK_x1 hi112 dX7_yield_33 ?_
    refine lv_topi (fun x113 ex113 => ?_)
    replace h := h x113 ex113
    refine lv_iadd hx hb dX7_yield_34 ?_
    refine lv_topi (fun x114 ex114 => ?_)
    replace h := h x114 ex114
    refine lv_imul hx hb dX7_yield_35 ?_
    refine lv_topi (fun x115 ex115 => ?_)
    replace h := h x115 ex115
    refine lv_bipush (v := 100) hx hb dX7_yield_36 (by decide) ?_
    refine lv_idiv hx hb dX7_yield_38 (by decide) ?_
    refine lv_topi (fun x116 ex116 => ?_)
    replace h := h x116 ex116
    exact W.iret (v := x116) hx hb hr (fun t ht hW => ⟨⟨x116, S, rfl, h, x_rt ht hR⟩, hS.F ht⟩) hS.2.2 dX7_yield_39
  · replace h := h.2 hc103
    refine lv_iconst (v := 0) hx hb dX7_yield_7 (by decide) ?_
    exact W.iret (v := (0 : Int32)) hx hb hr (fun t ht hW => ⟨⟨(0 : Int32), S, rfl, h, x_rt ht hR⟩, hS.F ht⟩) hS.2.2 dX7_yield_8
theorem m_X7_yield (l : Launch) (gg : sG) (x0 : Nat) (x1 : Nat) (S : sT) {Q : Int32 → sT → Prop} (h : w_X7_yield x0 x1 S Q) : x_Mi l gg yX7_yield (x_ws yX7_yield cX7_yield 3 (some .int)) r_X7_yield [.ref x0, .ref x1] S Q 0 0 := by
  refine x_ofW (cc := cX7_yield) (own := RX7) (by decide +kernel) rfl (Nat.le_of_ble_eq_true rfl) ?_
  intro p e s m args below meth c C hml hr hlocks hin ht H locs ls hR hS hl
  exact t_X7_yield_b0 C hml hr hlocks h H locs ls hR hS (lv_sub (l' := [(1, .ref x1)]) hl [1] rfl)
def w_X8_harvest_b157 (x4 : Int32) (S : sT)  (Q : Int32 → sT → Prop) : Prop :=
Q x4 S
def w_X8_harvest_b0 (x0 : Nat) (x1 : Int32) (x2 : Int32) (S : sT)  (Q : Int32 → sT → Prop) : Prop :=
s_K S x0 = 10 ∧
    ∀ S101 : sT, S101 = s_sI S 288 x0 (0 : Int32) →
    w_X8_isField x0 x1 S101 (fun x103 S102 =>
    ((¬ x103 = 0 → s_K S102 x0 = 10 ∧
    ∃ a105 : Nat, s_R S102 289 x0 = some a105 ∧
    s_K S102 a105 = 9 ∧
    ∃ a106 : Nat, s_R S102 257 a105 = some a106 ∧
    s_K S102 a106 = 13 ∧
    vp_in x1 (s_N S102 a106) ∧
    ∃ a108 : Nat, s_P S102 a106 (Int32.toNatClampNeg x1) = some a108 ∧
    s_K S102 a108 = 11 ∧
    vp_in (4 : Int32) (s_N S102 a108) ∧
    ∀ x110 : Int32, x110 = s_B S102 a108 (Int32.toNatClampNeg (4 : Int32)) →
    ((x110 = (5 : Int32) → ∃ a112 : Nat, s_R S102 289 x0 = some a112 ∧
    s_K S102 a112 = 9 ∧
    w_X7_yield a112 a108 S102 (fun x114 S113 =>
    s_K S113 x0 = 10 ∧
    ∃ a115 : Nat, s_R S113 289 x0 = some a115 ∧
    s_K S113 a115 = 9 ∧
    ∃ a116 : Nat, s_R S113 258 a115 = some a116 ∧
    s_K S113 a116 = 11 ∧
    vp_in (10 : Int32) (s_N S113 a116) ∧
    ∀ x118 : Int32, x118 = s_B S113 a116 (Int32.toNatClampNeg (10 : Int32)) →
    ∀ x119 : Int32, x119 = x118 + x114 →
    vp_in (10 : Int32) (s_N S113 a116) ∧
    ∀ S121 : sT, S121 = s_sB S113 a116 (Int32.toNatClampNeg (10 : Int32)) x119 →
    ∃ a122 : Nat, s_R S121 289 x0 = some a122 ∧
    s_K S121 a122 = 9 ∧
    ∃ a123 : Nat, s_R S121 256 a122 = some a123 ∧
    s_K S121 a108 = 11 ∧
    vp_in (0 : Int32) (s_N S121 a108) ∧
    ∀ x125 : Int32, x125 = s_B S121 a108 (Int32.toNatClampNeg (0 : Int32)) →
    s_K S121 a123 = 13 ∧
    vp_in x125 (s_N S121 a123) ∧
    ∃ a127 : Nat, s_P S121 a123 (Int32.toNatClampNeg x125) = some a127 ∧
    s_K S121 a127 = 11 ∧
    vp_in (8 : Int32) (s_N S121 a127) ∧
    ∀ x129 : Int32, x129 = s_B S121 a127 (Int32.toNatClampNeg (8 : Int32)) →
    ∀ x130 : Int32, x130 = x129 + x114 →
    vp_in (8 : Int32) (s_N S121 a127) ∧
    ∀ S132 : sT, S132 = s_sB S121 a127 (Int32.toNatClampNeg (8 : Int32)) x130 →
    ∃ a133 : Nat, s_R S132 289 x0 = some a133 ∧
    s_K S132 a133 = 9 ∧
    ∃ a134 : Nat, s_R S132 256 a133 = some a134 ∧
    vp_in (0 : Int32) (s_N S132 a108) ∧
    ∀ x136 : Int32, x136 = s_B S132 a108 (Int32.toNatClampNeg (0 : Int32)) →
    s_K S132 a134 = 13 ∧
    vp_in x136 (s_N S132 a134) ∧
    ∃ a138 : Nat, s_P S132 a134 (Int32.toNatClampNeg x136) = some a138 ∧
    s_K S132 a138 = 11 ∧
    vp_in (4 : Int32) (s_N S132 a138) ∧
    ∀ x140 : Int32, x140 = s_B S132 a138 (Int32.toNatClampNeg (4 : Int32)) →
    ∀ x141 : Int32, x141 = x114 / (10 : Int32) →
    ∀ x142 : Int32, x142 = x140 + x141 →
    vp_in (4 : Int32) (s_N S132 a138) ∧
    ∀ S144 : sT, S144 = s_sB S132 a138 (Int32.toNatClampNeg (4 : Int32)) x142 →
    vp_in (19 : Int32) (s_N S144 a108) ∧
    ∀ x146 : Int32, x146 = s_B S144 a108 (Int32.toNatClampNeg (19 : Int32)) →
    ∀ x147 : Int32, x147 = x114 / (10 : Int32) →
    ∀ x148 : Int32, x148 = x114 - x147 →
    ∀ x149 : Int32, x149 = x146 + x148 →
    vp_in (19 : Int32) (s_N S144 a108) ∧
    ∀ S151 : sT, S151 = s_sB S144 a108 (Int32.toNatClampNeg (19 : Int32)) x149 →
    vp_in (4 : Int32) (s_N S151 a108) ∧
    ∀ S153 : sT, S153 = s_sB S151 a108 (Int32.toNatClampNeg (4 : Int32)) (0 : Int32) →
    ((x2 = 0 → vp_in (9 : Int32) (s_N S153 a108) ∧
    ∀ x156 : Int32, x156 = s_B S153 a108 (Int32.toNatClampNeg (9 : Int32)) →
    ∀ x157 : Int32, x157 = x156 + (10 : Int32) →
    ∀ x158 : Int32, x158 = s_min (50 : Int32) x157 →
    vp_in (9 : Int32) (s_N S153 a108) ∧
    ∀ S160 : sT, S160 = s_sB S153 a108 (Int32.toNatClampNeg (9 : Int32)) x158 →
    w_X8_harvest_b157 x114 S160  Q) ∧
    (¬ x2 = 0 → vp_in (8 : Int32) (s_N S153 a108) ∧
    ∀ x162 : Int32, x162 = s_B S153 a108 (Int32.toNatClampNeg (8 : Int32)) →
    ∀ x163 : Int32, x163 = x162 / (2 : Int32) →
    vp_in (8 : Int32) (s_N S153 a108) ∧
    ∀ S165 : sT, S165 = s_sB S153 a108 (Int32.toNatClampNeg (8 : Int32)) x163 →
    w_X8_harvest_b157 x114 S165  Q)))) ∧
    (¬ x110 = (5 : Int32) → w_X8_refuse x0 (2 : Int32) S102 (fun x167 S166 =>
    Q x167 S166)))) ∧
    (x103 = 0 → s_K S102 x0 = 10 ∧
    w_X8_refuse x0 (1 : Int32) S102 (fun x169 S168 =>
    Q x169 S168))))
def w_X8_harvest (x0 : Nat) (x1 : Int32) (x2 : Int32) (S : sT) (Q : Int32 → sT → Prop) : Prop := w_X8_harvest_b0 x0 x1 x2 S Q
def r_X8_harvest : Room := x_rm 2 43 0 0
theorem b_X8_harvest : x_BV yX8_harvest cX8_harvest 5 (some .int) 2 := ⟨q_19_4, q_19_2, q_19_3, q_1_5, by decide +kernel⟩
set_option maxHeartbeats 4000000 in
theorem t_X8_harvest_b157 (C : x_C p s m args c cX8_harvest RX8 gg) (hml : c.maxLocals = 5) (hr : meth.sig.returnType = (some .int)) (hlocks : meth.locks = false) {x4 : Int32}  {S : sT}  {Q : Int32 → sT → Prop} (h : w_X8_harvest_b157 x4 S  Q) : x_X p l e r_X8_harvest s m args below meth c gg 5 0 0 (MQ below (va_Qi Q (fun S1 t => s_Rep gg S1 t.heap) (s_A gg)) args s 0 0 (s_A gg)) 157 [(4, .int x4)] [] S := by
  unfold w_X8_harvest_b157 at h
  obtain ⟨hx, hb, -⟩ := id C
  intro H locs ls hR hS hl
  refine lv_iload hx hb dX8_harvest_157 (lv_at hl 0 rfl) ?_
  exact W.iret (v := x4) hx hb hr (fun t ht hW => ⟨⟨x4, S, rfl, h, x_rt ht hR⟩, hS.F ht⟩) hS.2.2 dX8_harvest_159
set_option maxHeartbeats 4000000 in
theorem t_X8_harvest_b0 (C : x_C p s m args c cX8_harvest RX8 gg) (hml : c.maxLocals = 5) (hr : meth.sig.returnType = (some .int)) (hlocks : meth.locks = false) {x0 : Nat} {x1 : Int32} {x2 : Int32}  {S : sT}  {Q : Int32 → sT → Prop} (h : w_X8_harvest_b0 x0 x1 x2 S  Q) : x_X p l e r_X8_harvest s m args below meth c gg 5 0 0 (MQ below (va_Qi Q (fun S1 t => s_Rep gg S1 t.heap) (s_A gg)) args s 0 0 (s_A gg)) 0 [(0, .ref x0), (1, .int x1), (2, .int x2)] [] S := by
  unfold w_X8_harvest_b0 at h
  obtain ⟨hx, hb, -⟩ := id C
  intro H locs ls hR hS hl
  refine lv_aload_n hx hb dX8_harvest_0 rfl (lv_at hl 0 rfl) ?_
  refine lv_iconst (v := 0) hx hb dX8_harvest_1 (by decide) ?_
  obtain ⟨hK_x0, h⟩ := h
  refine x_p_288 (v := (0 : Int32)) C hR hK_x0 hS q_8_1 dX8_harvest_2 (fun H locs hR hS => ?_)
  obtain ⟨S101, eS101⟩ : ∃ z : sT, z = s_sI S 288 x0 (0 : Int32) := ⟨_, rfl⟩
  rw [← eS101] at hR
  replace h := h S101 eS101
  have hK_x0 : s_K S101 x0 = 10 := by rw [eS101]; exact hK_x0
  refine lv_aload_n hx hb dX8_harvest_5 rfl (lv_at hl 0 rfl) ?_
  refine lv_iload_n hx hb dX8_harvest_6 rfl (lv_at hl 1 rfl) ?_
  refine x_ki (x_runV (As := [.int x1]) (rest := []) C hml hR hS (m_X8_isField l gg x0 x1 S101 h) b_X8_isField q_13_7 (by rw [hK_x0]; decide) (s_E_9 hK_x0) rfl rfl rfl rfl ⟨Nat.le_of_ble_eq_true rfl, Nat.le_of_ble_eq_true rfl⟩ rfl hl.1 (Nat.le_of_ble_eq_true rfl) dX8_harvest_7 ⟨Nat.le_refl _, Nat.le_refl _⟩) hS (fun x103 S102 H locs h hR hS => ?_)
  refine lv_if_ne (tgt := 19) hx hb dX8_harvest_10 (by decide) (fun hc104 => ?_) (fun hc104 => ?_)
  · replace h := h.1 hc104
    refine lv_aload_n hx hb dX8_harvest_19 rfl (lv_at hl 0 rfl) ?_
    obtain ⟨hK_x0, h⟩ := h
    refine x_g_289 C hR hK_x0 q_3_8 dX8_harvest_20 ?_
    obtain ⟨a105, ea105, h⟩ := h
    refine x_some ea105 ?_
    obtain ⟨hK_a105, h⟩ := h
    refine x_gN_257 C hR hK_a105 ⟨rfl, C.2.2.2.2.2.2.1 _ (List.mem_of_getElem? (i := 1) rfl)⟩ dX8_harvest_23 ?_
    obtain ⟨a106, ea106, h⟩ := h
    refine x_some ea106 ?_
    refine lv_iload_n hx hb dX8_harvest_26 rfl (lv_at hl 1 rfl) ?_
    obtain ⟨hK_a106, h⟩ := h
    obtain ⟨hi107, a108, ea108, h⟩ := h
    refine x_aald13 C hR hK_a106 hi107 dX8_harvest_27 ?_
    refine x_some ea108 ?_
    refine lv_astore_n (lv' := [(3, .ref a108), (0, .ref x0), (1, .int x1), (2, .int x2)]) hx hb dX8_harvest_28 rfl hl (by decide) rfl (fun ls hl => ?_)
    refine lv_aload_n hx hb dX8_harvest_29 rfl (lv_at hl 0 rfl) ?_
    refine lv_iconst (v := 4) hx hb dX8_harvest_30 (by decide) ?_
    obtain ⟨hK_a108, h⟩ := h
    obtain ⟨hi109, h⟩ := h
    refine x_iald C hR hK_a108 hi109 dX8_harvest_31 ?_
    refine lv_topi (fun x110 ex110 => ?_)
    replace h := h x110 ex110
    refine lv_iconst (v := 5) hx hb dX8_harvest_32 (by decide) ?_
    refine lv_icmp_eq (tgt := 42) hx hb dX8_harvest_33 (by decide) (fun hc111 => ?_) (fun hc111 => ?_)
    · replace h := h.1 hc111
      refine lv_aload_n hx hb dX8_harvest_42 rfl (lv_at hl 1 rfl) ?_
      refine x_g_289 C hR hK_x0 q_3_8 dX8_harvest_43 ?_
      obtain ⟨a112, ea112, h⟩ := h
      refine x_some ea112 ?_
      refine lv_aload_n hx hb dX8_harvest_46 rfl (lv_at hl 0 rfl) ?_
      obtain ⟨hK_a112, h⟩ := h
      refine x_ki (x_runV (As := [.ref a108]) (rest := []) C hml hR hS (m_X7_yield l gg a112 a108 S102 h) b_X7_yield q_19_6 (by rw [hK_a112]; decide) (s_E_8 hK_a112) rfl rfl rfl rfl ⟨Nat.le_of_ble_eq_true rfl, Nat.le_of_ble_eq_true rfl⟩ rfl hl.1 (Nat.le_of_ble_eq_true rfl) dX8_harvest_47 ⟨Nat.le_refl _, Nat.le_refl _⟩) hS (fun x114 S113 H locs h hR hS => ?_)
      refine lv_istore (lv' := [(4, .int x114), (3, .ref a108), (0, .ref x0), (1, .int x1), (2, .int x2)]) hx hb dX8_harvest_50 hl (by decide) rfl (fun ls hl => ?_)
      refine lv_aload_n hx hb dX8_harvest_52 rfl (lv_at hl 2 rfl) ?_
      obtain ⟨hK_x0, h⟩ := h
      refine x_g_289 C hR hK_x0 q_3_8 dX8_harvest_53 ?_
      obtain ⟨a115, ea115, h⟩ := h
      refine x_some ea115 ?_
      obtain ⟨hK_a115, h⟩ := h
      refine x_gN_258 C hR hK_a115 ⟨rfl, C.2.2.2.2.2.2.1 _ (List.mem_of_getElem? (i := 0) rfl)⟩ dX8_harvest_56 ?_
      obtain ⟨a116, ea116, h⟩ := h
      refine x_some ea116 ?_
      refine lv_bipush (v := 10) hx hb dX8_harvest_59 (by decide) ?_
      refine lv_dup2_11 hx hb dX8_harvest_61 rfl rfl ?_
      obtain ⟨hK_a116, h⟩ := h
      obtain ⟨hi117, h⟩ := h
      refine x_iald C hR hK_a116 hi117 dX8_harvest_62 ?_
      refine lv_topi (fun x118 ex118 => ?_)
      replace h := h x118 ex118
      refine lv_iload hx hb dX8_harvest_63 (lv_at hl 0 rfl) ?_
      refine lv_iadd hx hb dX8_harvest_65 ?_
      refine lv_topi (fun x119 ex119 => ?_)
      replace h := h x119 ex119
      obtain ⟨hi120, h⟩ := h
      refine x_iast C hR hK_a116 hS hi120 dX8_harvest_66 (fun H locs hR hS => ?_)
      obtain ⟨S121, eS121⟩ : ∃ z : sT, z = s_sB S113 a116 (Int32.toNatClampNeg (10 : Int32)) x119 := ⟨_, rfl⟩
      rw [← eS121] at hR
      replace h := h S121 eS121
      have hK_x0 : s_K S121 x0 = 10 := by rw [eS121]; exact hK_x0
      have hK_a115 : s_K S121 a115 = 9 := by rw [eS121]; exact hK_a115
      have hK_a116 : s_K S121 a116 = 11 := by rw [eS121]; exact hK_a116
      refine lv_aload_n hx hb dX8_harvest_67 rfl (lv_at hl 2 rfl) ?_
      refine x_g_289 C hR hK_x0 q_3_8 dX8_harvest_68 ?_
      obtain ⟨a122, ea122, h⟩ := h
      refine x_some ea122 ?_
      obtain ⟨hK_a122, h⟩ := h
      refine x_gN_256 C hR hK_a122 ⟨rfl, C.2.2.2.2.2.2.1 _ (List.mem_of_getElem? (i := 2) rfl)⟩ dX8_harvest_71 ?_
      obtain ⟨a123, ea123, h⟩ := h
      refine x_some ea123 ?_
      refine lv_aload_n hx hb dX8_harvest_74 rfl (lv_at hl 1 rfl) ?_
      refine lv_iconst (v := 0) hx hb dX8_harvest_75 (by decide) ?_
      obtain ⟨hK_a108, h⟩ := h
      obtain ⟨hi124, h⟩ := h
      refine x_iald C hR hK_a108 hi124 dX8_harvest_76 ?_
      refine lv_topi (fun x125 ex125 => ?_)
      replace h := h x125 ex125
      obtain ⟨hK_a123, h⟩ := h
      obtain ⟨hi126, a127, ea127, h⟩ := h
      refine x_aald13 C hR hK_a123 hi126 dX8_harvest_77 ?_
      refine x_some ea127 ?_
      refine lv_bipush (v := 8) hx hb dX8_harvest_78 (by decide) ?_
      refine lv_dup2_11 hx hb dX8_harvest_80 rfl rfl ?_
      obtain ⟨hK_a127, h⟩ := h
      obtain ⟨hi128, h⟩ := h
      refine x_iald C hR hK_a127 hi128 dX8_harvest_81 ?_
      refine lv_topi (fun x129 ex129 => ?_)
      replace h := h x129 ex129
      refine lv_iload hx hb dX8_harvest_82 (lv_at hl 0 rfl) ?_
      refine lv_iadd hx hb dX8_harvest_84 ?_
      refine lv_topi (fun x130 ex130 => ?_)
      replace h := h x130 ex130
      obtain ⟨hi131, h⟩ := h
      refine x_iast C hR hK_a127 hS hi131 dX8_harvest_85 (fun H locs hR hS => ?_)
      obtain ⟨S132, eS132⟩ : ∃ z : sT, z = s_sB S121 a127 (Int32.toNatClampNeg (8 : Int32)) x130 := ⟨_, rfl⟩
      rw [← eS132] at hR
      replace h := h S132 eS132
      have hK_x0 : s_K S132 x0 = 10 := by rw [eS132]; exact hK_x0
      have hK_a115 : s_K S132 a115 = 9 := by rw [eS132]; exact hK_a115
      have hK_a116 : s_K S132 a116 = 11 := by rw [eS132]; exact hK_a116
      have hK_a122 : s_K S132 a122 = 9 := by rw [eS132]; exact hK_a122
      have hK_a108 : s_K S132 a108 = 11 := by rw [eS132]; exact hK_a108
      have hK_a123 : s_K S132 a123 = 13 := by rw [eS132]; exact hK_a123
      have hK_a127 : s_K S132 a127 = 11 := by rw [eS132]; exact hK_a127
      refine lv_aload_n hx hb dX8_harvest_86 rfl (lv_at hl 2 rfl) ?_
      refine x_g_289 C hR hK_x0 q_3_8 dX8_harvest_87 ?_
      obtain ⟨a133, ea133, h⟩ := h
      refine x_some ea133 ?_
      obtain ⟨hK_a133, h⟩ := h
      refine x_gN_256 C hR hK_a133 ⟨rfl, C.2.2.2.2.2.2.1 _ (List.mem_of_getElem? (i := 2) rfl)⟩ dX8_harvest_90 ?_
      obtain ⟨a134, ea134, h⟩ := h
      refine x_some ea134 ?_
      refine lv_aload_n hx hb dX8_harvest_93 rfl (lv_at hl 1 rfl) ?_
      refine lv_iconst (v := 0) hx hb dX8_harvest_94 (by decide) ?_
      obtain ⟨hi135, h⟩ := h
      refine x_iald C hR hK_a108 hi135 dX8_harvest_95 ?_
      refine lv_topi (fun x136 ex136 => ?_)
      replace h := h x136 ex136
      obtain ⟨hK_a134, h⟩ := h
      obtain ⟨hi137, a138, ea138, h⟩ := h
      refine x_aald13 C hR hK_a134 hi137 dX8_harvest_96 ?_
      refine x_some ea138 ?_
      refine lv_iconst (v := 4) hx hb dX8_harvest_97 (by decide) ?_
      refine lv_dup2_11 hx hb dX8_harvest_98 rfl rfl ?_
      obtain ⟨hK_a138, h⟩ := h
      obtain ⟨hi139, h⟩ := h
      refine x_iald C hR hK_a138 hi139 dX8_harvest_99 ?_
      refine lv_topi (fun x140 ex140 => ?_)
      replace h := h x140 ex140
      refine lv_iload hx hb dX8_harvest_100 (lv_at hl 0 rfl) ?_
      refine lv_bipush (v := 10) hx hb dX8_harvest_102 (by decide) ?_
      refine lv_idiv hx hb dX8_harvest_104 (by decide) ?_
      refine lv_topi (fun x141 ex141 => ?_)
      replace h := h x141 ex141
      refine lv_iadd hx hb dX8_harvest_105 ?_
      refine lv_topi (fun x142 ex142 => ?_)
      replace h := h x142 ex142
      obtain ⟨hi143, h⟩ := h
      refine x_iast C hR hK_a138 hS hi143 dX8_harvest_106 (fun H locs hR hS => ?_)
      obtain ⟨S144, eS144⟩ : ∃ z : sT, z = s_sB S132 a138 (Int32.toNatClampNeg (4 : Int32)) x142 := ⟨_, rfl⟩
      rw [← eS144] at hR
      replace h := h S144 eS144
      have hK_x0 : s_K S144 x0 = 10 := by rw [eS144]; exact hK_x0
      have hK_a115 : s_K S144 a115 = 9 := by rw [eS144]; exact hK_a115
      have hK_a116 : s_K S144 a116 = 11 := by rw [eS144]; exact hK_a116
      have hK_a122 : s_K S144 a122 = 9 := by rw [eS144]; exact hK_a122
      have hK_a108 : s_K S144 a108 = 11 := by rw [eS144]; exact hK_a108
      have hK_a123 : s_K S144 a123 = 13 := by rw [eS144]; exact hK_a123
      have hK_a127 : s_K S144 a127 = 11 := by rw [eS144]; exact hK_a127
      have hK_a133 : s_K S144 a133 = 9 := by rw [eS144]; exact hK_a133
      have hK_a134 : s_K S144 a134 = 13 := by rw [eS144]; exact hK_a134
      have hK_a138 : s_K S144 a138 = 11 := by rw [eS144]; exact hK_a138
      refine lv_aload_n hx hb dX8_harvest_107 rfl (lv_at hl 1 rfl) ?_
      refine lv_bipush (v := 19) hx hb dX8_harvest_108 (by decide) ?_
      refine lv_dup2_11 hx hb dX8_harvest_110 rfl rfl ?_
      obtain ⟨hi145, h⟩ := h
      refine x_iald C hR hK_a108 hi145 dX8_harvest_111 ?_
      refine lv_topi (fun x146 ex146 => ?_)
      replace h := h x146 ex146
      refine lv_iload hx hb dX8_harvest_112 (lv_at hl 0 rfl) ?_
      refine lv_iload hx hb dX8_harvest_114 (lv_at hl 0 rfl) ?_
      refine lv_bipush (v := 10) hx hb dX8_harvest_116 (by decide) ?_
      refine lv_idiv hx hb dX8_harvest_118 (by decide) ?_
      refine lv_topi (fun x147 ex147 => ?_)
      replace h := h x147 ex147
      refine lv_isub hx hb dX8_harvest_119 ?_
      refine lv_topi (fun x148 ex148 => ?_)
      replace h := h x148 ex148
      refine lv_iadd hx hb dX8_harvest_120 ?_
      refine lv_topi (fun x149 ex149 => ?_)
      replace h := h x149 ex149
      obtain ⟨hi150, h⟩ := h
      refine x_iast C hR hK_a108 hS hi150 dX8_harvest_121 (fun H locs hR hS => ?_)
      obtain ⟨S151, eS151⟩ : ∃ z : sT, z = s_sB S144 a108 (Int32.toNatClampNeg (19 : Int32)) x149 := ⟨_, rfl⟩
      rw [← eS151] at hR
      replace h := h S151 eS151
      have hK_x0 : s_K S151 x0 = 10 := by rw [eS151]; exact hK_x0
      have hK_a115 : s_K S151 a115 = 9 := by rw [eS151]; exact hK_a115
      have hK_a116 : s_K S151 a116 = 11 := by rw [eS151]; exact hK_a116
      have hK_a122 : s_K S151 a122 = 9 := by rw [eS151]; exact hK_a122
      have hK_a108 : s_K S151 a108 = 11 := by rw [eS151]; exact hK_a108
      have hK_a123 : s_K S151 a123 = 13 := by rw [eS151]; exact hK_a123
      have hK_a127 : s_K S151 a127 = 11 := by rw [eS151]; exact hK_a127
      have hK_a133 : s_K S151 a133 = 9 := by rw [eS151]; exact hK_a133
      have hK_a134 : s_K S151 a134 = 13 := by rw [eS151]; exact hK_a134
      have hK_a138 : s_K S151 a138 = 11 := by rw [eS151]; exact hK_a138
      refine lv_aload_n hx hb dX8_harvest_122 rfl (lv_at hl 1 rfl) ?_
      refine lv_iconst (v := 4) hx hb dX8_harvest_123 (by decide) ?_
      refine lv_iconst (v := 0) hx hb dX8_harvest_124 (by decide) ?_
      obtain ⟨hi152, h⟩ := h
      refine x_iast C hR hK_a108 hS hi152 dX8_harvest_125 (fun H locs hR hS => ?_)
      obtain ⟨S153, eS153⟩ : ∃ z : sT, z = s_sB S151 a108 (Int32.toNatClampNeg (4 : Int32)) (0 : Int32) := ⟨_, rfl⟩
      rw [← eS153] at hR
      replace h := h S153 eS153
      have hK_x0 : s_K S153 x0 = 10 := by rw [eS153]; exact hK_x0
      have hK_a115 : s_K S153 a115 = 9 := by rw [eS153]; exact hK_a115
      have hK_a116 : s_K S153 a116 = 11 := by rw [eS153]; exact hK_a116
      have hK_a122 : s_K S153 a122 = 9 := by rw [eS153]; exact hK_a122
      have hK_a108 : s_K S153 a108 = 11 := by rw [eS153]; exact hK_a108
      have hK_a123 : s_K S153 a123 = 13 := by rw [eS153]; exact hK_a123
      have hK_a127 : s_K S153 a127 = 11 := by rw [eS153]; exact hK_a127
      have hK_a133 : s_K S153 a133 = 9 := by rw [eS153]; exact hK_a133
      have hK_a134 : s_K S153 a134 = 13 := by rw [eS153]; exact hK_a134
      have hK_a138 : s_K S153 a138 = 11 := by rw [eS153]; exact hK_a138
      refine lv_iload_n hx hb dX8_harvest_126 rfl (lv_at hl 4 rfl) ?_
      refine lv_if_eq (tgt := 141) hx hb dX8_harvest_127 (by decide) (fun hc154 => ?_) (fun hc154 => ?_)
      · replace h := h.1 hc154
        refine lv_aload_n hx hb dX8_harvest_141 rfl (lv_at hl 1 rfl) ?_
        refine lv_bipush (v := 9) hx hb dX8_harvest_142 (by decide) ?_
        refine lv_bipush (v := 50) hx hb dX8_harvest_144 (by decide) ?_
        refine lv_aload_n hx hb dX8_harvest_146 rfl (lv_at hl 1 rfl) ?_
        refine lv_bipush (v := 9) hx hb dX8_harvest_147 (by decide) ?_
        obtain ⟨hi155, h⟩ := h
        refine x_iald C hR hK_a108 hi155 dX8_harvest_149 ?_
        refine lv_topi (fun x156 ex156 => ?_)
        replace h := h x156 ex156
        refine lv_bipush (v := 10) hx hb dX8_harvest_150 (by decide) ?_
        refine lv_iadd hx hb dX8_harvest_152 ?_
        refine lv_topi (fun x157 ex157 => ?_)
        replace h := h x157 ex157
        refine va_mmin hx hb (by rw [hml]; exact hl.1.symm) C.2.2.2.1 (C.2.2.1 _ q_19_5) (C.2.2.1 _ q_7_15) (C.2.2.1 _ q_6_13) (C.2.2.1 _ q_7_16) (Nat.le_of_ble_eq_true rfl) (Nat.le_of_ble_eq_true rfl) (Nat.zero_le _) (Nat.zero_le _) dX8_harvest_153 ?_
        refine lv_topi (fun x158 ex158 => ?_)
        replace h := h x158 ex158
        obtain ⟨hi159, h⟩ := h
        refine x_iast C hR hK_a108 hS hi159 dX8_harvest_156 (fun H locs hR hS => ?_)
        obtain ⟨S160, eS160⟩ : ∃ z : sT, z = s_sB S153 a108 (Int32.toNatClampNeg (9 : Int32)) x158 := ⟨_, rfl⟩
        rw [← eS160] at hR
        replace h := h S160 eS160
        have hK_x0 : s_K S160 x0 = 10 := by rw [eS160]; exact hK_x0
        have hK_a115 : s_K S160 a115 = 9 := by rw [eS160]; exact hK_a115
        have hK_a116 : s_K S160 a116 = 11 := by rw [eS160]; exact hK_a116
        have hK_a122 : s_K S160 a122 = 9 := by rw [eS160]; exact hK_a122
        have hK_a108 : s_K S160 a108 = 11 := by rw [eS160]; exact hK_a108
        have hK_a123 : s_K S160 a123 = 13 := by rw [eS160]; exact hK_a123
        have hK_a127 : s_K S160 a127 = 11 := by rw [eS160]; exact hK_a127
        have hK_a133 : s_K S160 a133 = 9 := by rw [eS160]; exact hK_a133
        have hK_a134 : s_K S160 a134 = 13 := by rw [eS160]; exact hK_a134
        have hK_a138 : s_K S160 a138 = 11 := by rw [eS160]; exact hK_a138
        exact t_X8_harvest_b157 C hml hr hlocks  h H locs ls hR hS (lv_sub (l' := [(4, .int x114)]) hl [0] rfl)
      · replace h := h.2 hc154
        refine lv_aload_n hx hb dX8_harvest_130 rfl (lv_at hl 1 rfl) ?_
        refine lv_bipush (v := 8) hx hb dX8_harvest_131 (by decide) ?_
        refine lv_dup2_11 hx hb dX8_harvest_133 rfl rfl ?_
        obtain ⟨hi161, h⟩ := h
        refine x_iald C hR hK_a108 hi161 dX8_harvest_134 ?_
        refine lv_topi (fun x162 ex162 => ?_)
        replace h := h x162 ex162
        refine lv_iconst (v := 2) hx hb dX8_harvest_135 (by decide) ?_
        refine lv_idiv hx hb dX8_harvest_136 (by decide) ?_
        refine lv_topi (fun x163 ex163 => ?_)
        replace h := h x163 ex163
        obtain ⟨hi164, h⟩ := h
        refine x_iast C hR hK_a108 hS hi164 dX8_harvest_137 (fun H locs hR hS => ?_)
        obtain ⟨S165, eS165⟩ : ∃ z : sT, z = s_sB S153 a108 (Int32.toNatClampNeg (8 : Int32)) x163 := ⟨_, rfl⟩
        rw [← eS165] at hR
        replace h := h S165 eS165
        have hK_x0 : s_K S165 x0 = 10 := by rw [eS165]; exact hK_x0
        have hK_a115 : s_K S165 a115 = 9 := by rw [eS165]; exact hK_a115
        have hK_a116 : s_K S165 a116 = 11 := by rw [eS165]; exact hK_a116
        have hK_a122 : s_K S165 a122 = 9 := by rw [eS165]; exact hK_a122
        have hK_a108 : s_K S165 a108 = 11 := by rw [eS165]; exact hK_a108
        have hK_a123 : s_K S165 a123 = 13 := by rw [eS165]; exact hK_a123
        have hK_a127 : s_K S165 a127 = 11 := by rw [eS165]; exact hK_a127
        have hK_a133 : s_K S165 a133 = 9 := by rw [eS165]; exact hK_a133
        have hK_a134 : s_K S165 a134 = 13 := by rw [eS165]; exact hK_a134
        have hK_a138 : s_K S165 a138 = 11 := by rw [eS165]; exact hK_a138
        refine lv_goto (tgt := 157) hx hb dX8_harvest_138 (by decide) ?_
        exact t_X8_harvest_b157 C hml hr hlocks  h H locs ls hR hS (lv_sub (l' := [(4, .int x114)]) hl [0] rfl)
    · replace h := h.2 hc111
      refine lv_aload_n hx hb dX8_harvest_36 rfl (lv_at hl 1 rfl) ?_
      refine lv_iconst (v := 2) hx hb dX8_harvest_37 (by decide) ?_
      refine x_ki (x_runV (As := [.int (2 : Int32)]) (rest := []) C hml hR hS (m_X8_refuse l gg x0 (2 : Int32) S102 h) b_X8_refuse q_8_5 (by rw [hK_x0]; decide) (s_E_9 hK_x0) rfl rfl rfl rfl ⟨Nat.le_of_ble_eq_true rfl, Nat.le_of_ble_eq_true rfl⟩ rfl hl.1 (Nat.le_of_ble_eq_true rfl) dX8_harvest_38 ⟨Nat.le_refl _, Nat.le_refl _⟩) hS (fun x167 S166 H locs h hR hS => ?_)
      exact W.iret (v := x167) hx hb hr (fun t ht hW => ⟨⟨x167, S166, rfl, h, x_rt ht hR⟩, hS.F ht⟩) hS.2.2 dX8_harvest_41
  · replace h := h.2 hc104
    refine lv_aload_n hx hb dX8_harvest_13 rfl (lv_at hl 0 rfl) ?_
    refine lv_iconst (v := 1) hx hb dX8_harvest_14 (by decide) ?_
    obtain ⟨hK_x0, h⟩ := h
    refine x_ki (x_runV (As := [.int (1 : Int32)]) (rest := []) C hml hR hS (m_X8_refuse l gg x0 (1 : Int32) S102 h) b_X8_refuse q_8_5 (by rw [hK_x0]; decide) (s_E_9 hK_x0) rfl rfl rfl rfl ⟨Nat.le_of_ble_eq_true rfl, Nat.le_of_ble_eq_true rfl⟩ rfl hl.1 (Nat.le_of_ble_eq_true rfl) dX8_harvest_15 ⟨Nat.le_refl _, Nat.le_refl _⟩) hS (fun x169 S168 H locs h hR hS => ?_)
    exact W.iret (v := x169) hx hb hr (fun t ht hW => ⟨⟨x169, S168, rfl, h, x_rt ht hR⟩, hS.F ht⟩) hS.2.2 dX8_harvest_18
theorem m_X8_harvest (l : Launch) (gg : sG) (x0 : Nat) (x1 : Int32) (x2 : Int32) (S : sT) {Q : Int32 → sT → Prop} (h : w_X8_harvest x0 x1 x2 S Q) : x_Mi l gg yX8_harvest (x_ws yX8_harvest cX8_harvest 5 (some .int)) r_X8_harvest [.ref x0, .int x1, .int x2] S Q 0 0 := by
  refine x_ofW (cc := cX8_harvest) (own := RX8) (by decide +kernel) rfl (Nat.le_of_ble_eq_true rfl) ?_
  intro p e s m args below meth c C hml hr hlocks hin ht H locs ls hR hS hl
  exact t_X8_harvest_b0 C hml hr hlocks h H locs ls hR hS (lv_sub (l' := [(0, .ref x0), (1, .int x1), (2, .int x2)]) hl [0, 1, 2] rfl)
def w_X8_cut_b0 (x0 : Nat) (x1 : Int32) (S : sT)  (Q : Int32 → sT → Prop) : Prop :=
s_K S x0 = 10 ∧
    ∀ S101 : sT, S101 = s_sI S 288 x0 (0 : Int32) →
    w_X8_isField x0 x1 S101 (fun x103 S102 =>
    ((¬ x103 = 0 → s_K S102 x0 = 10 ∧
    ∃ a105 : Nat, s_R S102 289 x0 = some a105 ∧
    s_K S102 a105 = 9 ∧
    ∃ a106 : Nat, s_R S102 257 a105 = some a106 ∧
    s_K S102 a106 = 13 ∧
    vp_in x1 (s_N S102 a106) ∧
    ∃ a108 : Nat, s_P S102 a106 (Int32.toNatClampNeg x1) = some a108 ∧
    s_K S102 a108 = 11 ∧
    vp_in (4 : Int32) (s_N S102 a108) ∧
    ∀ x110 : Int32, x110 = s_B S102 a108 (Int32.toNatClampNeg (4 : Int32)) →
    ((x110 = (5 : Int32) → ∃ a112 : Nat, s_R S102 289 x0 = some a112 ∧
    s_K S102 a112 = 9 ∧
    ∃ a113 : Nat, s_R S102 258 a112 = some a113 ∧
    s_K S102 a113 = 11 ∧
    vp_in (0 : Int32) (s_N S102 a113) ∧
    ∀ x115 : Int32, x115 = s_B S102 a113 (Int32.toNatClampNeg (0 : Int32)) →
    ∀ x116 : Int32, x116 = (7 : Int32) * x115 →
    ∀ x117 : Int32, x117 = (13 : Int32) * x1 →
    ∀ x118 : Int32, x118 = x116 + x117 →
    ∃ a119 : Nat, s_R S102 289 x0 = some a119 ∧
    s_K S102 a119 = 9 ∧
    ∃ a120 : Nat, s_R S102 258 a119 = some a120 ∧
    s_K S102 a120 = 11 ∧
    vp_in (9 : Int32) (s_N S102 a120) ∧
    ∀ x122 : Int32, x122 = s_B S102 a120 (Int32.toNatClampNeg (9 : Int32)) →
    ∀ x123 : Int32, x123 = (5 : Int32) * x122 →
    ∀ x124 : Int32, x124 = x118 + x123 →
    ∀ x125 : Int32, x125 = x124 - x124 / (21 : Int32) * (21 : Int32) →
    ∃ a126 : Nat, s_R S102 289 x0 = some a126 ∧
    s_K S102 a126 = 9 ∧
    w_X7_yield a126 a108 S102 (fun x128 S127 =>
    ∀ x129 : Int32, x129 = (90 : Int32) + x125 →
    ∀ x130 : Int32, x130 = x128 * x129 →
    ∀ x131 : Int32, x131 = x130 / (100 : Int32) →
    s_K S127 x0 = 10 ∧
    ∃ a132 : Nat, s_R S127 289 x0 = some a132 ∧
    s_K S127 a132 = 9 ∧
    ∃ a133 : Nat, s_R S127 258 a132 = some a133 ∧
    s_K S127 a133 = 11 ∧
    vp_in (9 : Int32) (s_N S127 a133) ∧
    ∀ x135 : Int32, x135 = s_B S127 a133 (Int32.toNatClampNeg (9 : Int32)) →
    ∀ x136 : Int32, x136 = x135 + (1 : Int32) →
    vp_in (9 : Int32) (s_N S127 a133) ∧
    ∀ S138 : sT, S138 = s_sB S127 a133 (Int32.toNatClampNeg (9 : Int32)) x136 →
    s_K S138 a108 = 11 ∧
    vp_in (20 : Int32) (s_N S138 a108) ∧
    ∀ x140 : Int32, x140 = s_B S138 a108 (Int32.toNatClampNeg (20 : Int32)) →
    ∀ x141 : Int32, x141 = (100 : Int32) * x131 →
    ∀ x142 : Int32, x142 = x141 + (109 : Int32) →
    ∀ x143 : Int32, x143 = x142 / (110 : Int32) →
    ∀ x144 : Int32, x144 = s_max x140 x143 →
    vp_in (20 : Int32) (s_N S138 a108) ∧
    ∀ S146 : sT, S146 = s_sB S138 a108 (Int32.toNatClampNeg (20 : Int32)) x144 →
    vp_in (21 : Int32) (s_N S146 a108) ∧
    ∀ x148 : Int32, x148 = s_B S146 a108 (Int32.toNatClampNeg (21 : Int32)) →
    ∀ x149 : Int32, x149 = x131 + (1 : Int32) →
    ∀ x150 : Int32, x150 = (100 : Int32) * x149 →
    ∀ x151 : Int32, x151 = x150 - (1 : Int32) →
    ∀ x152 : Int32, x152 = x151 / (90 : Int32) →
    ∀ x153 : Int32, x153 = s_min x148 x152 →
    vp_in (21 : Int32) (s_N S146 a108) ∧
    ∀ S155 : sT, S155 = s_sB S146 a108 (Int32.toNatClampNeg (21 : Int32)) x153 →
    Q x131 S155)) ∧
    (¬ x110 = (5 : Int32) → w_X8_refuse x0 (2 : Int32) S102 (fun x157 S156 =>
    Q x157 S156)))) ∧
    (x103 = 0 → s_K S102 x0 = 10 ∧
    w_X8_refuse x0 (1 : Int32) S102 (fun x159 S158 =>
    Q x159 S158))))
def w_X8_cut (x0 : Nat) (x1 : Int32) (S : sT) (Q : Int32 → sT → Prop) : Prop := w_X8_cut_b0 x0 x1 S Q
def r_X8_cut : Room := x_rm 2 43 0 0
theorem b_X8_cut : x_BV yX8_cut cX8_cut 5 (some .int) 1 := ⟨q_20_8, q_20_6, q_20_7, q_1_5, by decide +kernel⟩
set_option maxHeartbeats 4000000 in
theorem t_X8_cut_b0 (C : x_C p s m args c cX8_cut RX8 gg) (hml : c.maxLocals = 5) (hr : meth.sig.returnType = (some .int)) (hlocks : meth.locks = false) {x0 : Nat} {x1 : Int32}  {S : sT}  {Q : Int32 → sT → Prop} (h : w_X8_cut_b0 x0 x1 S  Q) : x_X p l e r_X8_cut s m args below meth c gg 5 0 0 (MQ below (va_Qi Q (fun S1 t => s_Rep gg S1 t.heap) (s_A gg)) args s 0 0 (s_A gg)) 0 [(0, .ref x0), (1, .int x1)] [] S := by
  unfold w_X8_cut_b0 at h
  obtain ⟨hx, hb, -⟩ := id C
  intro H locs ls hR hS hl
  refine lv_aload_n hx hb dX8_cut_0 rfl (lv_at hl 0 rfl) ?_
  refine lv_iconst (v := 0) hx hb dX8_cut_1 (by decide) ?_
  obtain ⟨hK_x0, h⟩ := h
  refine x_p_288 (v := (0 : Int32)) C hR hK_x0 hS q_8_1 dX8_cut_2 (fun H locs hR hS => ?_)
  obtain ⟨S101, eS101⟩ : ∃ z : sT, z = s_sI S 288 x0 (0 : Int32) := ⟨_, rfl⟩
  rw [← eS101] at hR
  replace h := h S101 eS101
  have hK_x0 : s_K S101 x0 = 10 := by rw [eS101]; exact hK_x0
  refine lv_aload_n hx hb dX8_cut_5 rfl (lv_at hl 0 rfl) ?_
  refine lv_iload_n hx hb dX8_cut_6 rfl (lv_at hl 1 rfl) ?_
  refine x_ki (x_runV (As := [.int x1]) (rest := []) C hml hR hS (m_X8_isField l gg x0 x1 S101 h) b_X8_isField q_13_7 (by rw [hK_x0]; decide) (s_E_9 hK_x0) rfl rfl rfl rfl ⟨Nat.le_of_ble_eq_true rfl, Nat.le_of_ble_eq_true rfl⟩ rfl hl.1 (Nat.le_of_ble_eq_true rfl) dX8_cut_7 ⟨Nat.le_refl _, Nat.le_refl _⟩) hS (fun x103 S102 H locs h hR hS => ?_)
  refine lv_if_ne (tgt := 19) hx hb dX8_cut_10 (by decide) (fun hc104 => ?_) (fun hc104 => ?_)
  · replace h := h.1 hc104
    refine lv_aload_n hx hb dX8_cut_19 rfl (lv_at hl 0 rfl) ?_
    obtain ⟨hK_x0, h⟩ := h
    refine x_g_289 C hR hK_x0 q_3_8 dX8_cut_20 ?_
    obtain ⟨a105, ea105, h⟩ := h
    refine x_some ea105 ?_
    obtain ⟨hK_a105, h⟩ := h
    refine x_gN_257 C hR hK_a105 ⟨rfl, C.2.2.2.2.2.2.1 _ (List.mem_of_getElem? (i := 1) rfl)⟩ dX8_cut_23 ?_
    obtain ⟨a106, ea106, h⟩ := h
    refine x_some ea106 ?_
    refine lv_iload_n hx hb dX8_cut_26 rfl (lv_at hl 1 rfl) ?_
    obtain ⟨hK_a106, h⟩ := h
    obtain ⟨hi107, a108, ea108, h⟩ := h
    refine x_aald13 C hR hK_a106 hi107 dX8_cut_27 ?_
    refine x_some ea108 ?_
    refine lv_astore_n (lv' := [(2, .ref a108), (0, .ref x0), (1, .int x1)]) hx hb dX8_cut_28 rfl hl (by decide) rfl (fun ls hl => ?_)
    refine lv_aload_n hx hb dX8_cut_29 rfl (lv_at hl 0 rfl) ?_
    refine lv_iconst (v := 4) hx hb dX8_cut_30 (by decide) ?_
    obtain ⟨hK_a108, h⟩ := h
    obtain ⟨hi109, h⟩ := h
    refine x_iald C hR hK_a108 hi109 dX8_cut_31 ?_
    refine lv_topi (fun x110 ex110 => ?_)
    replace h := h x110 ex110
    refine lv_iconst (v := 5) hx hb dX8_cut_32 (by decide) ?_
    refine lv_icmp_eq (tgt := 42) hx hb dX8_cut_33 (by decide) (fun hc111 => ?_) (fun hc111 => ?_)
    · replace h := h.1 hc111
      refine lv_bipush (v := 7) hx hb dX8_cut_42 (by decide) ?_
      refine lv_aload_n hx hb dX8_cut_44 rfl (lv_at hl 1 rfl) ?_
      refine x_g_289 C hR hK_x0 q_3_8 dX8_cut_45 ?_
      obtain ⟨a112, ea112, h⟩ := h
      refine x_some ea112 ?_
      obtain ⟨hK_a112, h⟩ := h
      refine x_gN_258 C hR hK_a112 ⟨rfl, C.2.2.2.2.2.2.1 _ (List.mem_of_getElem? (i := 0) rfl)⟩ dX8_cut_48 ?_
      obtain ⟨a113, ea113, h⟩ := h
      refine x_some ea113 ?_
      refine lv_iconst (v := 0) hx hb dX8_cut_51 (by decide) ?_
      obtain ⟨hK_a113, h⟩ := h
      obtain ⟨hi114, h⟩ := h
      refine x_iald C hR hK_a113 hi114 dX8_cut_52 ?_
      refine lv_topi (fun x115 ex115 => ?_)
      replace h := h x115 ex115
      refine lv_imul hx hb dX8_cut_53 ?_
      refine lv_topi (fun x116 ex116 => ?_)
      replace h := h x116 ex116
      refine lv_bipush (v := 13) hx hb dX8_cut_54 (by decide) ?_
      refine lv_iload_n hx hb dX8_cut_56 rfl (lv_at hl 2 rfl) ?_
      refine lv_imul hx hb dX8_cut_57 ?_
      refine lv_topi (fun x117 ex117 => ?_)
      replace h := h x117 ex117
      refine lv_iadd hx hb dX8_cut_58 ?_
      refine lv_topi (fun x118 ex118 => ?_)
      replace h := h x118 ex118
      refine lv_iconst (v := 5) hx hb dX8_cut_59 (by decide) ?_
      refine lv_aload_n hx hb dX8_cut_60 rfl (lv_at hl 1 rfl) ?_
      refine x_g_289 C hR hK_x0 q_3_8 dX8_cut_61 ?_
      obtain ⟨a119, ea119, h⟩ := h
      refine x_some ea119 ?_
      obtain ⟨hK_a119, h⟩ := h
      refine x_gN_258 C hR hK_a119 ⟨rfl, C.2.2.2.2.2.2.1 _ (List.mem_of_getElem? (i := 0) rfl)⟩ dX8_cut_64 ?_
      obtain ⟨a120, ea120, h⟩ := h
      refine x_some ea120 ?_
      refine lv_bipush (v := 9) hx hb dX8_cut_67 (by decide) ?_
      obtain ⟨hK_a120, h⟩ := h
      obtain ⟨hi121, h⟩ := h
      refine x_iald C hR hK_a120 hi121 dX8_cut_69 ?_
      refine lv_topi (fun x122 ex122 => ?_)
      replace h := h x122 ex122
      refine lv_imul hx hb dX8_cut_70 ?_
      refine lv_topi (fun x123 ex123 => ?_)
      replace h := h x123 ex123
      refine lv_iadd hx hb dX8_cut_71 ?_
      refine lv_topi (fun x124 ex124 => ?_)
      replace h := h x124 ex124
      refine lv_bipush (v := 21) hx hb dX8_cut_72 (by decide) ?_
      refine lv_irem hx hb dX8_cut_74 (by decide) ?_
      refine lv_topi (fun x125 ex125 => ?_)
      replace h := h x125 ex125
      refine lv_istore_n (lv' := [(3, .int x125), (2, .ref a108), (0, .ref x0), (1, .int x1)]) hx hb dX8_cut_75 rfl hl (by decide) rfl (fun ls hl => ?_)
      refine lv_aload_n hx hb dX8_cut_76 rfl (lv_at hl 2 rfl) ?_
      refine x_g_289 C hR hK_x0 q_3_8 dX8_cut_77 ?_
      obtain ⟨a126, ea126, h⟩ := h
      refine x_some ea126 ?_
      refine lv_aload_n hx hb dX8_cut_80 rfl (lv_at hl 1 rfl) ?_
      obtain ⟨hK_a126, h⟩ := h
      refine x_ki (x_runV (As := [.ref a108]) (rest := []) C hml hR hS (m_X7_yield l gg a126 a108 S102 h) b_X7_yield q_19_6 (by rw [hK_a126]; decide) (s_E_8 hK_a126) rfl rfl rfl rfl ⟨Nat.le_of_ble_eq_true rfl, Nat.le_of_ble_eq_true rfl⟩ rfl hl.1 (Nat.le_of_ble_eq_true rfl) dX8_cut_81 ⟨Nat.le_refl _, Nat.le_refl _⟩) hS (fun x128 S127 H locs h hR hS => ?_)
      refine lv_bipush (v := 90) hx hb dX8_cut_84 (by decide) ?_
      refine lv_iload_n hx hb dX8_cut_86 rfl (lv_at hl 0 rfl) ?_
      refine lv_iadd hx hb dX8_cut_87 ?_
      refine lv_topi (fun x129 ex129 => ?_)
      replace h := h x129 ex129
      refine lv_imul hx hb dX8_cut_88 ?_
      refine lv_topi (fun x130 ex130 => ?_)
      replace h := h x130 ex130
      refine lv_bipush (v := 100) hx hb dX8_cut_89 (by decide) ?_
      refine lv_idiv hx hb dX8_cut_91 (by decide) ?_
      refine lv_topi (fun x131 ex131 => ?_)
      replace h := h x131 ex131
      refine lv_istore (lv' := [(4, .int x131), (3, .int x125), (2, .ref a108), (0, .ref x0), (1, .int x1)]) hx hb dX8_cut_92 hl (by decide) rfl (fun ls hl => ?_)
      refine lv_aload_n hx hb dX8_cut_94 rfl (lv_at hl 3 rfl) ?_
      obtain ⟨hK_x0, h⟩ := h
      refine x_g_289 C hR hK_x0 q_3_8 dX8_cut_95 ?_
      obtain ⟨a132, ea132, h⟩ := h
      refine x_some ea132 ?_
      obtain ⟨hK_a132, h⟩ := h
      refine x_gN_258 C hR hK_a132 ⟨rfl, C.2.2.2.2.2.2.1 _ (List.mem_of_getElem? (i := 0) rfl)⟩ dX8_cut_98 ?_
      obtain ⟨a133, ea133, h⟩ := h
      refine x_some ea133 ?_
      refine lv_bipush (v := 9) hx hb dX8_cut_101 (by decide) ?_
      refine lv_dup2_11 hx hb dX8_cut_103 rfl rfl ?_
      obtain ⟨hK_a133, h⟩ := h
      obtain ⟨hi134, h⟩ := h
      refine x_iald C hR hK_a133 hi134 dX8_cut_104 ?_
      refine lv_topi (fun x135 ex135 => ?_)
      replace h := h x135 ex135
      refine lv_iconst (v := 1) hx hb dX8_cut_105 (by decide) ?_
      refine lv_iadd hx hb dX8_cut_106 ?_
      refine lv_topi (fun x136 ex136 => ?_)
      replace h := h x136 ex136
      obtain ⟨hi137, h⟩ := h
      refine x_iast C hR hK_a133 hS hi137 dX8_cut_107 (fun H locs hR hS => ?_)
      obtain ⟨S138, eS138⟩ : ∃ z : sT, z = s_sB S127 a133 (Int32.toNatClampNeg (9 : Int32)) x136 := ⟨_, rfl⟩
      rw [← eS138] at hR
      replace h := h S138 eS138
      have hK_x0 : s_K S138 x0 = 10 := by rw [eS138]; exact hK_x0
      have hK_a132 : s_K S138 a132 = 9 := by rw [eS138]; exact hK_a132
      have hK_a133 : s_K S138 a133 = 11 := by rw [eS138]; exact hK_a133
      refine lv_aload_n hx hb dX8_cut_108 rfl (lv_at hl 2 rfl) ?_
      refine lv_bipush (v := 20) hx hb dX8_cut_109 (by decide) ?_
      refine lv_aload_n hx hb dX8_cut_111 rfl (lv_at hl 2 rfl) ?_
      refine lv_bipush (v := 20) hx hb dX8_cut_112 (by decide) ?_
      obtain ⟨hK_a108, h⟩ := h
      obtain ⟨hi139, h⟩ := h
      refine x_iald C hR hK_a108 hi139 dX8_cut_114 ?_
      refine lv_topi (fun x140 ex140 => ?_)
      replace h := h x140 ex140
      refine lv_bipush (v := 100) hx hb dX8_cut_115 (by decide) ?_
      refine lv_iload hx hb dX8_cut_117 (lv_at hl 0 rfl) ?_
      refine lv_imul hx hb dX8_cut_119 ?_
      refine lv_topi (fun x141 ex141 => ?_)
      replace h := h x141 ex141
      refine lv_bipush (v := 109) hx hb dX8_cut_120 (by decide) ?_
      refine lv_iadd hx hb dX8_cut_122 ?_
      refine lv_topi (fun x142 ex142 => ?_)
      replace h := h x142 ex142
      refine lv_bipush (v := 110) hx hb dX8_cut_123 (by decide) ?_
      refine lv_idiv hx hb dX8_cut_125 (by decide) ?_
      refine lv_topi (fun x143 ex143 => ?_)
      replace h := h x143 ex143
      refine va_mmax hx hb (by rw [hml]; exact hl.1.symm) C.2.2.2.1 (C.2.2.1 _ q_20_9) (C.2.2.1 _ q_6_12) (C.2.2.1 _ q_6_13) (C.2.2.1 _ q_6_14) (Nat.le_of_ble_eq_true rfl) (Nat.le_of_ble_eq_true rfl) (Nat.zero_le _) (Nat.zero_le _) dX8_cut_126 ?_
      refine lv_topi (fun x144 ex144 => ?_)
      replace h := h x144 ex144
      obtain ⟨hi145, h⟩ := h
      refine x_iast C hR hK_a108 hS hi145 dX8_cut_129 (fun H locs hR hS => ?_)
      obtain ⟨S146, eS146⟩ : ∃ z : sT, z = s_sB S138 a108 (Int32.toNatClampNeg (20 : Int32)) x144 := ⟨_, rfl⟩
      rw [← eS146] at hR
      replace h := h S146 eS146
      have hK_x0 : s_K S146 x0 = 10 := by rw [eS146]; exact hK_x0
      have hK_a132 : s_K S146 a132 = 9 := by rw [eS146]; exact hK_a132
      have hK_a133 : s_K S146 a133 = 11 := by rw [eS146]; exact hK_a133
      have hK_a108 : s_K S146 a108 = 11 := by rw [eS146]; exact hK_a108
      refine lv_aload_n hx hb dX8_cut_130 rfl (lv_at hl 2 rfl) ?_
      refine lv_bipush (v := 21) hx hb dX8_cut_131 (by decide) ?_
      refine lv_aload_n hx hb dX8_cut_133 rfl (lv_at hl 2 rfl) ?_
      refine lv_bipush (v := 21) hx hb dX8_cut_134 (by decide) ?_
      obtain ⟨hi147, h⟩ := h
      refine x_iald C hR hK_a108 hi147 dX8_cut_136 ?_
      refine lv_topi (fun x148 ex148 => ?_)
      replace h := h x148 ex148
      refine lv_bipush (v := 100) hx hb dX8_cut_137 (by decide) ?_
      refine lv_iload hx hb dX8_cut_139 (lv_at hl 0 rfl) ?_
      refine lv_iconst (v := 1) hx hb dX8_cut_141 (by decide) ?_
      refine lv_iadd hx hb dX8_cut_142 ?_
      refine lv_topi (fun x149 ex149 => ?_)
      replace h := h x149 ex149
      refine lv_imul hx hb dX8_cut_143 ?_
      refine lv_topi (fun x150 ex150 => ?_)
      replace h := h x150 ex150
      refine lv_iconst (v := 1) hx hb dX8_cut_144 (by decide) ?_
      refine lv_isub hx hb dX8_cut_145 ?_
      refine lv_topi (fun x151 ex151 => ?_)
      replace h := h x151 ex151
      refine lv_bipush (v := 90) hx hb dX8_cut_146 (by decide) ?_
      refine lv_idiv hx hb dX8_cut_148 (by decide) ?_
      refine lv_topi (fun x152 ex152 => ?_)
      replace h := h x152 ex152
      refine va_mmin hx hb (by rw [hml]; exact hl.1.symm) C.2.2.2.1 (C.2.2.1 _ q_19_5) (C.2.2.1 _ q_7_15) (C.2.2.1 _ q_6_13) (C.2.2.1 _ q_7_16) (Nat.le_of_ble_eq_true rfl) (Nat.le_of_ble_eq_true rfl) (Nat.zero_le _) (Nat.zero_le _) dX8_cut_149 ?_
      refine lv_topi (fun x153 ex153 => ?_)
      replace h := h x153 ex153
      obtain ⟨hi154, h⟩ := h
      refine x_iast C hR hK_a108 hS hi154 dX8_cut_152 (fun H locs hR hS => ?_)
      obtain ⟨S155, eS155⟩ : ∃ z : sT, z = s_sB S146 a108 (Int32.toNatClampNeg (21 : Int32)) x153 := ⟨_, rfl⟩
      rw [← eS155] at hR
      replace h := h S155 eS155
      have hK_x0 : s_K S155 x0 = 10 := by rw [eS155]; exact hK_x0
      have hK_a132 : s_K S155 a132 = 9 := by rw [eS155]; exact hK_a132
      have hK_a133 : s_K S155 a133 = 11 := by rw [eS155]; exact hK_a133
      have hK_a108 : s_K S155 a108 = 11 := by rw [eS155]; exact hK_a108
      refine lv_iload hx hb dX8_cut_153 (lv_at hl 0 rfl) ?_
      exact W.iret (v := x131) hx hb hr (fun t ht hW => ⟨⟨x131, S155, rfl, h, x_rt ht hR⟩, hS.F ht⟩) hS.2.2 dX8_cut_155
    · replace h := h.2 hc111
      refine lv_aload_n hx hb dX8_cut_36 rfl (lv_at hl 1 rfl) ?_
      refine lv_iconst (v := 2) hx hb dX8_cut_37 (by decide) ?_
      refine x_ki (x_runV (As := [.int (2 : Int32)]) (rest := []) C hml hR hS (m_X8_refuse l gg x0 (2 : Int32) S102 h) b_X8_refuse q_8_5 (by rw [hK_x0]; decide) (s_E_9 hK_x0) rfl rfl rfl rfl ⟨Nat.le_of_ble_eq_true rfl, Nat.le_of_ble_eq_true rfl⟩ rfl hl.1 (Nat.le_of_ble_eq_true rfl) dX8_cut_38 ⟨Nat.le_refl _, Nat.le_refl _⟩) hS (fun x157 S156 H locs h hR hS => ?_)
      exact W.iret (v := x157) hx hb hr (fun t ht hW => ⟨⟨x157, S156, rfl, h, x_rt ht hR⟩, hS.F ht⟩) hS.2.2 dX8_cut_41
  · replace h := h.2 hc104
    refine lv_aload_n hx hb dX8_cut_13 rfl (lv_at hl 0 rfl) ?_
    refine lv_iconst (v := 1) hx hb dX8_cut_14 (by decide) ?_
    obtain ⟨hK_x0, h⟩ := h
    refine x_ki (x_runV (As := [.int (1 : Int32)]) (rest := []) C hml hR hS (m_X8_refuse l gg x0 (1 : Int32) S102 h) b_X8_refuse q_8_5 (by rw [hK_x0]; decide) (s_E_9 hK_x0) rfl rfl rfl rfl ⟨Nat.le_of_ble_eq_true rfl, Nat.le_of_ble_eq_true rfl⟩ rfl hl.1 (Nat.le_of_ble_eq_true rfl) dX8_cut_15 ⟨Nat.le_refl _, Nat.le_refl _⟩) hS (fun x159 S158 H locs h hR hS => ?_)
    exact W.iret (v := x159) hx hb hr (fun t ht hW => ⟨⟨x159, S158, rfl, h, x_rt ht hR⟩, hS.F ht⟩) hS.2.2 dX8_cut_18
theorem m_X8_cut (l : Launch) (gg : sG) (x0 : Nat) (x1 : Int32) (S : sT) {Q : Int32 → sT → Prop} (h : w_X8_cut x0 x1 S Q) : x_Mi l gg yX8_cut (x_ws yX8_cut cX8_cut 5 (some .int)) r_X8_cut [.ref x0, .int x1] S Q 0 0 := by
  refine x_ofW (cc := cX8_cut) (own := RX8) (by decide +kernel) rfl (Nat.le_of_ble_eq_true rfl) ?_
  intro p e s m args below meth c C hml hr hlocks hin ht H locs ls hR hS hl
  exact t_X8_cut_b0 C hml hr hlocks h H locs ls hR hS (lv_sub (l' := [(0, .ref x0), (1, .int x1)]) hl [0, 1] rfl)
def w_X8_day_b36 (x0 : Nat) (S : sT)  (Q : Int32 → sT → Prop) : Prop :=
s_K S x0 = 10 ∧
    w_X8_refuse x0 (1 : Int32) S (fun x102 S101 =>
    Q x102 S101)
def w_X8_day_b0 (x0 : Nat) (x1 : Int32) (x2 : Int32) (x3 : Int32) (S : sT)  (Q : Int32 → sT → Prop) : Prop :=
s_K S x0 = 10 ∧
    ∀ S101 : sT, S101 = s_sI S 288 x0 (0 : Int32) →
    w_X8_is x1 (0 : Int32) (200 : Int32) S101 (fun x103 S102 =>
    ((x103 = 0 → w_X8_day_b36 x0 S102  Q) ∧
    (¬ x103 = 0 → w_X8_is x2 (0 : Int32) (40 : Int32) S102 (fun x106 S105 =>
    ((x106 = 0 → w_X8_day_b36 x0 S105  Q) ∧
    (¬ x106 = 0 → w_X8_is x3 (0 : Int32) (30 : Int32) S105 (fun x109 S108 =>
    ((¬ x109 = 0 → s_K S108 x0 = 10 ∧
    ∃ a111 : Nat, s_R S108 289 x0 = some a111 ∧
    s_K S108 a111 = 9 ∧
    ∃ a112 : Nat, s_R S108 258 a111 = some a112 ∧
    s_K S108 a112 = 11 ∧
    vp_in (1 : Int32) (s_N S108 a112) ∧
    ∀ S114 : sT, S114 = s_sB S108 a112 (Int32.toNatClampNeg (1 : Int32)) x1 →
    ∃ a115 : Nat, s_R S114 289 x0 = some a115 ∧
    s_K S114 a115 = 9 ∧
    ∃ a116 : Nat, s_R S114 258 a115 = some a116 ∧
    s_K S114 a116 = 11 ∧
    vp_in (2 : Int32) (s_N S114 a116) ∧
    ∀ S118 : sT, S118 = s_sB S114 a116 (Int32.toNatClampNeg (2 : Int32)) x2 →
    ∃ a119 : Nat, s_R S118 289 x0 = some a119 ∧
    s_K S118 a119 = 9 ∧
    ∃ a120 : Nat, s_R S118 258 a119 = some a120 ∧
    s_K S118 a120 = 11 ∧
    vp_in (3 : Int32) (s_N S118 a120) ∧
    ∀ S122 : sT, S122 = s_sB S118 a120 (Int32.toNatClampNeg (3 : Int32)) x3 →
    ∃ a123 : Nat, s_R S122 289 x0 = some a123 ∧
    s_K S122 a123 = 9 ∧
    w_X7_pass a123 S122 (fun S124 =>
    s_K S124 x0 = 10 ∧
    ∃ a125 : Nat, s_R S124 289 x0 = some a125 ∧
    s_K S124 a125 = 9 ∧
    ∃ a126 : Nat, s_R S124 258 a125 = some a126 ∧
    s_K S124 a126 = 11 ∧
    vp_in (0 : Int32) (s_N S124 a126) ∧
    ∀ x128 : Int32, x128 = s_B S124 a126 (Int32.toNatClampNeg (0 : Int32)) →
    Q x128 S124)) ∧
    (x109 = 0 → w_X8_day_b36 x0 S108  Q)))))))))
def w_X8_day (x0 : Nat) (x1 : Int32) (x2 : Int32) (x3 : Int32) (S : sT) (Q : Int32 → sT → Prop) : Prop := w_X8_day_b0 x0 x1 x2 x3 S Q
def r_X8_day : Room := x_rm 4 119 0 0
theorem b_X8_day : x_BV yX8_day cX8_day 4 (some .int) 3 := ⟨q_26_4, q_26_2, q_26_3, q_1_5, by decide +kernel⟩
set_option maxHeartbeats 4000000 in
theorem t_X8_day_b36 (C : x_C p s m args c cX8_day RX8 gg) (hml : c.maxLocals = 4) (hr : meth.sig.returnType = (some .int)) (hlocks : meth.locks = false) {x0 : Nat}  {S : sT}  {Q : Int32 → sT → Prop} (h : w_X8_day_b36 x0 S  Q) : x_X p l e r_X8_day s m args below meth c gg 4 0 0 (MQ below (va_Qi Q (fun S1 t => s_Rep gg S1 t.heap) (s_A gg)) args s 0 0 (s_A gg)) 36 [(0, .ref x0)] [] S := by
  unfold w_X8_day_b36 at h
  obtain ⟨hx, hb, -⟩ := id C
  intro H locs ls hR hS hl
  refine lv_aload_n hx hb dX8_day_36 rfl (lv_at hl 0 rfl) ?_
  refine lv_iconst (v := 1) hx hb dX8_day_37 (by decide) ?_
  obtain ⟨hK_x0, h⟩ := h
  refine x_ki (x_runV (As := [.int (1 : Int32)]) (rest := []) C hml hR hS (m_X8_refuse l gg x0 (1 : Int32) S h) b_X8_refuse q_8_5 (by rw [hK_x0]; decide) (s_E_9 hK_x0) rfl rfl rfl rfl ⟨Nat.le_of_ble_eq_true rfl, Nat.le_of_ble_eq_true rfl⟩ rfl hl.1 (Nat.le_of_ble_eq_true rfl) dX8_day_38 ⟨Nat.le_refl _, Nat.le_refl _⟩) hS (fun x102 S101 H locs h hR hS => ?_)
  exact W.iret (v := x102) hx hb hr (fun t ht hW => ⟨⟨x102, S101, rfl, h, x_rt ht hR⟩, hS.F ht⟩) hS.2.2 dX8_day_41
set_option maxHeartbeats 4000000 in
theorem t_X8_day_b0 (C : x_C p s m args c cX8_day RX8 gg) (hml : c.maxLocals = 4) (hr : meth.sig.returnType = (some .int)) (hlocks : meth.locks = false) {x0 : Nat} {x1 : Int32} {x2 : Int32} {x3 : Int32}  {S : sT}  {Q : Int32 → sT → Prop} (h : w_X8_day_b0 x0 x1 x2 x3 S  Q) : x_X p l e r_X8_day s m args below meth c gg 4 0 0 (MQ below (va_Qi Q (fun S1 t => s_Rep gg S1 t.heap) (s_A gg)) args s 0 0 (s_A gg)) 0 [(0, .ref x0), (1, .int x1), (2, .int x2), (3, .int x3)] [] S := by
  unfold w_X8_day_b0 at h
  obtain ⟨hx, hb, -⟩ := id C
  intro H locs ls hR hS hl
  refine lv_aload_n hx hb dX8_day_0 rfl (lv_at hl 0 rfl) ?_
  refine lv_iconst (v := 0) hx hb dX8_day_1 (by decide) ?_
  obtain ⟨hK_x0, h⟩ := h
  refine x_p_288 (v := (0 : Int32)) C hR hK_x0 hS q_8_1 dX8_day_2 (fun H locs hR hS => ?_)
  obtain ⟨S101, eS101⟩ : ∃ z : sT, z = s_sI S 288 x0 (0 : Int32) := ⟨_, rfl⟩
  rw [← eS101] at hR
  replace h := h S101 eS101
  have hK_x0 : s_K S101 x0 = 10 := by rw [eS101]; exact hK_x0
  refine lv_iload_n hx hb dX8_day_5 rfl (lv_at hl 1 rfl) ?_
  refine lv_iconst (v := 0) hx hb dX8_day_6 (by decide) ?_
  refine lv_sipush (v := 200) hx hb dX8_day_7 (by decide) ?_
  refine x_ki (x_runS (As := [.int x1, .int (0 : Int32), .int (200 : Int32)]) (rest := []) C hml hR hS (m_X8_is l gg x1 (0 : Int32) (200 : Int32) S101 h) b_X8_is q_8_2 rfl rfl ⟨Nat.le_of_ble_eq_true rfl, Nat.le_of_ble_eq_true rfl⟩ rfl hl.1 (Nat.le_of_ble_eq_true rfl) dX8_day_10 ⟨Nat.le_refl _, Nat.le_refl _⟩) hS (fun x103 S102 H locs h hR hS => ?_)
  refine lv_if_eq (tgt := 36) hx hb dX8_day_13 (by decide) (fun hc104 => ?_) (fun hc104 => ?_)
  · replace h := h.1 hc104
    exact t_X8_day_b36 C hml hr hlocks  h H locs ls hR hS (lv_sub (l' := [(0, .ref x0)]) hl [0] rfl)
  · replace h := h.2 hc104
    refine lv_iload_n hx hb dX8_day_16 rfl (lv_at hl 2 rfl) ?_
    refine lv_iconst (v := 0) hx hb dX8_day_17 (by decide) ?_
    refine lv_bipush (v := 40) hx hb dX8_day_18 (by decide) ?_
    refine x_ki (x_runS (As := [.int x2, .int (0 : Int32), .int (40 : Int32)]) (rest := []) C hml hR hS (m_X8_is l gg x2 (0 : Int32) (40 : Int32) S102 h) b_X8_is q_8_2 rfl rfl ⟨Nat.le_of_ble_eq_true rfl, Nat.le_of_ble_eq_true rfl⟩ rfl hl.1 (Nat.le_of_ble_eq_true rfl) dX8_day_20 ⟨Nat.le_refl _, Nat.le_refl _⟩) hS (fun x106 S105 H locs h hR hS => ?_)
    refine lv_if_eq (tgt := 36) hx hb dX8_day_23 (by decide) (fun hc107 => ?_) (fun hc107 => ?_)
    · replace h := h.1 hc107
      exact t_X8_day_b36 C hml hr hlocks  h H locs ls hR hS (lv_sub (l' := [(0, .ref x0)]) hl [0] rfl)
    · replace h := h.2 hc107
      refine lv_iload_n hx hb dX8_day_26 rfl (lv_at hl 3 rfl) ?_
      refine lv_iconst (v := 0) hx hb dX8_day_27 (by decide) ?_
      refine lv_bipush (v := 30) hx hb dX8_day_28 (by decide) ?_
      refine x_ki (x_runS (As := [.int x3, .int (0 : Int32), .int (30 : Int32)]) (rest := []) C hml hR hS (m_X8_is l gg x3 (0 : Int32) (30 : Int32) S105 h) b_X8_is q_8_2 rfl rfl ⟨Nat.le_of_ble_eq_true rfl, Nat.le_of_ble_eq_true rfl⟩ rfl hl.1 (Nat.le_of_ble_eq_true rfl) dX8_day_30 ⟨Nat.le_refl _, Nat.le_refl _⟩) hS (fun x109 S108 H locs h hR hS => ?_)
      refine lv_if_ne (tgt := 42) hx hb dX8_day_33 (by decide) (fun hc110 => ?_) (fun hc110 => ?_)
      · replace h := h.1 hc110
        refine lv_aload_n hx hb dX8_day_42 rfl (lv_at hl 0 rfl) ?_
        obtain ⟨hK_x0, h⟩ := h
        refine x_g_289 C hR hK_x0 q_3_8 dX8_day_43 ?_
        obtain ⟨a111, ea111, h⟩ := h
        refine x_some ea111 ?_
        obtain ⟨hK_a111, h⟩ := h
        refine x_gN_258 C hR hK_a111 ⟨rfl, C.2.2.2.2.2.2.1 _ (List.mem_of_getElem? (i := 0) rfl)⟩ dX8_day_46 ?_
        obtain ⟨a112, ea112, h⟩ := h
        refine x_some ea112 ?_
        refine lv_iconst (v := 1) hx hb dX8_day_49 (by decide) ?_
        refine lv_iload_n hx hb dX8_day_50 rfl (lv_at hl 1 rfl) ?_
        obtain ⟨hK_a112, h⟩ := h
        obtain ⟨hi113, h⟩ := h
        refine x_iast C hR hK_a112 hS hi113 dX8_day_51 (fun H locs hR hS => ?_)
        obtain ⟨S114, eS114⟩ : ∃ z : sT, z = s_sB S108 a112 (Int32.toNatClampNeg (1 : Int32)) x1 := ⟨_, rfl⟩
        rw [← eS114] at hR
        replace h := h S114 eS114
        have hK_x0 : s_K S114 x0 = 10 := by rw [eS114]; exact hK_x0
        have hK_a111 : s_K S114 a111 = 9 := by rw [eS114]; exact hK_a111
        have hK_a112 : s_K S114 a112 = 11 := by rw [eS114]; exact hK_a112
        refine lv_aload_n hx hb dX8_day_52 rfl (lv_at hl 0 rfl) ?_
        refine x_g_289 C hR hK_x0 q_3_8 dX8_day_53 ?_
        obtain ⟨a115, ea115, h⟩ := h
        refine x_some ea115 ?_
        obtain ⟨hK_a115, h⟩ := h
        refine x_gN_258 C hR hK_a115 ⟨rfl, C.2.2.2.2.2.2.1 _ (List.mem_of_getElem? (i := 0) rfl)⟩ dX8_day_56 ?_
        obtain ⟨a116, ea116, h⟩ := h
        refine x_some ea116 ?_
        refine lv_iconst (v := 2) hx hb dX8_day_59 (by decide) ?_
        refine lv_iload_n hx hb dX8_day_60 rfl (lv_at hl 2 rfl) ?_
        obtain ⟨hK_a116, h⟩ := h
        obtain ⟨hi117, h⟩ := h
        refine x_iast C hR hK_a116 hS hi117 dX8_day_61 (fun H locs hR hS => ?_)
        obtain ⟨S118, eS118⟩ : ∃ z : sT, z = s_sB S114 a116 (Int32.toNatClampNeg (2 : Int32)) x2 := ⟨_, rfl⟩
        rw [← eS118] at hR
        replace h := h S118 eS118
        have hK_x0 : s_K S118 x0 = 10 := by rw [eS118]; exact hK_x0
        have hK_a111 : s_K S118 a111 = 9 := by rw [eS118]; exact hK_a111
        have hK_a112 : s_K S118 a112 = 11 := by rw [eS118]; exact hK_a112
        have hK_a115 : s_K S118 a115 = 9 := by rw [eS118]; exact hK_a115
        have hK_a116 : s_K S118 a116 = 11 := by rw [eS118]; exact hK_a116
        refine lv_aload_n hx hb dX8_day_62 rfl (lv_at hl 0 rfl) ?_
        refine x_g_289 C hR hK_x0 q_3_8 dX8_day_63 ?_
        obtain ⟨a119, ea119, h⟩ := h
        refine x_some ea119 ?_
        obtain ⟨hK_a119, h⟩ := h
        refine x_gN_258 C hR hK_a119 ⟨rfl, C.2.2.2.2.2.2.1 _ (List.mem_of_getElem? (i := 0) rfl)⟩ dX8_day_66 ?_
        obtain ⟨a120, ea120, h⟩ := h
        refine x_some ea120 ?_
        refine lv_iconst (v := 3) hx hb dX8_day_69 (by decide) ?_
        refine lv_iload_n hx hb dX8_day_70 rfl (lv_at hl 3 rfl) ?_
        obtain ⟨hK_a120, h⟩ := h
        obtain ⟨hi121, h⟩ := h
        refine x_iast C hR hK_a120 hS hi121 dX8_day_71 (fun H locs hR hS => ?_)
        obtain ⟨S122, eS122⟩ : ∃ z : sT, z = s_sB S118 a120 (Int32.toNatClampNeg (3 : Int32)) x3 := ⟨_, rfl⟩
        rw [← eS122] at hR
        replace h := h S122 eS122
        have hK_x0 : s_K S122 x0 = 10 := by rw [eS122]; exact hK_x0
        have hK_a111 : s_K S122 a111 = 9 := by rw [eS122]; exact hK_a111
        have hK_a112 : s_K S122 a112 = 11 := by rw [eS122]; exact hK_a112
        have hK_a115 : s_K S122 a115 = 9 := by rw [eS122]; exact hK_a115
        have hK_a116 : s_K S122 a116 = 11 := by rw [eS122]; exact hK_a116
        have hK_a119 : s_K S122 a119 = 9 := by rw [eS122]; exact hK_a119
        have hK_a120 : s_K S122 a120 = 11 := by rw [eS122]; exact hK_a120
        refine lv_aload_n hx hb dX8_day_72 rfl (lv_at hl 0 rfl) ?_
        refine x_g_289 C hR hK_x0 q_3_8 dX8_day_73 ?_
        obtain ⟨a123, ea123, h⟩ := h
        refine x_some ea123 ?_
        obtain ⟨hK_a123, h⟩ := h
        refine x_kv (x_runV (As := []) (rest := []) C hml hR hS (m_X7_pass l gg a123 S122 h) b_X7_pass q_26_5 (by rw [hK_a123]; decide) (s_E_8 hK_a123) rfl rfl rfl rfl ⟨Nat.le_of_ble_eq_true rfl, Nat.le_of_ble_eq_true rfl⟩ rfl hl.1 (Nat.le_of_ble_eq_true rfl) dX8_day_76 ⟨Nat.le_refl _, Nat.le_refl _⟩) hS (fun S124 H locs h hR hS => ?_)
        refine lv_aload_n hx hb dX8_day_79 rfl (lv_at hl 0 rfl) ?_
        obtain ⟨hK_x0, h⟩ := h
        refine x_g_289 C hR hK_x0 q_3_8 dX8_day_80 ?_
        obtain ⟨a125, ea125, h⟩ := h
        refine x_some ea125 ?_
        obtain ⟨hK_a125, h⟩ := h
        refine x_gN_258 C hR hK_a125 ⟨rfl, C.2.2.2.2.2.2.1 _ (List.mem_of_getElem? (i := 0) rfl)⟩ dX8_day_83 ?_
        obtain ⟨a126, ea126, h⟩ := h
        refine x_some ea126 ?_
        refine lv_iconst (v := 0) hx hb dX8_day_86 (by decide) ?_
        obtain ⟨hK_a126, h⟩ := h
        obtain ⟨hi127, h⟩ := h
        refine x_iald C hR hK_a126 hi127 dX8_day_87 ?_
        refine lv_topi (fun x128 ex128 => ?_)
        replace h := h x128 ex128
        exact W.iret (v := x128) hx hb hr (fun t ht hW => ⟨⟨x128, S124, rfl, h, x_rt ht hR⟩, hS.F ht⟩) hS.2.2 dX8_day_88
      · replace h := h.2 hc110
        exact t_X8_day_b36 C hml hr hlocks  h H locs ls hR hS (lv_sub (l' := [(0, .ref x0)]) hl [0] rfl)
theorem m_X8_day (l : Launch) (gg : sG) (x0 : Nat) (x1 : Int32) (x2 : Int32) (x3 : Int32) (S : sT) {Q : Int32 → sT → Prop} (h : w_X8_day x0 x1 x2 x3 S Q) : x_Mi l gg yX8_day (x_ws yX8_day cX8_day 4 (some .int)) r_X8_day [.ref x0, .int x1, .int x2, .int x3] S Q 0 0 := by
  refine x_ofW (cc := cX8_day) (own := RX8) (by decide +kernel) rfl (Nat.le_of_ble_eq_true rfl) ?_
  intro p e s m args below meth c C hml hr hlocks hin ht H locs ls hR hS hl
  exact t_X8_day_b0 C hml hr hlocks h H locs ls hR hS (lv_sub (l' := [(0, .ref x0), (1, .int x1), (2, .int x2), (3, .int x3)]) hl [0, 1, 2, 3] rfl)
def w_X8_inspect_b91 (x0 : Nat) (x1 : Int32) (x2 : Int32) (x3 : Nat) (x4 : Int32) (x5 : Int32) (S : sT) (kk36 : Nat → Int32 → Int32 → Nat → Int32 → Int32 → sT → Prop) (Q : Int32 → sT → Prop) : Prop :=
∀ x101 : Int32, x101 = x5 + 1 →
    kk36 x0 x1 x2 x3 x4 x101 S
def w_X8_inspect_b36  (Q : Int32 → sT → Prop) : Nat → Nat → Int32 → Int32 → Nat → Int32 → Int32 → sT → Prop
  | 0 => fun _ _ _ _ _ _ _ => False
  | n + 1 => fun x0 x1 x2 x3 x4 x5 S =>
((x4 ≤ x5 → s_K S x0 = 10 ∧
    ∃ a102 : Nat, s_R S 289 x0 = some a102 ∧
    s_K S a102 = 9 ∧
    ∃ a103 : Nat, s_R S 256 a102 = some a103 ∧
    s_K S a103 = 13 ∧
    vp_in x1 (s_N S a103) ∧
    ∃ a105 : Nat, s_P S a103 (Int32.toNatClampNeg x1) = some a105 ∧
    s_K S a105 = 11 ∧
    vp_in (4 : Int32) (s_N S a105) ∧
    ∀ x107 : Int32, x107 = s_B S a105 (Int32.toNatClampNeg (4 : Int32)) →
    ∀ x108 : Int32, x108 = x107 + x2 →
    vp_in (4 : Int32) (s_N S a105) ∧
    ∀ S110 : sT, S110 = s_sB S a105 (Int32.toNatClampNeg (4 : Int32)) x108 →
    Q x2 S110) ∧
    (¬ x4 ≤ x5 → s_K S x3 = 13 ∧
    vp_in x5 (s_N S x3) ∧
    ∃ a112 : Nat, s_P S x3 (Int32.toNatClampNeg x5) = some a112 ∧
    s_K S a112 = 11 ∧
    vp_in (0 : Int32) (s_N S a112) ∧
    ∀ x114 : Int32, x114 = s_B S a112 (Int32.toNatClampNeg (0 : Int32)) →
    ((x114 = x1 → vp_in (17 : Int32) (s_N S a112) ∧
    ∀ x117 : Int32, x117 = s_B S a112 (Int32.toNatClampNeg (17 : Int32)) →
    vp_in (15 : Int32) (s_N S a112) ∧
    ∀ x119 : Int32, x119 = s_B S a112 (Int32.toNatClampNeg (15 : Int32)) →
    ∀ x120 : Int32, x120 = (5 : Int32) * x119 →
    ∀ x121 : Int32, x121 = x117 - x120 →
    vp_in (17 : Int32) (s_N S a112) ∧
    ∀ S123 : sT, S123 = s_sB S a112 (Int32.toNatClampNeg (17 : Int32)) x121 →
    vp_in (15 : Int32) (s_N S123 a112) ∧
    ∀ x125 : Int32, x125 = s_B S123 a112 (Int32.toNatClampNeg (15 : Int32)) →
    ∀ x126 : Int32, x126 = (5 : Int32) * x125 →
    ∀ x127 : Int32, x127 = x2 + x126 →
    vp_in (15 : Int32) (s_N S123 a112) ∧
    ∀ S129 : sT, S129 = s_sB S123 a112 (Int32.toNatClampNeg (15 : Int32)) (0 : Int32) →
    w_X8_inspect_b91 x0 x1 x127 x3 x4 x5 S129 (fun x0 x1 x2 x3 x4 x5 S => w_X8_inspect_b36  Q n x0 x1 x2 x3 x4 x5 S) Q) ∧
    (¬ x114 = x1 → w_X8_inspect_b91 x0 x1 x2 x3 x4 x5 S (fun x0 x1 x2 x3 x4 x5 S => w_X8_inspect_b36  Q n x0 x1 x2 x3 x4 x5 S) Q))))
def w_X8_inspect_b0 (x0 : Nat) (x1 : Int32) (S : sT)  (Q : Int32 → sT → Prop) : Prop :=
s_K S x0 = 10 ∧
    ∀ S101 : sT, S101 = s_sI S 288 x0 (0 : Int32) →
    w_X8_isSociety x0 x1 S101 (fun x103 S102 =>
    ((¬ x103 = 0 → s_K S102 x0 = 10 ∧
    ∃ a105 : Nat, s_R S102 289 x0 = some a105 ∧
    s_K S102 a105 = 9 ∧
    ∃ a106 : Nat, s_R S102 257 a105 = some a106 ∧
    s_K S102 a106 = 13 ∧
    ∀ x107 : Int32, x107 = nI (s_N S102 a106) →
    ∃ n : Nat, w_X8_inspect_b36  Q n x0 x1 (0 : Int32) a106 x107 (0 : Int32) S102) ∧
    (x103 = 0 → s_K S102 x0 = 10 ∧
    w_X8_refuse x0 (1 : Int32) S102 (fun x109 S108 =>
    Q x109 S108))))
def w_X8_inspect (x0 : Nat) (x1 : Int32) (S : sT) (Q : Int32 → sT → Prop) : Prop := w_X8_inspect_b0 x0 x1 S Q
def r_X8_inspect : Room := x_rm 2 43 0 0
theorem b_X8_inspect : x_BV yX8_inspect cX8_inspect 7 (some .int) 1 := ⟨q_28_17, q_28_15, q_28_16, q_1_5, by decide +kernel⟩
set_option maxHeartbeats 4000000 in
theorem t_X8_inspect_b91 (C : x_C p s m args c cX8_inspect RX8 gg) (hml : c.maxLocals = 7) (hr : meth.sig.returnType = (some .int)) (hlocks : meth.locks = false) {x0 : Nat} {x1 : Int32} {x2 : Int32} {x3 : Nat} {x4 : Int32} {x5 : Int32} {kk36 : Nat → Int32 → Int32 → Nat → Int32 → Int32 → sT → Prop} {S : sT} (hk36 : ∀ (x0 : Nat) (x1 : Int32) (x2 : Int32) (x3 : Nat) (x4 : Int32) (x5 : Int32) (S : sT), kk36 x0 x1 x2 x3 x4 x5 S → x_X p l e r_X8_inspect s m args below meth c gg 7 0 0 (MQ below (va_Qi Q (fun S1 t => s_Rep gg S1 t.heap) (s_A gg)) args s 0 0 (s_A gg)) 36 [(0, .ref x0), (1, .int x1), (2, .int x2), (3, .ref x3), (4, .int x4), (5, .int x5)] [] S) {Q : Int32 → sT → Prop} (h : w_X8_inspect_b91 x0 x1 x2 x3 x4 x5 S kk36 Q) : x_X p l e r_X8_inspect s m args below meth c gg 7 0 0 (MQ below (va_Qi Q (fun S1 t => s_Rep gg S1 t.heap) (s_A gg)) args s 0 0 (s_A gg)) 91 [(0, .ref x0), (1, .int x1), (2, .int x2), (3, .ref x3), (4, .int x4), (5, .int x5)] [] S := by
  unfold w_X8_inspect_b91 at h
  obtain ⟨hx, hb, -⟩ := id C
  intro H locs ls hR hS hl
  obtain ⟨x101, ex101⟩ : ∃ z : Int32, z = x5 + 1 := ⟨_, rfl⟩
  replace h := h x101 ex101
  refine lv_iinc (v := x101) (lv' := [(5, .int x101), (0, .ref x0), (1, .int x1), (2, .int x2), (3, .ref x3), (4, .int x4)]) hx hb dX8_inspect_91 hl (k := 5) rfl (by rw [ex101]; rfl) (by decide) rfl (fun ls hl => ?_)
  refine lv_goto (tgt := 36) hx hb dX8_inspect_94 (by decide) ?_
  exact hk36 x0 x1 x2 x3 x4 x101 S h H locs ls hR hS (lv_sub (l' := [(0, .ref x0), (1, .int x1), (2, .int x2), (3, .ref x3), (4, .int x4), (5, .int x101)]) hl [1, 2, 3, 4, 5, 0] rfl)
set_option maxHeartbeats 4000000 in
theorem t_X8_inspect_b36 (C : x_C p s m args c cX8_inspect RX8 gg) (hml : c.maxLocals = 7) (hr : meth.sig.returnType = (some .int)) (hlocks : meth.locks = false)   {Q : Int32 → sT → Prop} : ∀ (n : Nat) (x0 : Nat) (x1 : Int32) (x2 : Int32) (x3 : Nat) (x4 : Int32) (x5 : Int32) (S : sT), w_X8_inspect_b36  Q n x0 x1 x2 x3 x4 x5 S → x_X p l e r_X8_inspect s m args below meth c gg 7 0 0 (MQ below (va_Qi Q (fun S1 t => s_Rep gg S1 t.heap) (s_A gg)) args s 0 0 (s_A gg)) 36 [(0, .ref x0), (1, .int x1), (2, .int x2), (3, .ref x3), (4, .int x4), (5, .int x5)] [] S := by
  obtain ⟨hx, hb, -⟩ := id C
  intro n
  induction n with
  | zero => intro x0 x1 x2 x3 x4 x5 S h; exact absurd h id
  | succ n ih =>
    intro x0 x1 x2 x3 x4 x5 S h H locs ls hR hS hl
    unfold w_X8_inspect_b36 at h
    refine lv_iload hx hb dX8_inspect_36 (lv_at hl 5 rfl) ?_
    refine lv_iload hx hb dX8_inspect_38 (lv_at hl 4 rfl) ?_
    refine lv_icmp_ge (tgt := 97) hx hb dX8_inspect_40 (by decide) (fun hc101 => ?_) (fun hc101 => ?_)
    · replace h := h.1 hc101
      refine lv_aload_n hx hb dX8_inspect_97 rfl (lv_at hl 0 rfl) ?_
      obtain ⟨hK_x0, h⟩ := h
      refine x_g_289 C hR hK_x0 q_3_8 dX8_inspect_98 ?_
      obtain ⟨a102, ea102, h⟩ := h
      refine x_some ea102 ?_
      obtain ⟨hK_a102, h⟩ := h
      refine x_gN_256 C hR hK_a102 ⟨rfl, C.2.2.2.2.2.2.1 _ (List.mem_of_getElem? (i := 2) rfl)⟩ dX8_inspect_101 ?_
      obtain ⟨a103, ea103, h⟩ := h
      refine x_some ea103 ?_
      refine lv_iload_n hx hb dX8_inspect_104 rfl (lv_at hl 1 rfl) ?_
      obtain ⟨hK_a103, h⟩ := h
      obtain ⟨hi104, a105, ea105, h⟩ := h
      refine x_aald13 C hR hK_a103 hi104 dX8_inspect_105 ?_
      refine x_some ea105 ?_
      refine lv_iconst (v := 4) hx hb dX8_inspect_106 (by decide) ?_
      refine lv_dup2_11 hx hb dX8_inspect_107 rfl rfl ?_
      obtain ⟨hK_a105, h⟩ := h
      obtain ⟨hi106, h⟩ := h
      refine x_iald C hR hK_a105 hi106 dX8_inspect_108 ?_
      refine lv_topi (fun x107 ex107 => ?_)
      replace h := h x107 ex107
      refine lv_iload_n hx hb dX8_inspect_109 rfl (lv_at hl 2 rfl) ?_
      refine lv_iadd hx hb dX8_inspect_110 ?_
      refine lv_topi (fun x108 ex108 => ?_)
      replace h := h x108 ex108
      obtain ⟨hi109, h⟩ := h
      refine x_iast C hR hK_a105 hS hi109 dX8_inspect_111 (fun H locs hR hS => ?_)
      obtain ⟨S110, eS110⟩ : ∃ z : sT, z = s_sB S a105 (Int32.toNatClampNeg (4 : Int32)) x108 := ⟨_, rfl⟩
      rw [← eS110] at hR
      replace h := h S110 eS110
      have hK_x0 : s_K S110 x0 = 10 := by rw [eS110]; exact hK_x0
      have hK_a102 : s_K S110 a102 = 9 := by rw [eS110]; exact hK_a102
      have hK_a103 : s_K S110 a103 = 13 := by rw [eS110]; exact hK_a103
      have hK_a105 : s_K S110 a105 = 11 := by rw [eS110]; exact hK_a105
      refine lv_iload_n hx hb dX8_inspect_112 rfl (lv_at hl 2 rfl) ?_
      exact W.iret (v := x2) hx hb hr (fun t ht hW => ⟨⟨x2, S110, rfl, h, x_rt ht hR⟩, hS.F ht⟩) hS.2.2 dX8_inspect_113
    · replace h := h.2 hc101
      refine lv_aload_n hx hb dX8_inspect_43 rfl (lv_at hl 3 rfl) ?_
      refine lv_iload hx hb dX8_inspect_44 (lv_at hl 5 rfl) ?_
      obtain ⟨hK_x3, h⟩ := h
      obtain ⟨hi111, a112, ea112, h⟩ := h
      refine x_aald13 C hR hK_x3 hi111 dX8_inspect_46 ?_
      refine x_some ea112 ?_
      refine lv_astore (lv' := [(6, .ref a112), (0, .ref x0), (1, .int x1), (2, .int x2), (3, .ref x3), (4, .int x4), (5, .int x5)]) hx hb dX8_inspect_47 hl (by decide) rfl (fun ls hl => ?_)
      refine lv_aload hx hb dX8_inspect_49 (lv_at hl 0 rfl) ?_
      refine lv_iconst (v := 0) hx hb dX8_inspect_51 (by decide) ?_
      obtain ⟨hK_a112, h⟩ := h
      obtain ⟨hi113, h⟩ := h
      refine x_iald C hR hK_a112 hi113 dX8_inspect_52 ?_
      refine lv_topi (fun x114 ex114 => ?_)
      replace h := h x114 ex114
      refine lv_iload_n hx hb dX8_inspect_53 rfl (lv_at hl 2 rfl) ?_
      refine lv_icmp_eq (tgt := 60) hx hb dX8_inspect_54 (by decide) (fun hc115 => ?_) (fun hc115 => ?_)
      · replace h := h.1 hc115
        refine lv_aload hx hb dX8_inspect_60 (lv_at hl 0 rfl) ?_
        refine lv_bipush (v := 17) hx hb dX8_inspect_62 (by decide) ?_
        refine lv_dup2_11 hx hb dX8_inspect_64 rfl rfl ?_
        obtain ⟨hi116, h⟩ := h
        refine x_iald C hR hK_a112 hi116 dX8_inspect_65 ?_
        refine lv_topi (fun x117 ex117 => ?_)
        replace h := h x117 ex117
        refine lv_iconst (v := 5) hx hb dX8_inspect_66 (by decide) ?_
        refine lv_aload hx hb dX8_inspect_67 (lv_at hl 0 rfl) ?_
        refine lv_bipush (v := 15) hx hb dX8_inspect_69 (by decide) ?_
        obtain ⟨hi118, h⟩ := h
        refine x_iald C hR hK_a112 hi118 dX8_inspect_71 ?_
        refine lv_topi (fun x119 ex119 => ?_)
        replace h := h x119 ex119
        refine lv_imul hx hb dX8_inspect_72 ?_
        refine lv_topi (fun x120 ex120 => ?_)
        replace h := h x120 ex120
        refine lv_isub hx hb dX8_inspect_73 ?_
        refine lv_topi (fun x121 ex121 => ?_)
        replace h := h x121 ex121
        obtain ⟨hi122, h⟩ := h
        refine x_iast C hR hK_a112 hS hi122 dX8_inspect_74 (fun H locs hR hS => ?_)
        obtain ⟨S123, eS123⟩ : ∃ z : sT, z = s_sB S a112 (Int32.toNatClampNeg (17 : Int32)) x121 := ⟨_, rfl⟩
        rw [← eS123] at hR
        replace h := h S123 eS123
        have hK_x3 : s_K S123 x3 = 13 := by rw [eS123]; exact hK_x3
        have hK_a112 : s_K S123 a112 = 11 := by rw [eS123]; exact hK_a112
        refine lv_iload_n hx hb dX8_inspect_75 rfl (lv_at hl 3 rfl) ?_
        refine lv_iconst (v := 5) hx hb dX8_inspect_76 (by decide) ?_
        refine lv_aload hx hb dX8_inspect_77 (lv_at hl 0 rfl) ?_
        refine lv_bipush (v := 15) hx hb dX8_inspect_79 (by decide) ?_
        obtain ⟨hi124, h⟩ := h
        refine x_iald C hR hK_a112 hi124 dX8_inspect_81 ?_
        refine lv_topi (fun x125 ex125 => ?_)
        replace h := h x125 ex125
        refine lv_imul hx hb dX8_inspect_82 ?_
        refine lv_topi (fun x126 ex126 => ?_)
        replace h := h x126 ex126
        refine lv_iadd hx hb dX8_inspect_83 ?_
        refine lv_topi (fun x127 ex127 => ?_)
        replace h := h x127 ex127
        refine lv_istore_n (lv' := [(2, .int x127), (6, .ref a112), (0, .ref x0), (1, .int x1), (3, .ref x3), (4, .int x4), (5, .int x5)]) hx hb dX8_inspect_84 rfl hl (by decide) rfl (fun ls hl => ?_)
        refine lv_aload hx hb dX8_inspect_85 (lv_at hl 1 rfl) ?_
        refine lv_bipush (v := 15) hx hb dX8_inspect_87 (by decide) ?_
        refine lv_iconst (v := 0) hx hb dX8_inspect_89 (by decide) ?_
        obtain ⟨hi128, h⟩ := h
        refine x_iast C hR hK_a112 hS hi128 dX8_inspect_90 (fun H locs hR hS => ?_)
        obtain ⟨S129, eS129⟩ : ∃ z : sT, z = s_sB S123 a112 (Int32.toNatClampNeg (15 : Int32)) (0 : Int32) := ⟨_, rfl⟩
        rw [← eS129] at hR
        replace h := h S129 eS129
        have hK_x3 : s_K S129 x3 = 13 := by rw [eS129]; exact hK_x3
        have hK_a112 : s_K S129 a112 = 11 := by rw [eS129]; exact hK_a112
        exact t_X8_inspect_b91 C hml hr hlocks (fun x0 x1 x2 x3 x4 x5 S h => ih x0 x1 x2 x3 x4 x5 S h) h H locs ls hR hS (lv_sub (l' := [(0, .ref x0), (1, .int x1), (2, .int x127), (3, .ref x3), (4, .int x4), (5, .int x5)]) hl [2, 3, 0, 4, 5, 6] rfl)
      · replace h := h.2 hc115
        refine lv_goto (tgt := 91) hx hb dX8_inspect_57 (by decide) ?_
        exact t_X8_inspect_b91 C hml hr hlocks (fun x0 x1 x2 x3 x4 x5 S h => ih x0 x1 x2 x3 x4 x5 S h) h H locs ls hR hS (lv_sub (l' := [(0, .ref x0), (1, .int x1), (2, .int x2), (3, .ref x3), (4, .int x4), (5, .int x5)]) hl [1, 2, 3, 4, 5, 6] rfl)
set_option maxHeartbeats 4000000 in
theorem t_X8_inspect_b0 (C : x_C p s m args c cX8_inspect RX8 gg) (hml : c.maxLocals = 7) (hr : meth.sig.returnType = (some .int)) (hlocks : meth.locks = false) {x0 : Nat} {x1 : Int32}  {S : sT}  {Q : Int32 → sT → Prop} (h : w_X8_inspect_b0 x0 x1 S  Q) : x_X p l e r_X8_inspect s m args below meth c gg 7 0 0 (MQ below (va_Qi Q (fun S1 t => s_Rep gg S1 t.heap) (s_A gg)) args s 0 0 (s_A gg)) 0 [(0, .ref x0), (1, .int x1)] [] S := by
  unfold w_X8_inspect_b0 at h
  obtain ⟨hx, hb, -⟩ := id C
  intro H locs ls hR hS hl
  refine lv_aload_n hx hb dX8_inspect_0 rfl (lv_at hl 0 rfl) ?_
  refine lv_iconst (v := 0) hx hb dX8_inspect_1 (by decide) ?_
  obtain ⟨hK_x0, h⟩ := h
  refine x_p_288 (v := (0 : Int32)) C hR hK_x0 hS q_8_1 dX8_inspect_2 (fun H locs hR hS => ?_)
  obtain ⟨S101, eS101⟩ : ∃ z : sT, z = s_sI S 288 x0 (0 : Int32) := ⟨_, rfl⟩
  rw [← eS101] at hR
  replace h := h S101 eS101
  have hK_x0 : s_K S101 x0 = 10 := by rw [eS101]; exact hK_x0
  refine lv_aload_n hx hb dX8_inspect_5 rfl (lv_at hl 0 rfl) ?_
  refine lv_iload_n hx hb dX8_inspect_6 rfl (lv_at hl 1 rfl) ?_
  refine x_ki (x_runV (As := [.int x1]) (rest := []) C hml hR hS (m_X8_isSociety l gg x0 x1 S101 h) b_X8_isSociety q_12_10 (by rw [hK_x0]; decide) (s_E_9 hK_x0) rfl rfl rfl rfl ⟨Nat.le_of_ble_eq_true rfl, Nat.le_of_ble_eq_true rfl⟩ rfl hl.1 (Nat.le_of_ble_eq_true rfl) dX8_inspect_7 ⟨Nat.le_refl _, Nat.le_refl _⟩) hS (fun x103 S102 H locs h hR hS => ?_)
  refine lv_if_ne (tgt := 19) hx hb dX8_inspect_10 (by decide) (fun hc104 => ?_) (fun hc104 => ?_)
  · replace h := h.1 hc104
    refine lv_iconst (v := 0) hx hb dX8_inspect_19 (by decide) ?_
    refine lv_istore_n (lv' := [(2, .int (0 : Int32)), (0, .ref x0), (1, .int x1)]) hx hb dX8_inspect_20 rfl hl (by decide) rfl (fun ls hl => ?_)
    refine lv_aload_n hx hb dX8_inspect_21 rfl (lv_at hl 1 rfl) ?_
    obtain ⟨hK_x0, h⟩ := h
    refine x_g_289 C hR hK_x0 q_3_8 dX8_inspect_22 ?_
    obtain ⟨a105, ea105, h⟩ := h
    refine x_some ea105 ?_
    obtain ⟨hK_a105, h⟩ := h
    refine x_gN_257 C hR hK_a105 ⟨rfl, C.2.2.2.2.2.2.1 _ (List.mem_of_getElem? (i := 1) rfl)⟩ dX8_inspect_25 ?_
    obtain ⟨a106, ea106, h⟩ := h
    refine x_some ea106 ?_
    refine lv_astore_n (lv' := [(3, .ref a106), (2, .int (0 : Int32)), (0, .ref x0), (1, .int x1)]) hx hb dX8_inspect_28 rfl hl (by decide) rfl (fun ls hl => ?_)
    refine lv_aload_n hx hb dX8_inspect_29 rfl (lv_at hl 0 rfl) ?_
    obtain ⟨hK_a106, h⟩ := h
    refine x_alen13 C hR hK_a106 dX8_inspect_30 ?_
    refine lv_topi (fun x107 ex107 => ?_)
    replace h := h x107 ex107
    refine lv_istore (lv' := [(4, .int x107), (3, .ref a106), (2, .int (0 : Int32)), (0, .ref x0), (1, .int x1)]) hx hb dX8_inspect_31 hl (by decide) rfl (fun ls hl => ?_)
    refine lv_iconst (v := 0) hx hb dX8_inspect_33 (by decide) ?_
    refine lv_istore (lv' := [(5, .int (0 : Int32)), (4, .int x107), (3, .ref a106), (2, .int (0 : Int32)), (0, .ref x0), (1, .int x1)]) hx hb dX8_inspect_34 hl (by decide) rfl (fun ls hl => ?_)
    obtain ⟨n9, h⟩ := h
    exact t_X8_inspect_b36 C hml hr hlocks  n9 x0 x1 (0 : Int32) a106 x107 (0 : Int32) S102 h H locs ls hR hS (lv_sub (l' := [(0, .ref x0), (1, .int x1), (2, .int (0 : Int32)), (3, .ref a106), (4, .int x107), (5, .int (0 : Int32))]) hl [4, 5, 3, 2, 1, 0] rfl)
  · replace h := h.2 hc104
    refine lv_aload_n hx hb dX8_inspect_13 rfl (lv_at hl 0 rfl) ?_
    refine lv_iconst (v := 1) hx hb dX8_inspect_14 (by decide) ?_
    obtain ⟨hK_x0, h⟩ := h
    refine x_ki (x_runV (As := [.int (1 : Int32)]) (rest := []) C hml hR hS (m_X8_refuse l gg x0 (1 : Int32) S102 h) b_X8_refuse q_8_5 (by rw [hK_x0]; decide) (s_E_9 hK_x0) rfl rfl rfl rfl ⟨Nat.le_of_ble_eq_true rfl, Nat.le_of_ble_eq_true rfl⟩ rfl hl.1 (Nat.le_of_ble_eq_true rfl) dX8_inspect_15 ⟨Nat.le_refl _, Nat.le_refl _⟩) hS (fun x109 S108 H locs h hR hS => ?_)
    exact W.iret (v := x109) hx hb hr (fun t ht hW => ⟨⟨x109, S108, rfl, h, x_rt ht hR⟩, hS.F ht⟩) hS.2.2 dX8_inspect_18
theorem m_X8_inspect (l : Launch) (gg : sG) (x0 : Nat) (x1 : Int32) (S : sT) {Q : Int32 → sT → Prop} (h : w_X8_inspect x0 x1 S Q) : x_Mi l gg yX8_inspect (x_ws yX8_inspect cX8_inspect 7 (some .int)) r_X8_inspect [.ref x0, .int x1] S Q 0 0 := by
  refine x_ofW (cc := cX8_inspect) (own := RX8) (by decide +kernel) rfl (Nat.le_of_ble_eq_true rfl) ?_
  intro p e s m args below meth c C hml hr hlocks hin ht H locs ls hR hS hl
  exact t_X8_inspect_b0 C hml hr hlocks h H locs ls hR hS (lv_sub (l' := [(0, .ref x0), (1, .int x1)]) hl [0, 1] rfl)
def w_X8_sell_b0 (x0 : Nat) (x1 : Int32) (x2 : Int32) (S : sT)  (Q : Int32 → sT → Prop) : Prop :=
s_K S x0 = 10 ∧
    ∀ S101 : sT, S101 = s_sI S 288 x0 (0 : Int32) →
    w_X8_isField x0 x1 S101 (fun x103 S102 =>
    ((¬ x103 = 0 → (((1 : Int32) ≤ x2 → s_K S102 x0 = 10 ∧
    ∃ a106 : Nat, s_R S102 289 x0 = some a106 ∧
    s_K S102 a106 = 9 ∧
    ∃ a107 : Nat, s_R S102 257 a106 = some a107 ∧
    s_K S102 a107 = 13 ∧
    vp_in x1 (s_N S102 a107) ∧
    ∃ a109 : Nat, s_P S102 a107 (Int32.toNatClampNeg x1) = some a109 ∧
    s_K S102 a109 = 11 ∧
    vp_in (19 : Int32) (s_N S102 a109) ∧
    ∀ x111 : Int32, x111 = s_B S102 a109 (Int32.toNatClampNeg (19 : Int32)) →
    ((x2 ≤ x111 → vp_in (19 : Int32) (s_N S102 a109) ∧
    ∀ x114 : Int32, x114 = s_B S102 a109 (Int32.toNatClampNeg (19 : Int32)) →
    ∀ x115 : Int32, x115 = x114 - x2 →
    vp_in (19 : Int32) (s_N S102 a109) ∧
    ∀ S117 : sT, S117 = s_sB S102 a109 (Int32.toNatClampNeg (19 : Int32)) x115 →
    vp_in (17 : Int32) (s_N S117 a109) ∧
    ∀ x119 : Int32, x119 = s_B S117 a109 (Int32.toNatClampNeg (17 : Int32)) →
    ∀ x120 : Int32, x120 = x119 + x2 →
    vp_in (17 : Int32) (s_N S117 a109) ∧
    ∀ S122 : sT, S122 = s_sB S117 a109 (Int32.toNatClampNeg (17 : Int32)) x120 →
    vp_in (17 : Int32) (s_N S122 a109) ∧
    ∀ x124 : Int32, x124 = s_B S122 a109 (Int32.toNatClampNeg (17 : Int32)) →
    Q x124 S122) ∧
    (¬ x2 ≤ x111 → w_X8_refuse x0 (3 : Int32) S102 (fun x126 S125 =>
    Q x126 S125)))) ∧
    (¬ (1 : Int32) ≤ x2 → s_K S102 x0 = 10 ∧
    w_X8_refuse x0 (2 : Int32) S102 (fun x128 S127 =>
    Q x128 S127)))) ∧
    (x103 = 0 → s_K S102 x0 = 10 ∧
    w_X8_refuse x0 (1 : Int32) S102 (fun x130 S129 =>
    Q x130 S129))))
def w_X8_sell (x0 : Nat) (x1 : Int32) (x2 : Int32) (S : sT) (Q : Int32 → sT → Prop) : Prop := w_X8_sell_b0 x0 x1 x2 S Q
def r_X8_sell : Room := x_rm 2 43 0 0
theorem b_X8_sell : x_BV yX8_sell cX8_sell 4 (some .int) 2 := ⟨q_29_5, q_29_3, q_29_4, q_1_5, by decide +kernel⟩
set_option maxHeartbeats 4000000 in
theorem t_X8_sell_b0 (C : x_C p s m args c cX8_sell RX8 gg) (hml : c.maxLocals = 4) (hr : meth.sig.returnType = (some .int)) (hlocks : meth.locks = false) {x0 : Nat} {x1 : Int32} {x2 : Int32}  {S : sT}  {Q : Int32 → sT → Prop} (h : w_X8_sell_b0 x0 x1 x2 S  Q) : x_X p l e r_X8_sell s m args below meth c gg 4 0 0 (MQ below (va_Qi Q (fun S1 t => s_Rep gg S1 t.heap) (s_A gg)) args s 0 0 (s_A gg)) 0 [(0, .ref x0), (1, .int x1), (2, .int x2)] [] S := by
  unfold w_X8_sell_b0 at h
  obtain ⟨hx, hb, -⟩ := id C
  intro H locs ls hR hS hl
  refine lv_aload_n hx hb dX8_sell_0 rfl (lv_at hl 0 rfl) ?_
  refine lv_iconst (v := 0) hx hb dX8_sell_1 (by decide) ?_
  obtain ⟨hK_x0, h⟩ := h
  refine x_p_288 (v := (0 : Int32)) C hR hK_x0 hS q_8_1 dX8_sell_2 (fun H locs hR hS => ?_)
  obtain ⟨S101, eS101⟩ : ∃ z : sT, z = s_sI S 288 x0 (0 : Int32) := ⟨_, rfl⟩
  rw [← eS101] at hR
  replace h := h S101 eS101
  have hK_x0 : s_K S101 x0 = 10 := by rw [eS101]; exact hK_x0
  refine lv_aload_n hx hb dX8_sell_5 rfl (lv_at hl 0 rfl) ?_
  refine lv_iload_n hx hb dX8_sell_6 rfl (lv_at hl 1 rfl) ?_
  refine x_ki (x_runV (As := [.int x1]) (rest := []) C hml hR hS (m_X8_isField l gg x0 x1 S101 h) b_X8_isField q_13_7 (by rw [hK_x0]; decide) (s_E_9 hK_x0) rfl rfl rfl rfl ⟨Nat.le_of_ble_eq_true rfl, Nat.le_of_ble_eq_true rfl⟩ rfl hl.1 (Nat.le_of_ble_eq_true rfl) dX8_sell_7 ⟨Nat.le_refl _, Nat.le_refl _⟩) hS (fun x103 S102 H locs h hR hS => ?_)
  refine lv_if_ne (tgt := 19) hx hb dX8_sell_10 (by decide) (fun hc104 => ?_) (fun hc104 => ?_)
  · replace h := h.1 hc104
    refine lv_iload_n hx hb dX8_sell_19 rfl (lv_at hl 2 rfl) ?_
    refine lv_iconst (v := 1) hx hb dX8_sell_20 (by decide) ?_
    refine lv_icmp_ge (tgt := 30) hx hb dX8_sell_21 (by decide) (fun hc105 => ?_) (fun hc105 => ?_)
    · replace h := h.1 hc105
      refine lv_aload_n hx hb dX8_sell_30 rfl (lv_at hl 0 rfl) ?_
      obtain ⟨hK_x0, h⟩ := h
      refine x_g_289 C hR hK_x0 q_3_8 dX8_sell_31 ?_
      obtain ⟨a106, ea106, h⟩ := h
      refine x_some ea106 ?_
      obtain ⟨hK_a106, h⟩ := h
      refine x_gN_257 C hR hK_a106 ⟨rfl, C.2.2.2.2.2.2.1 _ (List.mem_of_getElem? (i := 1) rfl)⟩ dX8_sell_34 ?_
      obtain ⟨a107, ea107, h⟩ := h
      refine x_some ea107 ?_
      refine lv_iload_n hx hb dX8_sell_37 rfl (lv_at hl 1 rfl) ?_
      obtain ⟨hK_a107, h⟩ := h
      obtain ⟨hi108, a109, ea109, h⟩ := h
      refine x_aald13 C hR hK_a107 hi108 dX8_sell_38 ?_
      refine x_some ea109 ?_
      refine lv_astore_n (lv' := [(3, .ref a109), (0, .ref x0), (1, .int x1), (2, .int x2)]) hx hb dX8_sell_39 rfl hl (by decide) rfl (fun ls hl => ?_)
      refine lv_aload_n hx hb dX8_sell_40 rfl (lv_at hl 0 rfl) ?_
      refine lv_bipush (v := 19) hx hb dX8_sell_41 (by decide) ?_
      obtain ⟨hK_a109, h⟩ := h
      obtain ⟨hi110, h⟩ := h
      refine x_iald C hR hK_a109 hi110 dX8_sell_43 ?_
      refine lv_topi (fun x111 ex111 => ?_)
      replace h := h x111 ex111
      refine lv_iload_n hx hb dX8_sell_44 rfl (lv_at hl 3 rfl) ?_
      refine lv_icmp_ge (tgt := 54) hx hb dX8_sell_45 (by decide) (fun hc112 => ?_) (fun hc112 => ?_)
      · replace h := h.1 hc112
        refine lv_aload_n hx hb dX8_sell_54 rfl (lv_at hl 0 rfl) ?_
        refine lv_bipush (v := 19) hx hb dX8_sell_55 (by decide) ?_
        refine lv_dup2_11 hx hb dX8_sell_57 rfl rfl ?_
        obtain ⟨hi113, h⟩ := h
        refine x_iald C hR hK_a109 hi113 dX8_sell_58 ?_
        refine lv_topi (fun x114 ex114 => ?_)
        replace h := h x114 ex114
        refine lv_iload_n hx hb dX8_sell_59 rfl (lv_at hl 3 rfl) ?_
        refine lv_isub hx hb dX8_sell_60 ?_
        refine lv_topi (fun x115 ex115 => ?_)
        replace h := h x115 ex115
        obtain ⟨hi116, h⟩ := h
        refine x_iast C hR hK_a109 hS hi116 dX8_sell_61 (fun H locs hR hS => ?_)
        obtain ⟨S117, eS117⟩ : ∃ z : sT, z = s_sB S102 a109 (Int32.toNatClampNeg (19 : Int32)) x115 := ⟨_, rfl⟩
        rw [← eS117] at hR
        replace h := h S117 eS117
        have hK_x0 : s_K S117 x0 = 10 := by rw [eS117]; exact hK_x0
        have hK_a106 : s_K S117 a106 = 9 := by rw [eS117]; exact hK_a106
        have hK_a107 : s_K S117 a107 = 13 := by rw [eS117]; exact hK_a107
        have hK_a109 : s_K S117 a109 = 11 := by rw [eS117]; exact hK_a109
        refine lv_aload_n hx hb dX8_sell_62 rfl (lv_at hl 0 rfl) ?_
        refine lv_bipush (v := 17) hx hb dX8_sell_63 (by decide) ?_
        refine lv_dup2_11 hx hb dX8_sell_65 rfl rfl ?_
        obtain ⟨hi118, h⟩ := h
        refine x_iald C hR hK_a109 hi118 dX8_sell_66 ?_
        refine lv_topi (fun x119 ex119 => ?_)
        replace h := h x119 ex119
        refine lv_iload_n hx hb dX8_sell_67 rfl (lv_at hl 3 rfl) ?_
        refine lv_iadd hx hb dX8_sell_68 ?_
        refine lv_topi (fun x120 ex120 => ?_)
        replace h := h x120 ex120
        obtain ⟨hi121, h⟩ := h
        refine x_iast C hR hK_a109 hS hi121 dX8_sell_69 (fun H locs hR hS => ?_)
        obtain ⟨S122, eS122⟩ : ∃ z : sT, z = s_sB S117 a109 (Int32.toNatClampNeg (17 : Int32)) x120 := ⟨_, rfl⟩
        rw [← eS122] at hR
        replace h := h S122 eS122
        have hK_x0 : s_K S122 x0 = 10 := by rw [eS122]; exact hK_x0
        have hK_a106 : s_K S122 a106 = 9 := by rw [eS122]; exact hK_a106
        have hK_a107 : s_K S122 a107 = 13 := by rw [eS122]; exact hK_a107
        have hK_a109 : s_K S122 a109 = 11 := by rw [eS122]; exact hK_a109
        refine lv_aload_n hx hb dX8_sell_70 rfl (lv_at hl 0 rfl) ?_
        refine lv_bipush (v := 17) hx hb dX8_sell_71 (by decide) ?_
        obtain ⟨hi123, h⟩ := h
        refine x_iald C hR hK_a109 hi123 dX8_sell_73 ?_
        refine lv_topi (fun x124 ex124 => ?_)
        replace h := h x124 ex124
        exact W.iret (v := x124) hx hb hr (fun t ht hW => ⟨⟨x124, S122, rfl, h, x_rt ht hR⟩, hS.F ht⟩) hS.2.2 dX8_sell_74
      · replace h := h.2 hc112
        refine lv_aload_n hx hb dX8_sell_48 rfl (lv_at hl 1 rfl) ?_
        refine lv_iconst (v := 3) hx hb dX8_sell_49 (by decide) ?_
        refine x_ki (x_runV (As := [.int (3 : Int32)]) (rest := []) C hml hR hS (m_X8_refuse l gg x0 (3 : Int32) S102 h) b_X8_refuse q_8_5 (by rw [hK_x0]; decide) (s_E_9 hK_x0) rfl rfl rfl rfl ⟨Nat.le_of_ble_eq_true rfl, Nat.le_of_ble_eq_true rfl⟩ rfl hl.1 (Nat.le_of_ble_eq_true rfl) dX8_sell_50 ⟨Nat.le_refl _, Nat.le_refl _⟩) hS (fun x126 S125 H locs h hR hS => ?_)
        exact W.iret (v := x126) hx hb hr (fun t ht hW => ⟨⟨x126, S125, rfl, h, x_rt ht hR⟩, hS.F ht⟩) hS.2.2 dX8_sell_53
    · replace h := h.2 hc105
      refine lv_aload_n hx hb dX8_sell_24 rfl (lv_at hl 0 rfl) ?_
      refine lv_iconst (v := 2) hx hb dX8_sell_25 (by decide) ?_
      obtain ⟨hK_x0, h⟩ := h
      refine x_ki (x_runV (As := [.int (2 : Int32)]) (rest := []) C hml hR hS (m_X8_refuse l gg x0 (2 : Int32) S102 h) b_X8_refuse q_8_5 (by rw [hK_x0]; decide) (s_E_9 hK_x0) rfl rfl rfl rfl ⟨Nat.le_of_ble_eq_true rfl, Nat.le_of_ble_eq_true rfl⟩ rfl hl.1 (Nat.le_of_ble_eq_true rfl) dX8_sell_26 ⟨Nat.le_refl _, Nat.le_refl _⟩) hS (fun x128 S127 H locs h hR hS => ?_)
      exact W.iret (v := x128) hx hb hr (fun t ht hW => ⟨⟨x128, S127, rfl, h, x_rt ht hR⟩, hS.F ht⟩) hS.2.2 dX8_sell_29
  · replace h := h.2 hc104
    refine lv_aload_n hx hb dX8_sell_13 rfl (lv_at hl 0 rfl) ?_
    refine lv_iconst (v := 1) hx hb dX8_sell_14 (by decide) ?_
    obtain ⟨hK_x0, h⟩ := h
    refine x_ki (x_runV (As := [.int (1 : Int32)]) (rest := []) C hml hR hS (m_X8_refuse l gg x0 (1 : Int32) S102 h) b_X8_refuse q_8_5 (by rw [hK_x0]; decide) (s_E_9 hK_x0) rfl rfl rfl rfl ⟨Nat.le_of_ble_eq_true rfl, Nat.le_of_ble_eq_true rfl⟩ rfl hl.1 (Nat.le_of_ble_eq_true rfl) dX8_sell_15 ⟨Nat.le_refl _, Nat.le_refl _⟩) hS (fun x130 S129 H locs h hR hS => ?_)
    exact W.iret (v := x130) hx hb hr (fun t ht hW => ⟨⟨x130, S129, rfl, h, x_rt ht hR⟩, hS.F ht⟩) hS.2.2 dX8_sell_18
theorem m_X8_sell (l : Launch) (gg : sG) (x0 : Nat) (x1 : Int32) (x2 : Int32) (S : sT) {Q : Int32 → sT → Prop} (h : w_X8_sell x0 x1 x2 S Q) : x_Mi l gg yX8_sell (x_ws yX8_sell cX8_sell 4 (some .int)) r_X8_sell [.ref x0, .int x1, .int x2] S Q 0 0 := by
  refine x_ofW (cc := cX8_sell) (own := RX8) (by decide +kernel) rfl (Nat.le_of_ble_eq_true rfl) ?_
  intro p e s m args below meth c C hml hr hlocks hin ht H locs ls hR hS hl
  exact t_X8_sell_b0 C hml hr hlocks h H locs ls hR hS (lv_sub (l' := [(0, .ref x0), (1, .int x1), (2, .int x2)]) hl [0, 1, 2] rfl)
def w_X8_size_b44 (x1 : Int32) (x3 : Nat) (x4 : Int32) (x5 : Int32) (y0 : Int32) (y1 : Int32) (S : sT) (kk17 : Int32 → Int32 → Nat → Int32 → Int32 → sT → Prop) (Q : Int32 → sT → Prop) : Prop :=
∀ x101 : Int32, x101 = y1 + y0 →
    ∀ x102 : Int32, x102 = x5 + 1 →
    kk17 x1 x101 x3 x4 x102 S
def w_X8_size_b17  (Q : Int32 → sT → Prop) : Nat → Int32 → Int32 → Nat → Int32 → Int32 → sT → Prop
  | 0 => fun _ _ _ _ _ _ => False
  | n + 1 => fun x1 x2 x3 x4 x5 S =>
((x4 ≤ x5 → Q x2 S) ∧
    (¬ x4 ≤ x5 → s_K S x3 = 13 ∧
    vp_in x5 (s_N S x3) ∧
    ∃ a103 : Nat, s_P S x3 (Int32.toNatClampNeg x5) = some a103 ∧
    s_K S a103 = 11 ∧
    vp_in (0 : Int32) (s_N S a103) ∧
    ∀ x105 : Int32, x105 = s_B S a103 (Int32.toNatClampNeg (0 : Int32)) →
    ((¬ x105 = x1 → w_X8_size_b44 x1 x3 x4 x5 (0 : Int32) x2 S (fun x1 x2 x3 x4 x5 S => w_X8_size_b17  Q n x1 x2 x3 x4 x5 S) Q) ∧
    (x105 = x1 → w_X8_size_b44 x1 x3 x4 x5 (1 : Int32) x2 S (fun x1 x2 x3 x4 x5 S => w_X8_size_b17  Q n x1 x2 x3 x4 x5 S) Q))))
def w_X8_size_b0 (x0 : Nat) (x1 : Int32) (S : sT)  (Q : Int32 → sT → Prop) : Prop :=
s_K S x0 = 10 ∧
    ∃ a101 : Nat, s_R S 289 x0 = some a101 ∧
    s_K S a101 = 9 ∧
    ∃ a102 : Nat, s_R S 257 a101 = some a102 ∧
    s_K S a102 = 13 ∧
    ∀ x103 : Int32, x103 = nI (s_N S a102) →
    ∃ n : Nat, w_X8_size_b17  Q n x1 (0 : Int32) a102 x103 (0 : Int32) S
def w_X8_size (x0 : Nat) (x1 : Int32) (S : sT) (Q : Int32 → sT → Prop) : Prop := w_X8_size_b0 x0 x1 S Q
def r_X8_size : Room := x_rm 0 0 0 0
theorem b_X8_size : x_BV yX8_size cX8_size 7 (some .int) 1 := ⟨q_30_22, q_30_20, q_30_21, q_1_5, by decide +kernel⟩
set_option maxHeartbeats 4000000 in
theorem t_X8_size_b44 (C : x_C p s m args c cX8_size RX8 gg) (hml : c.maxLocals = 7) (hr : meth.sig.returnType = (some .int)) (hlocks : meth.locks = false) {x1 : Int32} {x3 : Nat} {x4 : Int32} {x5 : Int32} {y0 : Int32} {y1 : Int32} {kk17 : Int32 → Int32 → Nat → Int32 → Int32 → sT → Prop} {S : sT} (hk17 : ∀ (x1 : Int32) (x2 : Int32) (x3 : Nat) (x4 : Int32) (x5 : Int32) (S : sT), kk17 x1 x2 x3 x4 x5 S → x_X p l e r_X8_size s m args below meth c gg 7 0 0 (MQ below (va_Qi Q (fun S1 t => s_Rep gg S1 t.heap) (s_A gg)) args s 0 0 (s_A gg)) 17 [(1, .int x1), (2, .int x2), (3, .ref x3), (4, .int x4), (5, .int x5)] [] S) {Q : Int32 → sT → Prop} (h : w_X8_size_b44 x1 x3 x4 x5 y0 y1 S kk17 Q) : x_X p l e r_X8_size s m args below meth c gg 7 0 0 (MQ below (va_Qi Q (fun S1 t => s_Rep gg S1 t.heap) (s_A gg)) args s 0 0 (s_A gg)) 44 [(1, .int x1), (3, .ref x3), (4, .int x4), (5, .int x5)] [.int y0, .int y1] S := by
  unfold w_X8_size_b44 at h
  obtain ⟨hx, hb, -⟩ := id C
  intro H locs ls hR hS hl
  refine lv_iadd hx hb dX8_size_44 ?_
  refine lv_topi (fun x101 ex101 => ?_)
  replace h := h x101 ex101
  refine lv_istore_n (lv' := [(2, .int x101), (1, .int x1), (3, .ref x3), (4, .int x4), (5, .int x5)]) hx hb dX8_size_45 rfl hl (by decide) rfl (fun ls hl => ?_)
  obtain ⟨x102, ex102⟩ : ∃ z : Int32, z = x5 + 1 := ⟨_, rfl⟩
  replace h := h x102 ex102
  refine lv_iinc (v := x102) (lv' := [(5, .int x102), (2, .int x101), (1, .int x1), (3, .ref x3), (4, .int x4)]) hx hb dX8_size_46 hl (k := 4) rfl (by rw [ex102]; rfl) (by decide) rfl (fun ls hl => ?_)
  refine lv_goto (tgt := 17) hx hb dX8_size_49 (by decide) ?_
  exact hk17 x1 x101 x3 x4 x102 S h H locs ls hR hS (lv_sub (l' := [(1, .int x1), (2, .int x101), (3, .ref x3), (4, .int x4), (5, .int x102)]) hl [2, 1, 3, 4, 0] rfl)
set_option maxHeartbeats 4000000 in
theorem t_X8_size_b17 (C : x_C p s m args c cX8_size RX8 gg) (hml : c.maxLocals = 7) (hr : meth.sig.returnType = (some .int)) (hlocks : meth.locks = false)   {Q : Int32 → sT → Prop} : ∀ (n : Nat) (x1 : Int32) (x2 : Int32) (x3 : Nat) (x4 : Int32) (x5 : Int32) (S : sT), w_X8_size_b17  Q n x1 x2 x3 x4 x5 S → x_X p l e r_X8_size s m args below meth c gg 7 0 0 (MQ below (va_Qi Q (fun S1 t => s_Rep gg S1 t.heap) (s_A gg)) args s 0 0 (s_A gg)) 17 [(1, .int x1), (2, .int x2), (3, .ref x3), (4, .int x4), (5, .int x5)] [] S := by
  obtain ⟨hx, hb, -⟩ := id C
  intro n
  induction n with
  | zero => intro x1 x2 x3 x4 x5 S h; exact absurd h id
  | succ n ih =>
    intro x1 x2 x3 x4 x5 S h H locs ls hR hS hl
    unfold w_X8_size_b17 at h
    refine lv_iload hx hb dX8_size_17 (lv_at hl 4 rfl) ?_
    refine lv_iload hx hb dX8_size_19 (lv_at hl 3 rfl) ?_
    refine lv_icmp_ge (tgt := 52) hx hb dX8_size_21 (by decide) (fun hc101 => ?_) (fun hc101 => ?_)
    · replace h := h.1 hc101
      refine lv_iload_n hx hb dX8_size_52 rfl (lv_at hl 1 rfl) ?_
      exact W.iret (v := x2) hx hb hr (fun t ht hW => ⟨⟨x2, S, rfl, h, x_rt ht hR⟩, hS.F ht⟩) hS.2.2 dX8_size_53
    · replace h := h.2 hc101
      refine lv_aload_n hx hb dX8_size_24 rfl (lv_at hl 2 rfl) ?_
      refine lv_iload hx hb dX8_size_25 (lv_at hl 4 rfl) ?_
      obtain ⟨hK_x3, h⟩ := h
      obtain ⟨hi102, a103, ea103, h⟩ := h
      refine x_aald13 C hR hK_x3 hi102 dX8_size_27 ?_
      refine x_some ea103 ?_
      refine lv_astore (lv' := [(6, .ref a103), (1, .int x1), (2, .int x2), (3, .ref x3), (4, .int x4), (5, .int x5)]) hx hb dX8_size_28 hl (by decide) rfl (fun ls hl => ?_)
      refine lv_iload_n hx hb dX8_size_30 rfl (lv_at hl 2 rfl) ?_
      refine lv_aload hx hb dX8_size_31 (lv_at hl 0 rfl) ?_
      refine lv_iconst (v := 0) hx hb dX8_size_33 (by decide) ?_
      obtain ⟨hK_a103, h⟩ := h
      obtain ⟨hi104, h⟩ := h
      refine x_iald C hR hK_a103 hi104 dX8_size_34 ?_
      refine lv_topi (fun x105 ex105 => ?_)
      replace h := h x105 ex105
      refine lv_iload_n hx hb dX8_size_35 rfl (lv_at hl 1 rfl) ?_
      refine lv_icmp_ne (tgt := 43) hx hb dX8_size_36 (by decide) (fun hc106 => ?_) (fun hc106 => ?_)
      · replace h := h.1 hc106
        refine lv_iconst (v := 0) hx hb dX8_size_43 (by decide) ?_
        exact t_X8_size_b44 C hml hr hlocks (fun x1 x2 x3 x4 x5 S h => ih x1 x2 x3 x4 x5 S h) h H locs ls hR hS (lv_sub (l' := [(1, .int x1), (3, .ref x3), (4, .int x4), (5, .int x5)]) hl [1, 3, 4, 5] rfl)
      · replace h := h.2 hc106
        refine lv_iconst (v := 1) hx hb dX8_size_39 (by decide) ?_
        refine lv_goto (tgt := 44) hx hb dX8_size_40 (by decide) ?_
        exact t_X8_size_b44 C hml hr hlocks (fun x1 x2 x3 x4 x5 S h => ih x1 x2 x3 x4 x5 S h) h H locs ls hR hS (lv_sub (l' := [(1, .int x1), (3, .ref x3), (4, .int x4), (5, .int x5)]) hl [1, 3, 4, 5] rfl)
set_option maxHeartbeats 4000000 in
theorem t_X8_size_b0 (C : x_C p s m args c cX8_size RX8 gg) (hml : c.maxLocals = 7) (hr : meth.sig.returnType = (some .int)) (hlocks : meth.locks = false) {x0 : Nat} {x1 : Int32}  {S : sT}  {Q : Int32 → sT → Prop} (h : w_X8_size_b0 x0 x1 S  Q) : x_X p l e r_X8_size s m args below meth c gg 7 0 0 (MQ below (va_Qi Q (fun S1 t => s_Rep gg S1 t.heap) (s_A gg)) args s 0 0 (s_A gg)) 0 [(0, .ref x0), (1, .int x1)] [] S := by
  unfold w_X8_size_b0 at h
  obtain ⟨hx, hb, -⟩ := id C
  intro H locs ls hR hS hl
  refine lv_iconst (v := 0) hx hb dX8_size_0 (by decide) ?_
  refine lv_istore_n (lv' := [(2, .int (0 : Int32)), (0, .ref x0), (1, .int x1)]) hx hb dX8_size_1 rfl hl (by decide) rfl (fun ls hl => ?_)
  refine lv_aload_n hx hb dX8_size_2 rfl (lv_at hl 1 rfl) ?_
  obtain ⟨hK_x0, h⟩ := h
  refine x_g_289 C hR hK_x0 q_3_8 dX8_size_3 ?_
  obtain ⟨a101, ea101, h⟩ := h
  refine x_some ea101 ?_
  obtain ⟨hK_a101, h⟩ := h
  refine x_gN_257 C hR hK_a101 ⟨rfl, C.2.2.2.2.2.2.1 _ (List.mem_of_getElem? (i := 1) rfl)⟩ dX8_size_6 ?_
  obtain ⟨a102, ea102, h⟩ := h
  refine x_some ea102 ?_
  refine lv_astore_n (lv' := [(3, .ref a102), (2, .int (0 : Int32)), (0, .ref x0), (1, .int x1)]) hx hb dX8_size_9 rfl hl (by decide) rfl (fun ls hl => ?_)
  refine lv_aload_n hx hb dX8_size_10 rfl (lv_at hl 0 rfl) ?_
  obtain ⟨hK_a102, h⟩ := h
  refine x_alen13 C hR hK_a102 dX8_size_11 ?_
  refine lv_topi (fun x103 ex103 => ?_)
  replace h := h x103 ex103
  refine lv_istore (lv' := [(4, .int x103), (3, .ref a102), (2, .int (0 : Int32)), (0, .ref x0), (1, .int x1)]) hx hb dX8_size_12 hl (by decide) rfl (fun ls hl => ?_)
  refine lv_iconst (v := 0) hx hb dX8_size_14 (by decide) ?_
  refine lv_istore (lv' := [(5, .int (0 : Int32)), (4, .int x103), (3, .ref a102), (2, .int (0 : Int32)), (0, .ref x0), (1, .int x1)]) hx hb dX8_size_15 hl (by decide) rfl (fun ls hl => ?_)
  obtain ⟨n9, h⟩ := h
  exact t_X8_size_b17 C hml hr hlocks  n9 x1 (0 : Int32) a102 x103 (0 : Int32) S h H locs ls hR hS (lv_sub (l' := [(1, .int x1), (2, .int (0 : Int32)), (3, .ref a102), (4, .int x103), (5, .int (0 : Int32))]) hl [5, 3, 2, 1, 0] rfl)
theorem m_X8_size (l : Launch) (gg : sG) (x0 : Nat) (x1 : Int32) (S : sT) {Q : Int32 → sT → Prop} (h : w_X8_size x0 x1 S Q) : x_Mi l gg yX8_size (x_ws yX8_size cX8_size 7 (some .int)) r_X8_size [.ref x0, .int x1] S Q 0 0 := by
  refine x_ofW (cc := cX8_size) (own := RX8) (by decide +kernel) rfl (Nat.le_of_ble_eq_true rfl) ?_
  intro p e s m args below meth c C hml hr hlocks hin ht H locs ls hR hS hl
  exact t_X8_size_b0 C hml hr hlocks h H locs ls hR hS (lv_sub (l' := [(0, .ref x0), (1, .int x1)]) hl [0, 1] rfl)
def w_X8_rate_b30 (y0 : Int32) (S : sT)  (Q : Int32 → sT → Prop) : Prop :=
Q y0 S
def w_X8_rate_b0 (x0 : Nat) (x1 : Int32) (S : sT)  (Q : Int32 → sT → Prop) : Prop :=
s_K S x0 = 10 ∧
    w_X8_size x0 x1 S (fun x102 S101 =>
    ((¬ x102 = 0 → s_K S101 x0 = 10 ∧
    ∃ a104 : Nat, s_R S101 289 x0 = some a104 ∧
    s_K S101 a104 = 9 ∧
    ∃ a105 : Nat, s_R S101 256 a104 = some a105 ∧
    s_K S101 a105 = 13 ∧
    vp_in x1 (s_N S101 a105) ∧
    ∃ a107 : Nat, s_P S101 a105 (Int32.toNatClampNeg x1) = some a107 ∧
    s_K S101 a107 = 11 ∧
    vp_in (8 : Int32) (s_N S101 a107) ∧
    ∀ x109 : Int32, x109 = s_B S101 a107 (Int32.toNatClampNeg (8 : Int32)) →
    w_X8_size x0 x1 S101 (fun x111 S110 =>
    ¬ x111 = 0 ∧
    ∀ x113 : Int32, x113 = x109 / x111 →
    w_X8_rate_b30 x113 S110  Q)) ∧
    (x102 = 0 → w_X8_rate_b30 (0 : Int32) S101  Q)))
def w_X8_rate (x0 : Nat) (x1 : Int32) (S : sT) (Q : Int32 → sT → Prop) : Prop := w_X8_rate_b0 x0 x1 S Q
def r_X8_rate : Room := x_rm 1 26 0 0
theorem b_X8_rate : x_BV yX8_rate cX8_rate 2 (some .int) 1 := ⟨q_30_18, q_30_16, q_30_17, q_1_5, by decide +kernel⟩
set_option maxHeartbeats 4000000 in
theorem t_X8_rate_b30 (C : x_C p s m args c cX8_rate RX8 gg) (hml : c.maxLocals = 2) (hr : meth.sig.returnType = (some .int)) (hlocks : meth.locks = false) {y0 : Int32}  {S : sT}  {Q : Int32 → sT → Prop} (h : w_X8_rate_b30 y0 S  Q) : x_X p l e r_X8_rate s m args below meth c gg 2 0 0 (MQ below (va_Qi Q (fun S1 t => s_Rep gg S1 t.heap) (s_A gg)) args s 0 0 (s_A gg)) 30 [] [.int y0] S := by
  unfold w_X8_rate_b30 at h
  obtain ⟨hx, hb, -⟩ := id C
  intro H locs ls hR hS hl
  exact W.iret (v := y0) hx hb hr (fun t ht hW => ⟨⟨y0, S, rfl, h, x_rt ht hR⟩, hS.F ht⟩) hS.2.2 dX8_rate_30
set_option maxHeartbeats 4000000 in
theorem t_X8_rate_b0 (C : x_C p s m args c cX8_rate RX8 gg) (hml : c.maxLocals = 2) (hr : meth.sig.returnType = (some .int)) (hlocks : meth.locks = false) {x0 : Nat} {x1 : Int32}  {S : sT}  {Q : Int32 → sT → Prop} (h : w_X8_rate_b0 x0 x1 S  Q) : x_X p l e r_X8_rate s m args below meth c gg 2 0 0 (MQ below (va_Qi Q (fun S1 t => s_Rep gg S1 t.heap) (s_A gg)) args s 0 0 (s_A gg)) 0 [(0, .ref x0), (1, .int x1)] [] S := by
  unfold w_X8_rate_b0 at h
  obtain ⟨hx, hb, -⟩ := id C
  intro H locs ls hR hS hl
  refine lv_aload_n hx hb dX8_rate_0 rfl (lv_at hl 0 rfl) ?_
  refine lv_iload_n hx hb dX8_rate_1 rfl (lv_at hl 1 rfl) ?_
  obtain ⟨hK_x0, h⟩ := h
  refine x_ki (x_runV (As := [.int x1]) (rest := []) C hml hR hS (m_X8_size l gg x0 x1 S h) b_X8_size q_30_19 (by rw [hK_x0]; decide) (s_E_9 hK_x0) rfl rfl rfl rfl ⟨Nat.le_of_ble_eq_true rfl, Nat.le_of_ble_eq_true rfl⟩ rfl hl.1 (Nat.le_of_ble_eq_true rfl) dX8_rate_2 ⟨Nat.le_refl _, Nat.le_refl _⟩) hS (fun x102 S101 H locs h hR hS => ?_)
  refine lv_if_ne (tgt := 12) hx hb dX8_rate_5 (by decide) (fun hc103 => ?_) (fun hc103 => ?_)
  · replace h := h.1 hc103
    refine lv_aload_n hx hb dX8_rate_12 rfl (lv_at hl 0 rfl) ?_
    obtain ⟨hK_x0, h⟩ := h
    refine x_g_289 C hR hK_x0 q_3_8 dX8_rate_13 ?_
    obtain ⟨a104, ea104, h⟩ := h
    refine x_some ea104 ?_
    obtain ⟨hK_a104, h⟩ := h
    refine x_gN_256 C hR hK_a104 ⟨rfl, C.2.2.2.2.2.2.1 _ (List.mem_of_getElem? (i := 2) rfl)⟩ dX8_rate_16 ?_
    obtain ⟨a105, ea105, h⟩ := h
    refine x_some ea105 ?_
    refine lv_iload_n hx hb dX8_rate_19 rfl (lv_at hl 1 rfl) ?_
    obtain ⟨hK_a105, h⟩ := h
    obtain ⟨hi106, a107, ea107, h⟩ := h
    refine x_aald13 C hR hK_a105 hi106 dX8_rate_20 ?_
    refine x_some ea107 ?_
    refine lv_bipush (v := 8) hx hb dX8_rate_21 (by decide) ?_
    obtain ⟨hK_a107, h⟩ := h
    obtain ⟨hi108, h⟩ := h
    refine x_iald C hR hK_a107 hi108 dX8_rate_23 ?_
    refine lv_topi (fun x109 ex109 => ?_)
    replace h := h x109 ex109
    refine lv_aload_n hx hb dX8_rate_24 rfl (lv_at hl 0 rfl) ?_
    refine lv_iload_n hx hb dX8_rate_25 rfl (lv_at hl 1 rfl) ?_
    refine x_ki (x_runV (As := [.int x1]) (rest := [.int x109]) C hml hR hS (m_X8_size l gg x0 x1 S101 h) b_X8_size q_30_19 (by rw [hK_x0]; decide) (s_E_9 hK_x0) rfl rfl rfl rfl ⟨Nat.le_of_ble_eq_true rfl, Nat.le_of_ble_eq_true rfl⟩ rfl hl.1 (Nat.le_of_ble_eq_true rfl) dX8_rate_26 ⟨Nat.le_refl _, Nat.le_refl _⟩) hS (fun x111 S110 H locs h hR hS => ?_)
    obtain ⟨hd112, h⟩ := h
    refine lv_idiv hx hb dX8_rate_29 hd112 ?_
    refine lv_topi (fun x113 ex113 => ?_)
    replace h := h x113 ex113
    exact t_X8_rate_b30 C hml hr hlocks  h H locs ls hR hS (lv_sub (l' := []) hl [] rfl)
  · replace h := h.2 hc103
    refine lv_iconst (v := 0) hx hb dX8_rate_8 (by decide) ?_
    refine lv_goto (tgt := 30) hx hb dX8_rate_9 (by decide) ?_
    exact t_X8_rate_b30 C hml hr hlocks  h H locs ls hR hS (lv_sub (l' := []) hl [] rfl)
theorem m_X8_rate (l : Launch) (gg : sG) (x0 : Nat) (x1 : Int32) (S : sT) {Q : Int32 → sT → Prop} (h : w_X8_rate x0 x1 S Q) : x_Mi l gg yX8_rate (x_ws yX8_rate cX8_rate 2 (some .int)) r_X8_rate [.ref x0, .int x1] S Q 0 0 := by
  refine x_ofW (cc := cX8_rate) (own := RX8) (by decide +kernel) rfl (Nat.le_of_ble_eq_true rfl) ?_
  intro p e s m args below meth c C hml hr hlocks hin ht H locs ls hR hS hl
  exact t_X8_rate_b0 C hml hr hlocks h H locs ls hR hS (lv_sub (l' := [(0, .ref x0), (1, .int x1)]) hl [0, 1] rfl)
def w_X8_vote_b60 (x0 : Nat) (x1 : Int32) (x2 : Int32) (x3 : Int32) (S : sT) (kk25 : Nat → Int32 → Int32 → Int32 → sT → Prop) (Q : Int32 → sT → Prop) : Prop :=
∀ x101 : Int32, x101 = x3 + 2 →
    kk25 x0 x1 x2 x101 S
def w_X8_vote_b58 (x0 : Nat) (x1 : Int32) (x3 : Int32) (S : sT) (kk25 : Nat → Int32 → Int32 → Int32 → sT → Prop) (Q : Int32 → sT → Prop) : Prop :=
w_X8_vote_b60 x0 x1 x3 x3 S kk25 Q
def w_X8_vote_b209 (x0 : Nat) (x1 : Int32) (x3 : Int32) (S : sT)  (Q : Int32 → sT → Prop) : Prop :=
s_K S x0 = 10 ∧
    ∃ a101 : Nat, s_R S 289 x0 = some a101 ∧
    s_K S a101 = 9 ∧
    ∃ a102 : Nat, s_R S 256 a101 = some a102 ∧
    s_K S a102 = 13 ∧
    vp_in x1 (s_N S a102) ∧
    ∃ a104 : Nat, s_P S a102 (Int32.toNatClampNeg x1) = some a104 ∧
    s_K S a104 = 11 ∧
    vp_in (8 : Int32) (s_N S a104) ∧
    ∀ S106 : sT, S106 = s_sB S a104 (Int32.toNatClampNeg (8 : Int32)) (0 : Int32) →
    Q x3 S106
def w_X8_vote_b141 (x0 : Nat) (x1 : Int32) (x2 : Int32) (x4 : Nat) (x5 : Int32) (x6 : Int32) (y0 : Int32) (y1 : Int32) (S : sT) (kk85 : Nat → Int32 → Int32 → Int32 → Nat → Int32 → Int32 → sT → Prop) (Q : Int32 → sT → Prop) : Prop :=
∀ x101 : Int32, x101 = y1 + y0 →
    ∀ x102 : Int32, x102 = x6 + 1 →
    kk85 x0 x1 x2 x101 x4 x5 x102 S
def w_X8_vote_b140 (x0 : Nat) (x1 : Int32) (x2 : Int32) (x4 : Nat) (x5 : Int32) (x6 : Int32) (y0 : Int32) (S : sT) (kk85 : Nat → Int32 → Int32 → Int32 → Nat → Int32 → Int32 → sT → Prop) (Q : Int32 → sT → Prop) : Prop :=
w_X8_vote_b141 x0 x1 x2 x4 x5 x6 (0 : Int32) y0 S kk85 Q
def w_X8_vote_b136 (x0 : Nat) (x1 : Int32) (x2 : Int32) (x4 : Nat) (x5 : Int32) (x6 : Int32) (y0 : Int32) (S : sT) (kk85 : Nat → Int32 → Int32 → Int32 → Nat → Int32 → Int32 → sT → Prop) (Q : Int32 → sT → Prop) : Prop :=
w_X8_vote_b141 x0 x1 x2 x4 x5 x6 (1 : Int32) y0 S kk85 Q
def w_X8_vote_b85  (Q : Int32 → sT → Prop) : Nat → Nat → Int32 → Int32 → Int32 → Nat → Int32 → Int32 → sT → Prop
  | 0 => fun _ _ _ _ _ _ _ _ => False
  | n + 1 => fun x0 x1 x2 x3 x4 x5 x6 S =>
((x5 ≤ x6 → ∀ x102 : Int32, x102 = (2 : Int32) * x3 →
    s_K S x0 = 10 ∧
    w_X8_size x0 x1 S (fun x104 S103 =>
    ((x102 ≤ x104 → w_X8_vote_b209 x0 x1 x3 S103  Q) ∧
    (¬ x102 ≤ x104 → ((x2 = (-1 : Int32) → w_X8_vote_b209 x0 x1 x3 S103  Q) ∧
    (¬ x2 = (-1 : Int32) → s_K S103 x0 = 10 ∧
    ∃ a107 : Nat, s_R S103 289 x0 = some a107 ∧
    s_K S103 a107 = 9 ∧
    ∃ a108 : Nat, s_R S103 256 a107 = some a108 ∧
    s_K S103 a108 = 13 ∧
    vp_in x1 (s_N S103 a108) ∧
    ∃ a110 : Nat, s_P S103 a108 (Int32.toNatClampNeg x1) = some a110 ∧
    ∃ a111 : Nat, s_R S103 289 x0 = some a111 ∧
    s_K S103 a111 = 9 ∧
    ∃ a112 : Nat, s_R S103 256 a111 = some a112 ∧
    s_K S103 a112 = 13 ∧
    vp_in x2 (s_N S103 a112) ∧
    ∃ a114 : Nat, s_P S103 a112 (Int32.toNatClampNeg x2) = some a114 ∧
    s_K S103 a114 = 11 ∧
    vp_in (2 : Int32) (s_N S103 a114) ∧
    ∀ x116 : Int32, x116 = s_B S103 a114 (Int32.toNatClampNeg (2 : Int32)) →
    s_K S103 a110 = 11 ∧
    vp_in (2 : Int32) (s_N S103 a110) ∧
    ∀ S118 : sT, S118 = s_sB S103 a110 (Int32.toNatClampNeg (2 : Int32)) x116 →
    ∃ a119 : Nat, s_R S118 289 x0 = some a119 ∧
    s_K S118 a119 = 9 ∧
    ∃ a120 : Nat, s_R S118 256 a119 = some a120 ∧
    s_K S118 a120 = 13 ∧
    vp_in x1 (s_N S118 a120) ∧
    ∃ a122 : Nat, s_P S118 a120 (Int32.toNatClampNeg x1) = some a122 ∧
    ∃ a123 : Nat, s_R S118 289 x0 = some a123 ∧
    s_K S118 a123 = 9 ∧
    ∃ a124 : Nat, s_R S118 256 a123 = some a124 ∧
    s_K S118 a124 = 13 ∧
    vp_in x2 (s_N S118 a124) ∧
    ∃ a126 : Nat, s_P S118 a124 (Int32.toNatClampNeg x2) = some a126 ∧
    s_K S118 a126 = 11 ∧
    vp_in (3 : Int32) (s_N S118 a126) ∧
    ∀ x128 : Int32, x128 = s_B S118 a126 (Int32.toNatClampNeg (3 : Int32)) →
    s_K S118 a122 = 11 ∧
    vp_in (3 : Int32) (s_N S118 a122) ∧
    ∀ S130 : sT, S130 = s_sB S118 a122 (Int32.toNatClampNeg (3 : Int32)) x128 →
    w_X8_vote_b209 x0 x1 x3 S130  Q)))))) ∧
    (¬ x5 ≤ x6 → s_K S x4 = 13 ∧
    vp_in x6 (s_N S x4) ∧
    ∃ a132 : Nat, s_P S x4 (Int32.toNatClampNeg x6) = some a132 ∧
    s_K S a132 = 11 ∧
    vp_in (0 : Int32) (s_N S a132) ∧
    ∀ x134 : Int32, x134 = s_B S a132 (Int32.toNatClampNeg (0 : Int32)) →
    ((¬ x134 = x1 → w_X8_vote_b140 x0 x1 x2 x4 x5 x6 x3 S (fun x0 x1 x2 x3 x4 x5 x6 S => w_X8_vote_b85  Q n x0 x1 x2 x3 x4 x5 x6 S) Q) ∧
    (x134 = x1 → vp_in (8 : Int32) (s_N S a132) ∧
    ∀ x137 : Int32, x137 = s_B S a132 (Int32.toNatClampNeg (8 : Int32)) →
    (((30 : Int32) < x137 → w_X8_vote_b136 x0 x1 x2 x4 x5 x6 x3 S (fun x0 x1 x2 x3 x4 x5 x6 S => w_X8_vote_b85  Q n x0 x1 x2 x3 x4 x5 x6 S) Q) ∧
    (¬ (30 : Int32) < x137 → ((x2 = (-1 : Int32) → w_X8_vote_b140 x0 x1 x2 x4 x5 x6 x3 S (fun x0 x1 x2 x3 x4 x5 x6 S => w_X8_vote_b85  Q n x0 x1 x2 x3 x4 x5 x6 S) Q) ∧
    (¬ x2 = (-1 : Int32) → s_K S x0 = 10 ∧
    w_X8_rate x0 x2 S (fun x141 S140 =>
    s_K S140 x0 = 10 ∧
    w_X8_rate x0 x1 S140 (fun x143 S142 =>
    ((x141 ≤ x143 → w_X8_vote_b140 x0 x1 x2 x4 x5 x6 x3 S142 (fun x0 x1 x2 x3 x4 x5 x6 S => w_X8_vote_b85  Q n x0 x1 x2 x3 x4 x5 x6 S) Q) ∧
    (¬ x141 ≤ x143 → w_X8_vote_b136 x0 x1 x2 x4 x5 x6 x3 S142 (fun x0 x1 x2 x3 x4 x5 x6 S => w_X8_vote_b85  Q n x0 x1 x2 x3 x4 x5 x6 S) Q))))))))))))
def w_X8_vote_b25  (Q : Int32 → sT → Prop) : Nat → Nat → Int32 → Int32 → Int32 → sT → Prop
  | 0 => fun _ _ _ _ _ => False
  | n + 1 => fun x0 x1 x2 x3 S =>
∀ x101 : Int32, x101 = x1 + (1 : Int32) →
    ((x101 < x3 → s_K S x0 = 10 ∧
    ∃ a103 : Nat, s_R S 289 x0 = some a103 ∧
    s_K S a103 = 9 ∧
    ∃ a104 : Nat, s_R S 257 a103 = some a104 ∧
    s_K S a104 = 13 ∧
    ∀ x105 : Int32, x105 = nI (s_N S a104) →
    ∃ n : Nat, w_X8_vote_b85  Q n x0 x1 x2 (0 : Int32) a104 x105 (0 : Int32) S) ∧
    (¬ x101 < x3 → s_K S x0 = 10 ∧
    w_X8_isSociety x0 x3 S (fun x107 S106 =>
    ((x107 = 0 → w_X8_vote_b60 x0 x1 x2 x3 S106 (fun x0 x1 x2 x3 S => w_X8_vote_b25  Q n x0 x1 x2 x3 S) Q) ∧
    (¬ x107 = 0 → ((x2 = (-1 : Int32) → w_X8_vote_b58 x0 x1 x3 S106 (fun x0 x1 x2 x3 S => w_X8_vote_b25  Q n x0 x1 x2 x3 S) Q) ∧
    (¬ x2 = (-1 : Int32) → s_K S106 x0 = 10 ∧
    w_X8_rate x0 x3 S106 (fun x111 S110 =>
    s_K S110 x0 = 10 ∧
    w_X8_rate x0 x2 S110 (fun x113 S112 =>
    ((x111 ≤ x113 → w_X8_vote_b60 x0 x1 x2 x3 S112 (fun x0 x1 x2 x3 S => w_X8_vote_b25  Q n x0 x1 x2 x3 S) Q) ∧
    (¬ x111 ≤ x113 → w_X8_vote_b58 x0 x1 x3 S112 (fun x0 x1 x2 x3 S => w_X8_vote_b25  Q n x0 x1 x2 x3 S) Q)))))))))))
def w_X8_vote_b0 (x0 : Nat) (x1 : Int32) (S : sT)  (Q : Int32 → sT → Prop) : Prop :=
s_K S x0 = 10 ∧
    ∀ S101 : sT, S101 = s_sI S 288 x0 (0 : Int32) →
    w_X8_isSociety x0 x1 S101 (fun x103 S102 =>
    ((¬ x103 = 0 → ∀ x105 : Int32, x105 = x1 - (1 : Int32) →
    ∃ n : Nat, w_X8_vote_b25  Q n x0 x1 (-1 : Int32) x105 S102) ∧
    (x103 = 0 → s_K S102 x0 = 10 ∧
    w_X8_refuse x0 (1 : Int32) S102 (fun x107 S106 =>
    Q x107 S106))))
def w_X8_vote (x0 : Nat) (x1 : Int32) (S : sT) (Q : Int32 → sT → Prop) : Prop := w_X8_vote_b0 x0 x1 S Q
def r_X8_vote : Room := x_rm 2 47 0 0
theorem b_X8_vote : x_BV yX8_vote cX8_vote 8 (some .int) 1 := ⟨q_30_14, q_30_12, q_30_13, q_1_5, by decide +kernel⟩
set_option maxHeartbeats 4000000 in
theorem t_X8_vote_b60 (C : x_C p s m args c cX8_vote RX8 gg) (hml : c.maxLocals = 8) (hr : meth.sig.returnType = (some .int)) (hlocks : meth.locks = false) {x0 : Nat} {x1 : Int32} {x2 : Int32} {x3 : Int32} {kk25 : Nat → Int32 → Int32 → Int32 → sT → Prop} {S : sT} (hk25 : ∀ (x0 : Nat) (x1 : Int32) (x2 : Int32) (x3 : Int32) (S : sT), kk25 x0 x1 x2 x3 S → x_X p l e r_X8_vote s m args below meth c gg 8 0 0 (MQ below (va_Qi Q (fun S1 t => s_Rep gg S1 t.heap) (s_A gg)) args s 0 0 (s_A gg)) 25 [(0, .ref x0), (1, .int x1), (2, .int x2), (3, .int x3)] [] S) {Q : Int32 → sT → Prop} (h : w_X8_vote_b60 x0 x1 x2 x3 S kk25 Q) : x_X p l e r_X8_vote s m args below meth c gg 8 0 0 (MQ below (va_Qi Q (fun S1 t => s_Rep gg S1 t.heap) (s_A gg)) args s 0 0 (s_A gg)) 60 [(0, .ref x0), (1, .int x1), (2, .int x2), (3, .int x3)] [] S := by
  unfold w_X8_vote_b60 at h
  obtain ⟨hx, hb, -⟩ := id C
  intro H locs ls hR hS hl
  obtain ⟨x101, ex101⟩ : ∃ z : Int32, z = x3 + 2 := ⟨_, rfl⟩
  replace h := h x101 ex101
  refine lv_iinc (v := x101) (lv' := [(3, .int x101), (0, .ref x0), (1, .int x1), (2, .int x2)]) hx hb dX8_vote_60 hl (k := 3) rfl (by rw [ex101]; rfl) (by decide) rfl (fun ls hl => ?_)
  refine lv_goto (tgt := 25) hx hb dX8_vote_63 (by decide) ?_
  exact hk25 x0 x1 x2 x101 S h H locs ls hR hS (lv_sub (l' := [(0, .ref x0), (1, .int x1), (2, .int x2), (3, .int x101)]) hl [1, 2, 3, 0] rfl)
set_option maxHeartbeats 4000000 in
theorem t_X8_vote_b58 (C : x_C p s m args c cX8_vote RX8 gg) (hml : c.maxLocals = 8) (hr : meth.sig.returnType = (some .int)) (hlocks : meth.locks = false) {x0 : Nat} {x1 : Int32} {x3 : Int32} {kk25 : Nat → Int32 → Int32 → Int32 → sT → Prop} {S : sT} (hk25 : ∀ (x0 : Nat) (x1 : Int32) (x2 : Int32) (x3 : Int32) (S : sT), kk25 x0 x1 x2 x3 S → x_X p l e r_X8_vote s m args below meth c gg 8 0 0 (MQ below (va_Qi Q (fun S1 t => s_Rep gg S1 t.heap) (s_A gg)) args s 0 0 (s_A gg)) 25 [(0, .ref x0), (1, .int x1), (2, .int x2), (3, .int x3)] [] S) {Q : Int32 → sT → Prop} (h : w_X8_vote_b58 x0 x1 x3 S kk25 Q) : x_X p l e r_X8_vote s m args below meth c gg 8 0 0 (MQ below (va_Qi Q (fun S1 t => s_Rep gg S1 t.heap) (s_A gg)) args s 0 0 (s_A gg)) 58 [(0, .ref x0), (1, .int x1), (3, .int x3)] [] S := by
  unfold w_X8_vote_b58 at h
  obtain ⟨hx, hb, -⟩ := id C
  intro H locs ls hR hS hl
  refine lv_iload_n hx hb dX8_vote_58 rfl (lv_at hl 2 rfl) ?_
  refine lv_istore_n (lv' := [(2, .int x3), (0, .ref x0), (1, .int x1), (3, .int x3)]) hx hb dX8_vote_59 rfl hl (by decide) rfl (fun ls hl => ?_)
  exact t_X8_vote_b60 C hml hr hlocks hk25 h H locs ls hR hS (lv_sub (l' := [(0, .ref x0), (1, .int x1), (2, .int x3), (3, .int x3)]) hl [1, 2, 0, 3] rfl)
set_option maxHeartbeats 4000000 in
theorem t_X8_vote_b209 (C : x_C p s m args c cX8_vote RX8 gg) (hml : c.maxLocals = 8) (hr : meth.sig.returnType = (some .int)) (hlocks : meth.locks = false) {x0 : Nat} {x1 : Int32} {x3 : Int32}  {S : sT}  {Q : Int32 → sT → Prop} (h : w_X8_vote_b209 x0 x1 x3 S  Q) : x_X p l e r_X8_vote s m args below meth c gg 8 0 0 (MQ below (va_Qi Q (fun S1 t => s_Rep gg S1 t.heap) (s_A gg)) args s 0 0 (s_A gg)) 209 [(0, .ref x0), (1, .int x1), (3, .int x3)] [] S := by
  unfold w_X8_vote_b209 at h
  obtain ⟨hx, hb, -⟩ := id C
  intro H locs ls hR hS hl
  refine lv_aload_n hx hb dX8_vote_209 rfl (lv_at hl 0 rfl) ?_
  obtain ⟨hK_x0, h⟩ := h
  refine x_g_289 C hR hK_x0 q_3_8 dX8_vote_210 ?_
  obtain ⟨a101, ea101, h⟩ := h
  refine x_some ea101 ?_
  obtain ⟨hK_a101, h⟩ := h
  refine x_gN_256 C hR hK_a101 ⟨rfl, C.2.2.2.2.2.2.1 _ (List.mem_of_getElem? (i := 2) rfl)⟩ dX8_vote_213 ?_
  obtain ⟨a102, ea102, h⟩ := h
  refine x_some ea102 ?_
  refine lv_iload_n hx hb dX8_vote_216 rfl (lv_at hl 1 rfl) ?_
  obtain ⟨hK_a102, h⟩ := h
  obtain ⟨hi103, a104, ea104, h⟩ := h
  refine x_aald13 C hR hK_a102 hi103 dX8_vote_217 ?_
  refine x_some ea104 ?_
  refine lv_bipush (v := 8) hx hb dX8_vote_218 (by decide) ?_
  refine lv_iconst (v := 0) hx hb dX8_vote_220 (by decide) ?_
  obtain ⟨hK_a104, h⟩ := h
  obtain ⟨hi105, h⟩ := h
  refine x_iast C hR hK_a104 hS hi105 dX8_vote_221 (fun H locs hR hS => ?_)
  obtain ⟨S106, eS106⟩ : ∃ z : sT, z = s_sB S a104 (Int32.toNatClampNeg (8 : Int32)) (0 : Int32) := ⟨_, rfl⟩
  rw [← eS106] at hR
  replace h := h S106 eS106
  have hK_x0 : s_K S106 x0 = 10 := by rw [eS106]; exact hK_x0
  have hK_a101 : s_K S106 a101 = 9 := by rw [eS106]; exact hK_a101
  have hK_a102 : s_K S106 a102 = 13 := by rw [eS106]; exact hK_a102
  have hK_a104 : s_K S106 a104 = 11 := by rw [eS106]; exact hK_a104
  refine lv_iload_n hx hb dX8_vote_222 rfl (lv_at hl 2 rfl) ?_
  exact W.iret (v := x3) hx hb hr (fun t ht hW => ⟨⟨x3, S106, rfl, h, x_rt ht hR⟩, hS.F ht⟩) hS.2.2 dX8_vote_223
set_option maxHeartbeats 4000000 in
theorem t_X8_vote_b141 (C : x_C p s m args c cX8_vote RX8 gg) (hml : c.maxLocals = 8) (hr : meth.sig.returnType = (some .int)) (hlocks : meth.locks = false) {x0 : Nat} {x1 : Int32} {x2 : Int32} {x4 : Nat} {x5 : Int32} {x6 : Int32} {y0 : Int32} {y1 : Int32} {kk85 : Nat → Int32 → Int32 → Int32 → Nat → Int32 → Int32 → sT → Prop} {S : sT} (hk85 : ∀ (x0 : Nat) (x1 : Int32) (x2 : Int32) (x3 : Int32) (x4 : Nat) (x5 : Int32) (x6 : Int32) (S : sT), kk85 x0 x1 x2 x3 x4 x5 x6 S → x_X p l e r_X8_vote s m args below meth c gg 8 0 0 (MQ below (va_Qi Q (fun S1 t => s_Rep gg S1 t.heap) (s_A gg)) args s 0 0 (s_A gg)) 85 [(0, .ref x0), (1, .int x1), (2, .int x2), (3, .int x3), (4, .ref x4), (5, .int x5), (6, .int x6)] [] S) {Q : Int32 → sT → Prop} (h : w_X8_vote_b141 x0 x1 x2 x4 x5 x6 y0 y1 S kk85 Q) : x_X p l e r_X8_vote s m args below meth c gg 8 0 0 (MQ below (va_Qi Q (fun S1 t => s_Rep gg S1 t.heap) (s_A gg)) args s 0 0 (s_A gg)) 141 [(0, .ref x0), (1, .int x1), (2, .int x2), (4, .ref x4), (5, .int x5), (6, .int x6)] [.int y0, .int y1] S := by
  unfold w_X8_vote_b141 at h
  obtain ⟨hx, hb, -⟩ := id C
  intro H locs ls hR hS hl
  refine lv_iadd hx hb dX8_vote_141 ?_
  refine lv_topi (fun x101 ex101 => ?_)
  replace h := h x101 ex101
  refine lv_istore_n (lv' := [(3, .int x101), (0, .ref x0), (1, .int x1), (2, .int x2), (4, .ref x4), (5, .int x5), (6, .int x6)]) hx hb dX8_vote_142 rfl hl (by decide) rfl (fun ls hl => ?_)
  obtain ⟨x102, ex102⟩ : ∃ z : Int32, z = x6 + 1 := ⟨_, rfl⟩
  replace h := h x102 ex102
  refine lv_iinc (v := x102) (lv' := [(6, .int x102), (3, .int x101), (0, .ref x0), (1, .int x1), (2, .int x2), (4, .ref x4), (5, .int x5)]) hx hb dX8_vote_143 hl (k := 6) rfl (by rw [ex102]; rfl) (by decide) rfl (fun ls hl => ?_)
  refine lv_goto (tgt := 85) hx hb dX8_vote_146 (by decide) ?_
  exact hk85 x0 x1 x2 x101 x4 x5 x102 S h H locs ls hR hS (lv_sub (l' := [(0, .ref x0), (1, .int x1), (2, .int x2), (3, .int x101), (4, .ref x4), (5, .int x5), (6, .int x102)]) hl [2, 3, 4, 1, 5, 6, 0] rfl)
set_option maxHeartbeats 4000000 in
theorem t_X8_vote_b140 (C : x_C p s m args c cX8_vote RX8 gg) (hml : c.maxLocals = 8) (hr : meth.sig.returnType = (some .int)) (hlocks : meth.locks = false) {x0 : Nat} {x1 : Int32} {x2 : Int32} {x4 : Nat} {x5 : Int32} {x6 : Int32} {y0 : Int32} {kk85 : Nat → Int32 → Int32 → Int32 → Nat → Int32 → Int32 → sT → Prop} {S : sT} (hk85 : ∀ (x0 : Nat) (x1 : Int32) (x2 : Int32) (x3 : Int32) (x4 : Nat) (x5 : Int32) (x6 : Int32) (S : sT), kk85 x0 x1 x2 x3 x4 x5 x6 S → x_X p l e r_X8_vote s m args below meth c gg 8 0 0 (MQ below (va_Qi Q (fun S1 t => s_Rep gg S1 t.heap) (s_A gg)) args s 0 0 (s_A gg)) 85 [(0, .ref x0), (1, .int x1), (2, .int x2), (3, .int x3), (4, .ref x4), (5, .int x5), (6, .int x6)] [] S) {Q : Int32 → sT → Prop} (h : w_X8_vote_b140 x0 x1 x2 x4 x5 x6 y0 S kk85 Q) : x_X p l e r_X8_vote s m args below meth c gg 8 0 0 (MQ below (va_Qi Q (fun S1 t => s_Rep gg S1 t.heap) (s_A gg)) args s 0 0 (s_A gg)) 140 [(0, .ref x0), (1, .int x1), (2, .int x2), (4, .ref x4), (5, .int x5), (6, .int x6)] [.int y0] S := by
  unfold w_X8_vote_b140 at h
  obtain ⟨hx, hb, -⟩ := id C
  intro H locs ls hR hS hl
  refine lv_iconst (v := 0) hx hb dX8_vote_140 (by decide) ?_
  exact t_X8_vote_b141 C hml hr hlocks hk85 h H locs ls hR hS (lv_sub (l' := [(0, .ref x0), (1, .int x1), (2, .int x2), (4, .ref x4), (5, .int x5), (6, .int x6)]) hl [0, 1, 2, 3, 4, 5] rfl)
set_option maxHeartbeats 4000000 in
theorem t_X8_vote_b136 (C : x_C p s m args c cX8_vote RX8 gg) (hml : c.maxLocals = 8) (hr : meth.sig.returnType = (some .int)) (hlocks : meth.locks = false) {x0 : Nat} {x1 : Int32} {x2 : Int32} {x4 : Nat} {x5 : Int32} {x6 : Int32} {y0 : Int32} {kk85 : Nat → Int32 → Int32 → Int32 → Nat → Int32 → Int32 → sT → Prop} {S : sT} (hk85 : ∀ (x0 : Nat) (x1 : Int32) (x2 : Int32) (x3 : Int32) (x4 : Nat) (x5 : Int32) (x6 : Int32) (S : sT), kk85 x0 x1 x2 x3 x4 x5 x6 S → x_X p l e r_X8_vote s m args below meth c gg 8 0 0 (MQ below (va_Qi Q (fun S1 t => s_Rep gg S1 t.heap) (s_A gg)) args s 0 0 (s_A gg)) 85 [(0, .ref x0), (1, .int x1), (2, .int x2), (3, .int x3), (4, .ref x4), (5, .int x5), (6, .int x6)] [] S) {Q : Int32 → sT → Prop} (h : w_X8_vote_b136 x0 x1 x2 x4 x5 x6 y0 S kk85 Q) : x_X p l e r_X8_vote s m args below meth c gg 8 0 0 (MQ below (va_Qi Q (fun S1 t => s_Rep gg S1 t.heap) (s_A gg)) args s 0 0 (s_A gg)) 136 [(0, .ref x0), (1, .int x1), (2, .int x2), (4, .ref x4), (5, .int x5), (6, .int x6)] [.int y0] S := by
  unfold w_X8_vote_b136 at h
  obtain ⟨hx, hb, -⟩ := id C
  intro H locs ls hR hS hl
  refine lv_iconst (v := 1) hx hb dX8_vote_136 (by decide) ?_
  refine lv_goto (tgt := 141) hx hb dX8_vote_137 (by decide) ?_
  exact t_X8_vote_b141 C hml hr hlocks hk85 h H locs ls hR hS (lv_sub (l' := [(0, .ref x0), (1, .int x1), (2, .int x2), (4, .ref x4), (5, .int x5), (6, .int x6)]) hl [0, 1, 2, 3, 4, 5] rfl)
set_option maxHeartbeats 4000000 in
theorem t_X8_vote_b85 (C : x_C p s m args c cX8_vote RX8 gg) (hml : c.maxLocals = 8) (hr : meth.sig.returnType = (some .int)) (hlocks : meth.locks = false)   {Q : Int32 → sT → Prop} : ∀ (n : Nat) (x0 : Nat) (x1 : Int32) (x2 : Int32) (x3 : Int32) (x4 : Nat) (x5 : Int32) (x6 : Int32) (S : sT), w_X8_vote_b85  Q n x0 x1 x2 x3 x4 x5 x6 S → x_X p l e r_X8_vote s m args below meth c gg 8 0 0 (MQ below (va_Qi Q (fun S1 t => s_Rep gg S1 t.heap) (s_A gg)) args s 0 0 (s_A gg)) 85 [(0, .ref x0), (1, .int x1), (2, .int x2), (3, .int x3), (4, .ref x4), (5, .int x5), (6, .int x6)] [] S := by
  obtain ⟨hx, hb, -⟩ := id C
  intro n
  induction n with
  | zero => intro x0 x1 x2 x3 x4 x5 x6 S h; exact absurd h id
  | succ n ih =>
    intro x0 x1 x2 x3 x4 x5 x6 S h H locs ls hR hS hl
    unfold w_X8_vote_b85 at h
    refine lv_iload hx hb dX8_vote_85 (lv_at hl 6 rfl) ?_
    refine lv_iload hx hb dX8_vote_87 (lv_at hl 5 rfl) ?_
    refine lv_icmp_ge (tgt := 149) hx hb dX8_vote_89 (by decide) (fun hc101 => ?_) (fun hc101 => ?_)
    · replace h := h.1 hc101
      refine lv_iconst (v := 2) hx hb dX8_vote_149 (by decide) ?_
      refine lv_iload_n hx hb dX8_vote_150 rfl (lv_at hl 3 rfl) ?_
      refine lv_imul hx hb dX8_vote_151 ?_
      refine lv_topi (fun x102 ex102 => ?_)
      replace h := h x102 ex102
      refine lv_aload_n hx hb dX8_vote_152 rfl (lv_at hl 0 rfl) ?_
      refine lv_iload_n hx hb dX8_vote_153 rfl (lv_at hl 1 rfl) ?_
      obtain ⟨hK_x0, h⟩ := h
      refine x_ki (x_runV (As := [.int x1]) (rest := [.int x102]) C hml hR hS (m_X8_size l gg x0 x1 S h) b_X8_size q_30_19 (by rw [hK_x0]; decide) (s_E_9 hK_x0) rfl rfl rfl rfl ⟨Nat.le_of_ble_eq_true rfl, Nat.le_of_ble_eq_true rfl⟩ rfl hl.1 (Nat.le_of_ble_eq_true rfl) dX8_vote_154 ⟨Nat.le_refl _, Nat.le_refl _⟩) hS (fun x104 S103 H locs h hR hS => ?_)
      refine lv_icmp_le (tgt := 209) hx hb dX8_vote_157 (by decide) (fun hc105 => ?_) (fun hc105 => ?_)
      · replace h := h.1 hc105
        exact t_X8_vote_b209 C hml hr hlocks  h H locs ls hR hS (lv_sub (l' := [(0, .ref x0), (1, .int x1), (3, .int x3)]) hl [0, 1, 3] rfl)
      · replace h := h.2 hc105
        refine lv_iload_n hx hb dX8_vote_160 rfl (lv_at hl 2 rfl) ?_
        refine lv_iconst (v := (-1)) hx hb dX8_vote_161 (by decide) ?_
        refine lv_icmp_eq (tgt := 209) hx hb dX8_vote_162 (by decide) (fun hc106 => ?_) (fun hc106 => ?_)
        · replace h := h.1 hc106
          exact t_X8_vote_b209 C hml hr hlocks  h H locs ls hR hS (lv_sub (l' := [(0, .ref x0), (1, .int x1), (3, .int x3)]) hl [0, 1, 3] rfl)
        · replace h := h.2 hc106
          refine lv_aload_n hx hb dX8_vote_165 rfl (lv_at hl 0 rfl) ?_
          obtain ⟨hK_x0, h⟩ := h
          refine x_g_289 C hR hK_x0 q_3_8 dX8_vote_166 ?_
          obtain ⟨a107, ea107, h⟩ := h
          refine x_some ea107 ?_
          obtain ⟨hK_a107, h⟩ := h
          refine x_gN_256 C hR hK_a107 ⟨rfl, C.2.2.2.2.2.2.1 _ (List.mem_of_getElem? (i := 2) rfl)⟩ dX8_vote_169 ?_
          obtain ⟨a108, ea108, h⟩ := h
          refine x_some ea108 ?_
          refine lv_iload_n hx hb dX8_vote_172 rfl (lv_at hl 1 rfl) ?_
          obtain ⟨hK_a108, h⟩ := h
          obtain ⟨hi109, a110, ea110, h⟩ := h
          refine x_aald13 C hR hK_a108 hi109 dX8_vote_173 ?_
          refine x_some ea110 ?_
          refine lv_iconst (v := 2) hx hb dX8_vote_174 (by decide) ?_
          refine lv_aload_n hx hb dX8_vote_175 rfl (lv_at hl 0 rfl) ?_
          refine x_g_289 C hR hK_x0 q_3_8 dX8_vote_176 ?_
          obtain ⟨a111, ea111, h⟩ := h
          refine x_some ea111 ?_
          obtain ⟨hK_a111, h⟩ := h
          refine x_gN_256 C hR hK_a111 ⟨rfl, C.2.2.2.2.2.2.1 _ (List.mem_of_getElem? (i := 2) rfl)⟩ dX8_vote_179 ?_
          obtain ⟨a112, ea112, h⟩ := h
          refine x_some ea112 ?_
          refine lv_iload_n hx hb dX8_vote_182 rfl (lv_at hl 2 rfl) ?_
          obtain ⟨hK_a112, h⟩ := h
          obtain ⟨hi113, a114, ea114, h⟩ := h
          refine x_aald13 C hR hK_a112 hi113 dX8_vote_183 ?_
          refine x_some ea114 ?_
          refine lv_iconst (v := 2) hx hb dX8_vote_184 (by decide) ?_
          obtain ⟨hK_a114, h⟩ := h
          obtain ⟨hi115, h⟩ := h
          refine x_iald C hR hK_a114 hi115 dX8_vote_185 ?_
          refine lv_topi (fun x116 ex116 => ?_)
          replace h := h x116 ex116
          obtain ⟨hK_a110, h⟩ := h
          obtain ⟨hi117, h⟩ := h
          refine x_iast C hR hK_a110 hS hi117 dX8_vote_186 (fun H locs hR hS => ?_)
          obtain ⟨S118, eS118⟩ : ∃ z : sT, z = s_sB S103 a110 (Int32.toNatClampNeg (2 : Int32)) x116 := ⟨_, rfl⟩
          rw [← eS118] at hR
          replace h := h S118 eS118
          have hK_x0 : s_K S118 x0 = 10 := by rw [eS118]; exact hK_x0
          have hK_a107 : s_K S118 a107 = 9 := by rw [eS118]; exact hK_a107
          have hK_a108 : s_K S118 a108 = 13 := by rw [eS118]; exact hK_a108
          have hK_a111 : s_K S118 a111 = 9 := by rw [eS118]; exact hK_a111
          have hK_a112 : s_K S118 a112 = 13 := by rw [eS118]; exact hK_a112
          have hK_a114 : s_K S118 a114 = 11 := by rw [eS118]; exact hK_a114
          have hK_a110 : s_K S118 a110 = 11 := by rw [eS118]; exact hK_a110
          refine lv_aload_n hx hb dX8_vote_187 rfl (lv_at hl 0 rfl) ?_
          refine x_g_289 C hR hK_x0 q_3_8 dX8_vote_188 ?_
          obtain ⟨a119, ea119, h⟩ := h
          refine x_some ea119 ?_
          obtain ⟨hK_a119, h⟩ := h
          refine x_gN_256 C hR hK_a119 ⟨rfl, C.2.2.2.2.2.2.1 _ (List.mem_of_getElem? (i := 2) rfl)⟩ dX8_vote_191 ?_
          obtain ⟨a120, ea120, h⟩ := h
          refine x_some ea120 ?_
          refine lv_iload_n hx hb dX8_vote_194 rfl (lv_at hl 1 rfl) ?_
          obtain ⟨hK_a120, h⟩ := h
          obtain ⟨hi121, a122, ea122, h⟩ := h
          refine x_aald13 C hR hK_a120 hi121 dX8_vote_195 ?_
          refine x_some ea122 ?_
          refine lv_iconst (v := 3) hx hb dX8_vote_196 (by decide) ?_
          refine lv_aload_n hx hb dX8_vote_197 rfl (lv_at hl 0 rfl) ?_
          refine x_g_289 C hR hK_x0 q_3_8 dX8_vote_198 ?_
          obtain ⟨a123, ea123, h⟩ := h
          refine x_some ea123 ?_
          obtain ⟨hK_a123, h⟩ := h
          refine x_gN_256 C hR hK_a123 ⟨rfl, C.2.2.2.2.2.2.1 _ (List.mem_of_getElem? (i := 2) rfl)⟩ dX8_vote_201 ?_
          obtain ⟨a124, ea124, h⟩ := h
          refine x_some ea124 ?_
          refine lv_iload_n hx hb dX8_vote_204 rfl (lv_at hl 2 rfl) ?_
          obtain ⟨hK_a124, h⟩ := h
          obtain ⟨hi125, a126, ea126, h⟩ := h
          refine x_aald13 C hR hK_a124 hi125 dX8_vote_205 ?_
          refine x_some ea126 ?_
          refine lv_iconst (v := 3) hx hb dX8_vote_206 (by decide) ?_
          obtain ⟨hK_a126, h⟩ := h
          obtain ⟨hi127, h⟩ := h
          refine x_iald C hR hK_a126 hi127 dX8_vote_207 ?_
          refine lv_topi (fun x128 ex128 => ?_)
          replace h := h x128 ex128
          obtain ⟨hK_a122, h⟩ := h
          obtain ⟨hi129, h⟩ := h
          refine x_iast C hR hK_a122 hS hi129 dX8_vote_208 (fun H locs hR hS => ?_)
          obtain ⟨S130, eS130⟩ : ∃ z : sT, z = s_sB S118 a122 (Int32.toNatClampNeg (3 : Int32)) x128 := ⟨_, rfl⟩
          rw [← eS130] at hR
          replace h := h S130 eS130
          have hK_x0 : s_K S130 x0 = 10 := by rw [eS130]; exact hK_x0
          have hK_a107 : s_K S130 a107 = 9 := by rw [eS130]; exact hK_a107
          have hK_a108 : s_K S130 a108 = 13 := by rw [eS130]; exact hK_a108
          have hK_a111 : s_K S130 a111 = 9 := by rw [eS130]; exact hK_a111
          have hK_a112 : s_K S130 a112 = 13 := by rw [eS130]; exact hK_a112
          have hK_a114 : s_K S130 a114 = 11 := by rw [eS130]; exact hK_a114
          have hK_a110 : s_K S130 a110 = 11 := by rw [eS130]; exact hK_a110
          have hK_a119 : s_K S130 a119 = 9 := by rw [eS130]; exact hK_a119
          have hK_a120 : s_K S130 a120 = 13 := by rw [eS130]; exact hK_a120
          have hK_a123 : s_K S130 a123 = 9 := by rw [eS130]; exact hK_a123
          have hK_a124 : s_K S130 a124 = 13 := by rw [eS130]; exact hK_a124
          have hK_a126 : s_K S130 a126 = 11 := by rw [eS130]; exact hK_a126
          have hK_a122 : s_K S130 a122 = 11 := by rw [eS130]; exact hK_a122
          exact t_X8_vote_b209 C hml hr hlocks  h H locs ls hR hS (lv_sub (l' := [(0, .ref x0), (1, .int x1), (3, .int x3)]) hl [0, 1, 3] rfl)
    · replace h := h.2 hc101
      refine lv_aload hx hb dX8_vote_92 (lv_at hl 4 rfl) ?_
      refine lv_iload hx hb dX8_vote_94 (lv_at hl 6 rfl) ?_
      obtain ⟨hK_x4, h⟩ := h
      obtain ⟨hi131, a132, ea132, h⟩ := h
      refine x_aald13 C hR hK_x4 hi131 dX8_vote_96 ?_
      refine x_some ea132 ?_
      refine lv_astore (lv' := [(7, .ref a132), (0, .ref x0), (1, .int x1), (2, .int x2), (3, .int x3), (4, .ref x4), (5, .int x5), (6, .int x6)]) hx hb dX8_vote_97 hl (by decide) rfl (fun ls hl => ?_)
      refine lv_iload_n hx hb dX8_vote_99 rfl (lv_at hl 4 rfl) ?_
      refine lv_aload hx hb dX8_vote_100 (lv_at hl 0 rfl) ?_
      refine lv_iconst (v := 0) hx hb dX8_vote_102 (by decide) ?_
      obtain ⟨hK_a132, h⟩ := h
      obtain ⟨hi133, h⟩ := h
      refine x_iald C hR hK_a132 hi133 dX8_vote_103 ?_
      refine lv_topi (fun x134 ex134 => ?_)
      replace h := h x134 ex134
      refine lv_iload_n hx hb dX8_vote_104 rfl (lv_at hl 2 rfl) ?_
      refine lv_icmp_ne (tgt := 140) hx hb dX8_vote_105 (by decide) (fun hc135 => ?_) (fun hc135 => ?_)
      · replace h := h.1 hc135
        exact t_X8_vote_b140 C hml hr hlocks (fun x0 x1 x2 x3 x4 x5 x6 S h => ih x0 x1 x2 x3 x4 x5 x6 S h) h H locs ls hR hS (lv_sub (l' := [(0, .ref x0), (1, .int x1), (2, .int x2), (4, .ref x4), (5, .int x5), (6, .int x6)]) hl [1, 2, 3, 5, 6, 7] rfl)
      · replace h := h.2 hc135
        refine lv_aload hx hb dX8_vote_108 (lv_at hl 0 rfl) ?_
        refine lv_bipush (v := 8) hx hb dX8_vote_110 (by decide) ?_
        obtain ⟨hi136, h⟩ := h
        refine x_iald C hR hK_a132 hi136 dX8_vote_112 ?_
        refine lv_topi (fun x137 ex137 => ?_)
        replace h := h x137 ex137
        refine lv_bipush (v := 30) hx hb dX8_vote_113 (by decide) ?_
        refine lv_icmp_gt (tgt := 136) hx hb dX8_vote_115 (by decide) (fun hc138 => ?_) (fun hc138 => ?_)
        · replace h := h.1 hc138
          exact t_X8_vote_b136 C hml hr hlocks (fun x0 x1 x2 x3 x4 x5 x6 S h => ih x0 x1 x2 x3 x4 x5 x6 S h) h H locs ls hR hS (lv_sub (l' := [(0, .ref x0), (1, .int x1), (2, .int x2), (4, .ref x4), (5, .int x5), (6, .int x6)]) hl [1, 2, 3, 5, 6, 7] rfl)
        · replace h := h.2 hc138
          refine lv_iload_n hx hb dX8_vote_118 rfl (lv_at hl 3 rfl) ?_
          refine lv_iconst (v := (-1)) hx hb dX8_vote_119 (by decide) ?_
          refine lv_icmp_eq (tgt := 140) hx hb dX8_vote_120 (by decide) (fun hc139 => ?_) (fun hc139 => ?_)
          · replace h := h.1 hc139
            exact t_X8_vote_b140 C hml hr hlocks (fun x0 x1 x2 x3 x4 x5 x6 S h => ih x0 x1 x2 x3 x4 x5 x6 S h) h H locs ls hR hS (lv_sub (l' := [(0, .ref x0), (1, .int x1), (2, .int x2), (4, .ref x4), (5, .int x5), (6, .int x6)]) hl [1, 2, 3, 5, 6, 7] rfl)
          · replace h := h.2 hc139
            refine lv_aload_n hx hb dX8_vote_123 rfl (lv_at hl 1 rfl) ?_
            refine lv_iload_n hx hb dX8_vote_124 rfl (lv_at hl 3 rfl) ?_
            obtain ⟨hK_x0, h⟩ := h
            refine x_ki (x_runV (As := [.int x2]) (rest := [.int x3]) C hml hR hS (m_X8_rate l gg x0 x2 S h) b_X8_rate q_30_15 (by rw [hK_x0]; decide) (s_E_9 hK_x0) rfl rfl rfl rfl ⟨Nat.le_of_ble_eq_true rfl, Nat.le_of_ble_eq_true rfl⟩ rfl hl.1 (Nat.le_of_ble_eq_true rfl) dX8_vote_125 ⟨Nat.le_refl _, Nat.le_refl _⟩) hS (fun x141 S140 H locs h hR hS => ?_)
            refine lv_aload_n hx hb dX8_vote_128 rfl (lv_at hl 1 rfl) ?_
            refine lv_iload_n hx hb dX8_vote_129 rfl (lv_at hl 2 rfl) ?_
            obtain ⟨hK_x0, h⟩ := h
            refine x_ki (x_runV (As := [.int x1]) (rest := [.int x141, .int x3]) C hml hR hS (m_X8_rate l gg x0 x1 S140 h) b_X8_rate q_30_15 (by rw [hK_x0]; decide) (s_E_9 hK_x0) rfl rfl rfl rfl ⟨Nat.le_of_ble_eq_true rfl, Nat.le_of_ble_eq_true rfl⟩ rfl hl.1 (Nat.le_of_ble_eq_true rfl) dX8_vote_130 ⟨Nat.le_refl _, Nat.le_refl _⟩) hS (fun x143 S142 H locs h hR hS => ?_)
            refine lv_icmp_le (tgt := 140) hx hb dX8_vote_133 (by decide) (fun hc144 => ?_) (fun hc144 => ?_)
            · replace h := h.1 hc144
              exact t_X8_vote_b140 C hml hr hlocks (fun x0 x1 x2 x3 x4 x5 x6 S h => ih x0 x1 x2 x3 x4 x5 x6 S h) h H locs ls hR hS (lv_sub (l' := [(0, .ref x0), (1, .int x1), (2, .int x2), (4, .ref x4), (5, .int x5), (6, .int x6)]) hl [1, 2, 3, 5, 6, 7] rfl)
            · replace h := h.2 hc144
              exact t_X8_vote_b136 C hml hr hlocks (fun x0 x1 x2 x3 x4 x5 x6 S h => ih x0 x1 x2 x3 x4 x5 x6 S h) h H locs ls hR hS (lv_sub (l' := [(0, .ref x0), (1, .int x1), (2, .int x2), (4, .ref x4), (5, .int x5), (6, .int x6)]) hl [1, 2, 3, 5, 6, 7] rfl)
set_option maxHeartbeats 4000000 in
theorem t_X8_vote_b25 (C : x_C p s m args c cX8_vote RX8 gg) (hml : c.maxLocals = 8) (hr : meth.sig.returnType = (some .int)) (hlocks : meth.locks = false)   {Q : Int32 → sT → Prop} : ∀ (n : Nat) (x0 : Nat) (x1 : Int32) (x2 : Int32) (x3 : Int32) (S : sT), w_X8_vote_b25  Q n x0 x1 x2 x3 S → x_X p l e r_X8_vote s m args below meth c gg 8 0 0 (MQ below (va_Qi Q (fun S1 t => s_Rep gg S1 t.heap) (s_A gg)) args s 0 0 (s_A gg)) 25 [(0, .ref x0), (1, .int x1), (2, .int x2), (3, .int x3)] [] S := by
  obtain ⟨hx, hb, -⟩ := id C
  intro n
  induction n with
  | zero => intro x0 x1 x2 x3 S h; exact absurd h id
  | succ n ih =>
    intro x0 x1 x2 x3 S h H locs ls hR hS hl
    unfold w_X8_vote_b25 at h
    refine lv_iload_n hx hb dX8_vote_25 rfl (lv_at hl 3 rfl) ?_
    refine lv_iload_n hx hb dX8_vote_26 rfl (lv_at hl 1 rfl) ?_
    refine lv_iconst (v := 1) hx hb dX8_vote_27 (by decide) ?_
    refine lv_iadd hx hb dX8_vote_28 ?_
    refine lv_topi (fun x101 ex101 => ?_)
    replace h := h x101 ex101
    refine lv_icmp_gt (tgt := 66) hx hb dX8_vote_29 (by decide) (fun hc102 => ?_) (fun hc102 => ?_)
    · replace h := h.1 hc102
      refine lv_iconst (v := 0) hx hb dX8_vote_66 (by decide) ?_
      refine lv_istore_n (lv' := [(3, .int (0 : Int32)), (0, .ref x0), (1, .int x1), (2, .int x2)]) hx hb dX8_vote_67 rfl hl (by decide) rfl (fun ls hl => ?_)
      refine lv_aload_n hx hb dX8_vote_68 rfl (lv_at hl 1 rfl) ?_
      obtain ⟨hK_x0, h⟩ := h
      refine x_g_289 C hR hK_x0 q_3_8 dX8_vote_69 ?_
      obtain ⟨a103, ea103, h⟩ := h
      refine x_some ea103 ?_
      obtain ⟨hK_a103, h⟩ := h
      refine x_gN_257 C hR hK_a103 ⟨rfl, C.2.2.2.2.2.2.1 _ (List.mem_of_getElem? (i := 1) rfl)⟩ dX8_vote_72 ?_
      obtain ⟨a104, ea104, h⟩ := h
      refine x_some ea104 ?_
      refine lv_astore (lv' := [(4, .ref a104), (3, .int (0 : Int32)), (0, .ref x0), (1, .int x1), (2, .int x2)]) hx hb dX8_vote_75 hl (by decide) rfl (fun ls hl => ?_)
      refine lv_aload hx hb dX8_vote_77 (lv_at hl 0 rfl) ?_
      obtain ⟨hK_a104, h⟩ := h
      refine x_alen13 C hR hK_a104 dX8_vote_79 ?_
      refine lv_topi (fun x105 ex105 => ?_)
      replace h := h x105 ex105
      refine lv_istore (lv' := [(5, .int x105), (4, .ref a104), (3, .int (0 : Int32)), (0, .ref x0), (1, .int x1), (2, .int x2)]) hx hb dX8_vote_80 hl (by decide) rfl (fun ls hl => ?_)
      refine lv_iconst (v := 0) hx hb dX8_vote_82 (by decide) ?_
      refine lv_istore (lv' := [(6, .int (0 : Int32)), (5, .int x105), (4, .ref a104), (3, .int (0 : Int32)), (0, .ref x0), (1, .int x1), (2, .int x2)]) hx hb dX8_vote_83 hl (by decide) rfl (fun ls hl => ?_)
      obtain ⟨n9, h⟩ := h
      exact t_X8_vote_b85 C hml hr hlocks  n9 x0 x1 x2 (0 : Int32) a104 x105 (0 : Int32) S h H locs ls hR hS (lv_sub (l' := [(0, .ref x0), (1, .int x1), (2, .int x2), (3, .int (0 : Int32)), (4, .ref a104), (5, .int x105), (6, .int (0 : Int32))]) hl [4, 5, 6, 3, 2, 1, 0] rfl)
    · replace h := h.2 hc102
      refine lv_aload_n hx hb dX8_vote_32 rfl (lv_at hl 0 rfl) ?_
      refine lv_iload_n hx hb dX8_vote_33 rfl (lv_at hl 3 rfl) ?_
      obtain ⟨hK_x0, h⟩ := h
      refine x_ki (x_runV (As := [.int x3]) (rest := []) C hml hR hS (m_X8_isSociety l gg x0 x3 S h) b_X8_isSociety q_12_10 (by rw [hK_x0]; decide) (s_E_9 hK_x0) rfl rfl rfl rfl ⟨Nat.le_of_ble_eq_true rfl, Nat.le_of_ble_eq_true rfl⟩ rfl hl.1 (Nat.le_of_ble_eq_true rfl) dX8_vote_34 ⟨Nat.le_refl _, Nat.le_refl _⟩) hS (fun x107 S106 H locs h hR hS => ?_)
      refine lv_if_eq (tgt := 60) hx hb dX8_vote_37 (by decide) (fun hc108 => ?_) (fun hc108 => ?_)
      · replace h := h.1 hc108
        exact t_X8_vote_b60 C hml hr hlocks (fun x0 x1 x2 x3 S h => ih x0 x1 x2 x3 S h) h H locs ls hR hS (lv_sub (l' := [(0, .ref x0), (1, .int x1), (2, .int x2), (3, .int x3)]) hl [0, 1, 2, 3] rfl)
      · replace h := h.2 hc108
        refine lv_iload_n hx hb dX8_vote_40 rfl (lv_at hl 2 rfl) ?_
        refine lv_iconst (v := (-1)) hx hb dX8_vote_41 (by decide) ?_
        refine lv_icmp_eq (tgt := 58) hx hb dX8_vote_42 (by decide) (fun hc109 => ?_) (fun hc109 => ?_)
        · replace h := h.1 hc109
          exact t_X8_vote_b58 C hml hr hlocks (fun x0 x1 x2 x3 S h => ih x0 x1 x2 x3 S h) h H locs ls hR hS (lv_sub (l' := [(0, .ref x0), (1, .int x1), (3, .int x3)]) hl [0, 1, 3] rfl)
        · replace h := h.2 hc109
          refine lv_aload_n hx hb dX8_vote_45 rfl (lv_at hl 0 rfl) ?_
          refine lv_iload_n hx hb dX8_vote_46 rfl (lv_at hl 3 rfl) ?_
          obtain ⟨hK_x0, h⟩ := h
          refine x_ki (x_runV (As := [.int x3]) (rest := []) C hml hR hS (m_X8_rate l gg x0 x3 S106 h) b_X8_rate q_30_15 (by rw [hK_x0]; decide) (s_E_9 hK_x0) rfl rfl rfl rfl ⟨Nat.le_of_ble_eq_true rfl, Nat.le_of_ble_eq_true rfl⟩ rfl hl.1 (Nat.le_of_ble_eq_true rfl) dX8_vote_47 ⟨Nat.le_refl _, Nat.le_refl _⟩) hS (fun x111 S110 H locs h hR hS => ?_)
          refine lv_aload_n hx hb dX8_vote_50 rfl (lv_at hl 0 rfl) ?_
          refine lv_iload_n hx hb dX8_vote_51 rfl (lv_at hl 2 rfl) ?_
          obtain ⟨hK_x0, h⟩ := h
          refine x_ki (x_runV (As := [.int x2]) (rest := [.int x111]) C hml hR hS (m_X8_rate l gg x0 x2 S110 h) b_X8_rate q_30_15 (by rw [hK_x0]; decide) (s_E_9 hK_x0) rfl rfl rfl rfl ⟨Nat.le_of_ble_eq_true rfl, Nat.le_of_ble_eq_true rfl⟩ rfl hl.1 (Nat.le_of_ble_eq_true rfl) dX8_vote_52 ⟨Nat.le_refl _, Nat.le_refl _⟩) hS (fun x113 S112 H locs h hR hS => ?_)
          refine lv_icmp_le (tgt := 60) hx hb dX8_vote_55 (by decide) (fun hc114 => ?_) (fun hc114 => ?_)
          · replace h := h.1 hc114
            exact t_X8_vote_b60 C hml hr hlocks (fun x0 x1 x2 x3 S h => ih x0 x1 x2 x3 S h) h H locs ls hR hS (lv_sub (l' := [(0, .ref x0), (1, .int x1), (2, .int x2), (3, .int x3)]) hl [0, 1, 2, 3] rfl)
          · replace h := h.2 hc114
            exact t_X8_vote_b58 C hml hr hlocks (fun x0 x1 x2 x3 S h => ih x0 x1 x2 x3 S h) h H locs ls hR hS (lv_sub (l' := [(0, .ref x0), (1, .int x1), (3, .int x3)]) hl [0, 1, 3] rfl)
set_option maxHeartbeats 4000000 in
theorem t_X8_vote_b0 (C : x_C p s m args c cX8_vote RX8 gg) (hml : c.maxLocals = 8) (hr : meth.sig.returnType = (some .int)) (hlocks : meth.locks = false) {x0 : Nat} {x1 : Int32}  {S : sT}  {Q : Int32 → sT → Prop} (h : w_X8_vote_b0 x0 x1 S  Q) : x_X p l e r_X8_vote s m args below meth c gg 8 0 0 (MQ below (va_Qi Q (fun S1 t => s_Rep gg S1 t.heap) (s_A gg)) args s 0 0 (s_A gg)) 0 [(0, .ref x0), (1, .int x1)] [] S := by
  unfold w_X8_vote_b0 at h
  obtain ⟨hx, hb, -⟩ := id C
  intro H locs ls hR hS hl
  refine lv_aload_n hx hb dX8_vote_0 rfl (lv_at hl 0 rfl) ?_
  refine lv_iconst (v := 0) hx hb dX8_vote_1 (by decide) ?_
  obtain ⟨hK_x0, h⟩ := h
  refine x_p_288 (v := (0 : Int32)) C hR hK_x0 hS q_8_1 dX8_vote_2 (fun H locs hR hS => ?_)
  obtain ⟨S101, eS101⟩ : ∃ z : sT, z = s_sI S 288 x0 (0 : Int32) := ⟨_, rfl⟩
  rw [← eS101] at hR
  replace h := h S101 eS101
  have hK_x0 : s_K S101 x0 = 10 := by rw [eS101]; exact hK_x0
  refine lv_aload_n hx hb dX8_vote_5 rfl (lv_at hl 0 rfl) ?_
  refine lv_iload_n hx hb dX8_vote_6 rfl (lv_at hl 1 rfl) ?_
  refine x_ki (x_runV (As := [.int x1]) (rest := []) C hml hR hS (m_X8_isSociety l gg x0 x1 S101 h) b_X8_isSociety q_12_10 (by rw [hK_x0]; decide) (s_E_9 hK_x0) rfl rfl rfl rfl ⟨Nat.le_of_ble_eq_true rfl, Nat.le_of_ble_eq_true rfl⟩ rfl hl.1 (Nat.le_of_ble_eq_true rfl) dX8_vote_7 ⟨Nat.le_refl _, Nat.le_refl _⟩) hS (fun x103 S102 H locs h hR hS => ?_)
  refine lv_if_ne (tgt := 19) hx hb dX8_vote_10 (by decide) (fun hc104 => ?_) (fun hc104 => ?_)
  · replace h := h.1 hc104
    refine lv_iconst (v := (-1)) hx hb dX8_vote_19 (by decide) ?_
    refine lv_istore_n (lv' := [(2, .int (-1 : Int32)), (0, .ref x0), (1, .int x1)]) hx hb dX8_vote_20 rfl hl (by decide) rfl (fun ls hl => ?_)
    refine lv_iload_n hx hb dX8_vote_21 rfl (lv_at hl 2 rfl) ?_
    refine lv_iconst (v := 1) hx hb dX8_vote_22 (by decide) ?_
    refine lv_isub hx hb dX8_vote_23 ?_
    refine lv_topi (fun x105 ex105 => ?_)
    replace h := h x105 ex105
    refine lv_istore_n (lv' := [(3, .int x105), (2, .int (-1 : Int32)), (0, .ref x0), (1, .int x1)]) hx hb dX8_vote_24 rfl hl (by decide) rfl (fun ls hl => ?_)
    obtain ⟨n9, h⟩ := h
    exact t_X8_vote_b25 C hml hr hlocks  n9 x0 x1 (-1 : Int32) x105 S102 h H locs ls hR hS (lv_sub (l' := [(0, .ref x0), (1, .int x1), (2, .int (-1 : Int32)), (3, .int x105)]) hl [2, 3, 1, 0] rfl)
  · replace h := h.2 hc104
    refine lv_aload_n hx hb dX8_vote_13 rfl (lv_at hl 0 rfl) ?_
    refine lv_iconst (v := 1) hx hb dX8_vote_14 (by decide) ?_
    obtain ⟨hK_x0, h⟩ := h
    refine x_ki (x_runV (As := [.int (1 : Int32)]) (rest := []) C hml hR hS (m_X8_refuse l gg x0 (1 : Int32) S102 h) b_X8_refuse q_8_5 (by rw [hK_x0]; decide) (s_E_9 hK_x0) rfl rfl rfl rfl ⟨Nat.le_of_ble_eq_true rfl, Nat.le_of_ble_eq_true rfl⟩ rfl hl.1 (Nat.le_of_ble_eq_true rfl) dX8_vote_15 ⟨Nat.le_refl _, Nat.le_refl _⟩) hS (fun x107 S106 H locs h hR hS => ?_)
    exact W.iret (v := x107) hx hb hr (fun t ht hW => ⟨⟨x107, S106, rfl, h, x_rt ht hR⟩, hS.F ht⟩) hS.2.2 dX8_vote_18
theorem m_X8_vote (l : Launch) (gg : sG) (x0 : Nat) (x1 : Int32) (S : sT) {Q : Int32 → sT → Prop} (h : w_X8_vote x0 x1 S Q) : x_Mi l gg yX8_vote (x_ws yX8_vote cX8_vote 8 (some .int)) r_X8_vote [.ref x0, .int x1] S Q 0 0 := by
  refine x_ofW (cc := cX8_vote) (own := RX8) (by decide +kernel) rfl (Nat.le_of_ble_eq_true rfl) ?_
  intro p e s m args below meth c C hml hr hlocks hin ht H locs ls hR hS hl
  exact t_X8_vote_b0 C hml hr hlocks h H locs ls hR hS (lv_sub (l' := [(0, .ref x0), (1, .int x1)]) hl [0, 1] rfl)
def w_X8_ofFieldNow_b141 (x2 : Int32) (x3 : Nat) (S : sT)  (Q : Int32 → sT → Prop) : Prop :=
s_K S x3 = 11 ∧
    vp_in x2 (s_N S x3) ∧
    ∀ x102 : Int32, x102 = s_B S x3 (Int32.toNatClampNeg x2) →
    Q x102 S
def w_X8_ofFieldNow_b88 (y0 : Int32) (S : sT)  (Q : Int32 → sT → Prop) : Prop :=
Q y0 S
def w_X8_ofFieldNow_b102 (y0 : Int32) (S : sT)  (Q : Int32 → sT → Prop) : Prop :=
Q y0 S
def w_X8_ofFieldNow_b116 (y0 : Int32) (S : sT)  (Q : Int32 → sT → Prop) : Prop :=
Q y0 S
def w_X8_ofFieldNow_b22 (x0 : Nat) (x2 : Int32) (x3 : Nat) (y0 : Int32) (S : sT)  (Q : Int32 → sT → Prop) : Prop :=
((x2 = 5 → ((y0 = 0 → s_K S x3 = 11 ∧
    vp_in (5 : Int32) (s_N S x3) ∧
    ∀ x104 : Int32, x104 = s_B S x3 (Int32.toNatClampNeg (5 : Int32)) →
    w_X8_ofFieldNow_b88 x104 S  Q) ∧
    (¬ y0 = 0 → w_X8_ofFieldNow_b88 (-1 : Int32) S  Q))) ∧
    (x2 = 6 → ((y0 = 0 → s_K S x3 = 11 ∧
    vp_in (6 : Int32) (s_N S x3) ∧
    ∀ x108 : Int32, x108 = s_B S x3 (Int32.toNatClampNeg (6 : Int32)) →
    w_X8_ofFieldNow_b102 x108 S  Q) ∧
    (¬ y0 = 0 → w_X8_ofFieldNow_b102 (0 : Int32) S  Q))) ∧
    (x2 = 7 → ((y0 = 0 → s_K S x3 = 11 ∧
    vp_in (7 : Int32) (s_N S x3) ∧
    ∀ x112 : Int32, x112 = s_B S x3 (Int32.toNatClampNeg (7 : Int32)) →
    w_X8_ofFieldNow_b116 x112 S  Q) ∧
    (¬ y0 = 0 → w_X8_ofFieldNow_b116 (0 : Int32) S  Q))) ∧
    (x2 = 8 → w_X8_ofFieldNow_b141 x2 x3 S  Q) ∧
    (x2 = 9 → w_X8_ofFieldNow_b141 x2 x3 S  Q) ∧
    (x2 = 10 → s_K S x0 = 10 ∧
    ∃ a116 : Nat, s_R S 289 x0 = some a116 ∧
    s_K S a116 = 9 ∧
    w_X7_yield a116 x3 S (fun x118 S117 =>
    Q x118 S117)) ∧
    (x2 = 11 → s_K S x3 = 11 ∧
    vp_in (10 : Int32) (s_N S x3) ∧
    ∀ x121 : Int32, x121 = s_B S x3 (Int32.toNatClampNeg (10 : Int32)) →
    Q x121 S) ∧
    (x2 = 12 → s_K S x3 = 11 ∧
    vp_in (11 : Int32) (s_N S x3) ∧
    ∀ x124 : Int32, x124 = s_B S x3 (Int32.toNatClampNeg (11 : Int32)) →
    Q x124 S) ∧
    (x2 = 13 → s_K S x3 = 11 ∧
    vp_in (12 : Int32) (s_N S x3) ∧
    ∀ x127 : Int32, x127 = s_B S x3 (Int32.toNatClampNeg (12 : Int32)) →
    Q x127 S) ∧
    ((¬ x2 = 5 ∧ ¬ x2 = 6 ∧ ¬ x2 = 7 ∧ ¬ x2 = 8 ∧ ¬ x2 = 9 ∧ ¬ x2 = 10 ∧ ¬ x2 = 11 ∧ ¬ x2 = 12 ∧ ¬ x2 = 13) → w_X8_ofFieldNow_b141 x2 x3 S  Q))
def w_X8_ofFieldNow_b0 (x0 : Nat) (x1 : Int32) (x2 : Int32) (S : sT)  (Q : Int32 → sT → Prop) : Prop :=
s_K S x0 = 10 ∧
    ∃ a101 : Nat, s_R S 289 x0 = some a101 ∧
    s_K S a101 = 9 ∧
    ∃ a102 : Nat, s_R S 257 a101 = some a102 ∧
    s_K S a102 = 13 ∧
    vp_in x1 (s_N S a102) ∧
    ∃ a104 : Nat, s_P S a102 (Int32.toNatClampNeg x1) = some a104 ∧
    s_K S a104 = 11 ∧
    vp_in (4 : Int32) (s_N S a104) ∧
    ∀ x106 : Int32, x106 = s_B S a104 (Int32.toNatClampNeg (4 : Int32)) →
    (((2 : Int32) ≤ x106 → w_X8_ofFieldNow_b22 x0 x2 a104 (0 : Int32) S  Q) ∧
    (¬ (2 : Int32) ≤ x106 → w_X8_ofFieldNow_b22 x0 x2 a104 (1 : Int32) S  Q))
def w_X8_ofFieldNow (x0 : Nat) (x1 : Int32) (x2 : Int32) (S : sT) (Q : Int32 → sT → Prop) : Prop := w_X8_ofFieldNow_b0 x0 x1 x2 S Q
def r_X8_ofFieldNow : Room := x_rm 1 22 0 0
theorem b_X8_ofFieldNow : x_BV yX8_ofFieldNow cX8_ofFieldNow 5 (some .int) 2 := ⟨q_31_23, q_31_21, q_31_22, q_1_5, by decide +kernel⟩
set_option maxHeartbeats 4000000 in
theorem t_X8_ofFieldNow_b141 (C : x_C p s m args c cX8_ofFieldNow RX8 gg) (hml : c.maxLocals = 5) (hr : meth.sig.returnType = (some .int)) (hlocks : meth.locks = false) {x2 : Int32} {x3 : Nat}  {S : sT}  {Q : Int32 → sT → Prop} (h : w_X8_ofFieldNow_b141 x2 x3 S  Q) : x_X p l e r_X8_ofFieldNow s m args below meth c gg 5 0 0 (MQ below (va_Qi Q (fun S1 t => s_Rep gg S1 t.heap) (s_A gg)) args s 0 0 (s_A gg)) 141 [(2, .int x2), (3, .ref x3)] [] S := by
  unfold w_X8_ofFieldNow_b141 at h
  obtain ⟨hx, hb, -⟩ := id C
  intro H locs ls hR hS hl
  refine lv_aload_n hx hb dX8_ofFieldNow_141 rfl (lv_at hl 1 rfl) ?_
  refine lv_iload_n hx hb dX8_ofFieldNow_142 rfl (lv_at hl 0 rfl) ?_
  obtain ⟨hK_x3, h⟩ := h
  obtain ⟨hi101, h⟩ := h
  refine x_iald C hR hK_x3 hi101 dX8_ofFieldNow_143 ?_
  refine lv_topi (fun x102 ex102 => ?_)
  replace h := h x102 ex102
  exact W.iret (v := x102) hx hb hr (fun t ht hW => ⟨⟨x102, S, rfl, h, x_rt ht hR⟩, hS.F ht⟩) hS.2.2 dX8_ofFieldNow_144
set_option maxHeartbeats 4000000 in
theorem t_X8_ofFieldNow_b88 (C : x_C p s m args c cX8_ofFieldNow RX8 gg) (hml : c.maxLocals = 5) (hr : meth.sig.returnType = (some .int)) (hlocks : meth.locks = false) {y0 : Int32}  {S : sT}  {Q : Int32 → sT → Prop} (h : w_X8_ofFieldNow_b88 y0 S  Q) : x_X p l e r_X8_ofFieldNow s m args below meth c gg 5 0 0 (MQ below (va_Qi Q (fun S1 t => s_Rep gg S1 t.heap) (s_A gg)) args s 0 0 (s_A gg)) 88 [] [.int y0] S := by
  unfold w_X8_ofFieldNow_b88 at h
  obtain ⟨hx, hb, -⟩ := id C
  intro H locs ls hR hS hl
  exact W.iret (v := y0) hx hb hr (fun t ht hW => ⟨⟨y0, S, rfl, h, x_rt ht hR⟩, hS.F ht⟩) hS.2.2 dX8_ofFieldNow_88
set_option maxHeartbeats 4000000 in
theorem t_X8_ofFieldNow_b102 (C : x_C p s m args c cX8_ofFieldNow RX8 gg) (hml : c.maxLocals = 5) (hr : meth.sig.returnType = (some .int)) (hlocks : meth.locks = false) {y0 : Int32}  {S : sT}  {Q : Int32 → sT → Prop} (h : w_X8_ofFieldNow_b102 y0 S  Q) : x_X p l e r_X8_ofFieldNow s m args below meth c gg 5 0 0 (MQ below (va_Qi Q (fun S1 t => s_Rep gg S1 t.heap) (s_A gg)) args s 0 0 (s_A gg)) 102 [] [.int y0] S := by
  unfold w_X8_ofFieldNow_b102 at h
  obtain ⟨hx, hb, -⟩ := id C
  intro H locs ls hR hS hl
  exact W.iret (v := y0) hx hb hr (fun t ht hW => ⟨⟨y0, S, rfl, h, x_rt ht hR⟩, hS.F ht⟩) hS.2.2 dX8_ofFieldNow_102
set_option maxHeartbeats 4000000 in
theorem t_X8_ofFieldNow_b116 (C : x_C p s m args c cX8_ofFieldNow RX8 gg) (hml : c.maxLocals = 5) (hr : meth.sig.returnType = (some .int)) (hlocks : meth.locks = false) {y0 : Int32}  {S : sT}  {Q : Int32 → sT → Prop} (h : w_X8_ofFieldNow_b116 y0 S  Q) : x_X p l e r_X8_ofFieldNow s m args below meth c gg 5 0 0 (MQ below (va_Qi Q (fun S1 t => s_Rep gg S1 t.heap) (s_A gg)) args s 0 0 (s_A gg)) 116 [] [.int y0] S := by
  unfold w_X8_ofFieldNow_b116 at h
  obtain ⟨hx, hb, -⟩ := id C
  intro H locs ls hR hS hl
  exact W.iret (v := y0) hx hb hr (fun t ht hW => ⟨⟨y0, S, rfl, h, x_rt ht hR⟩, hS.F ht⟩) hS.2.2 dX8_ofFieldNow_116
set_option maxHeartbeats 4000000 in
theorem t_X8_ofFieldNow_b22 (C : x_C p s m args c cX8_ofFieldNow RX8 gg) (hml : c.maxLocals = 5) (hr : meth.sig.returnType = (some .int)) (hlocks : meth.locks = false) {x0 : Nat} {x2 : Int32} {x3 : Nat} {y0 : Int32}  {S : sT}  {Q : Int32 → sT → Prop} (h : w_X8_ofFieldNow_b22 x0 x2 x3 y0 S  Q) : x_X p l e r_X8_ofFieldNow s m args below meth c gg 5 0 0 (MQ below (va_Qi Q (fun S1 t => s_Rep gg S1 t.heap) (s_A gg)) args s 0 0 (s_A gg)) 22 [(0, .ref x0), (2, .int x2), (3, .ref x3)] [.int y0] S := by
  unfold w_X8_ofFieldNow_b22 at h
  obtain ⟨hx, hb, -⟩ := id C
  intro H locs ls hR hS hl
  refine lv_istore (lv' := [(4, .int y0), (0, .ref x0), (2, .int x2), (3, .ref x3)]) hx hb dX8_ofFieldNow_22 hl (by decide) rfl (fun ls hl => ?_)
  refine lv_iload_n hx hb dX8_ofFieldNow_24 rfl (lv_at hl 2 rfl) ?_
  by_cases hc101 : x2 = 5
  · have h := h.1 hc101
    refine lv_tableIn (off := 51) (tgt := 76) hx hb dX8_ofFieldNow_25 (by rw [hc101]; decide) (by rw [hc101]; decide) (by rw [hc101]; rfl) (by decide) ?_
    refine lv_iload hx hb dX8_ofFieldNow_76 (lv_at hl 0 rfl) ?_
    refine lv_if_eq (tgt := 85) hx hb dX8_ofFieldNow_78 (by decide) (fun hc102 => ?_) (fun hc102 => ?_)
    · replace h := h.1 hc102
      refine lv_aload_n hx hb dX8_ofFieldNow_85 rfl (lv_at hl 3 rfl) ?_
      refine lv_iconst (v := 5) hx hb dX8_ofFieldNow_86 (by decide) ?_
      obtain ⟨hK_x3, h⟩ := h
      obtain ⟨hi103, h⟩ := h
      refine x_iald C hR hK_x3 hi103 dX8_ofFieldNow_87 ?_
      refine lv_topi (fun x104 ex104 => ?_)
      replace h := h x104 ex104
      exact t_X8_ofFieldNow_b88 C hml hr hlocks  h H locs ls hR hS (lv_sub (l' := []) hl [] rfl)
    · replace h := h.2 hc102
      refine lv_iconst (v := (-1)) hx hb dX8_ofFieldNow_81 (by decide) ?_
      refine lv_goto (tgt := 88) hx hb dX8_ofFieldNow_82 (by decide) ?_
      exact t_X8_ofFieldNow_b88 C hml hr hlocks  h H locs ls hR hS (lv_sub (l' := []) hl [] rfl)
  · by_cases hc105 : x2 = 6
    · have h := h.2.1 hc105
      refine lv_tableIn (off := 64) (tgt := 89) hx hb dX8_ofFieldNow_25 (by rw [hc105]; decide) (by rw [hc105]; decide) (by rw [hc105]; rfl) (by decide) ?_
      refine lv_iload hx hb dX8_ofFieldNow_89 (lv_at hl 0 rfl) ?_
      refine lv_if_eq (tgt := 98) hx hb dX8_ofFieldNow_91 (by decide) (fun hc106 => ?_) (fun hc106 => ?_)
      · replace h := h.1 hc106
        refine lv_aload_n hx hb dX8_ofFieldNow_98 rfl (lv_at hl 3 rfl) ?_
        refine lv_bipush (v := 6) hx hb dX8_ofFieldNow_99 (by decide) ?_
        obtain ⟨hK_x3, h⟩ := h
        obtain ⟨hi107, h⟩ := h
        refine x_iald C hR hK_x3 hi107 dX8_ofFieldNow_101 ?_
        refine lv_topi (fun x108 ex108 => ?_)
        replace h := h x108 ex108
        exact t_X8_ofFieldNow_b102 C hml hr hlocks  h H locs ls hR hS (lv_sub (l' := []) hl [] rfl)
      · replace h := h.2 hc106
        refine lv_iconst (v := 0) hx hb dX8_ofFieldNow_94 (by decide) ?_
        refine lv_goto (tgt := 102) hx hb dX8_ofFieldNow_95 (by decide) ?_
        exact t_X8_ofFieldNow_b102 C hml hr hlocks  h H locs ls hR hS (lv_sub (l' := []) hl [] rfl)
    · by_cases hc109 : x2 = 7
      · have h := h.2.2.1 hc109
        refine lv_tableIn (off := 78) (tgt := 103) hx hb dX8_ofFieldNow_25 (by rw [hc109]; decide) (by rw [hc109]; decide) (by rw [hc109]; rfl) (by decide) ?_
        refine lv_iload hx hb dX8_ofFieldNow_103 (lv_at hl 0 rfl) ?_
        refine lv_if_eq (tgt := 112) hx hb dX8_ofFieldNow_105 (by decide) (fun hc110 => ?_) (fun hc110 => ?_)
        · replace h := h.1 hc110
          refine lv_aload_n hx hb dX8_ofFieldNow_112 rfl (lv_at hl 3 rfl) ?_
          refine lv_bipush (v := 7) hx hb dX8_ofFieldNow_113 (by decide) ?_
          obtain ⟨hK_x3, h⟩ := h
          obtain ⟨hi111, h⟩ := h
          refine x_iald C hR hK_x3 hi111 dX8_ofFieldNow_115 ?_
          refine lv_topi (fun x112 ex112 => ?_)
          replace h := h x112 ex112
          exact t_X8_ofFieldNow_b116 C hml hr hlocks  h H locs ls hR hS (lv_sub (l' := []) hl [] rfl)
        · replace h := h.2 hc110
          refine lv_iconst (v := 0) hx hb dX8_ofFieldNow_108 (by decide) ?_
          refine lv_goto (tgt := 116) hx hb dX8_ofFieldNow_109 (by decide) ?_
          exact t_X8_ofFieldNow_b116 C hml hr hlocks  h H locs ls hR hS (lv_sub (l' := []) hl [] rfl)
      · by_cases hc113 : x2 = 8
        · have h := h.2.2.2.1 hc113
          refine lv_tableIn (off := 116) (tgt := 141) hx hb dX8_ofFieldNow_25 (by rw [hc113]; decide) (by rw [hc113]; decide) (by rw [hc113]; rfl) (by decide) ?_
          exact t_X8_ofFieldNow_b141 C hml hr hlocks  h H locs ls hR hS (lv_sub (l' := [(2, .int x2), (3, .ref x3)]) hl [2, 3] rfl)
        · by_cases hc114 : x2 = 9
          · have h := h.2.2.2.2.1 hc114
            refine lv_tableIn (off := 116) (tgt := 141) hx hb dX8_ofFieldNow_25 (by rw [hc114]; decide) (by rw [hc114]; decide) (by rw [hc114]; rfl) (by decide) ?_
            exact t_X8_ofFieldNow_b141 C hml hr hlocks  h H locs ls hR hS (lv_sub (l' := [(2, .int x2), (3, .ref x3)]) hl [2, 3] rfl)
          · by_cases hc115 : x2 = 10
            · have h := h.2.2.2.2.2.1 hc115
              refine lv_tableIn (off := 92) (tgt := 117) hx hb dX8_ofFieldNow_25 (by rw [hc115]; decide) (by rw [hc115]; decide) (by rw [hc115]; rfl) (by decide) ?_
              refine lv_aload_n hx hb dX8_ofFieldNow_117 rfl (lv_at hl 1 rfl) ?_
              obtain ⟨hK_x0, h⟩ := h
              refine x_g_289 C hR hK_x0 q_3_8 dX8_ofFieldNow_118 ?_
              obtain ⟨a116, ea116, h⟩ := h
              refine x_some ea116 ?_
              refine lv_aload_n hx hb dX8_ofFieldNow_121 rfl (lv_at hl 3 rfl) ?_
              obtain ⟨hK_a116, h⟩ := h
              refine x_ki (x_runV (As := [.ref x3]) (rest := []) C hml hR hS (m_X7_yield l gg a116 x3 S h) b_X7_yield q_19_6 (by rw [hK_a116]; decide) (s_E_8 hK_a116) rfl rfl rfl rfl ⟨Nat.le_of_ble_eq_true rfl, Nat.le_of_ble_eq_true rfl⟩ rfl hl.1 (Nat.le_of_ble_eq_true rfl) dX8_ofFieldNow_122 ⟨Nat.le_refl _, Nat.le_refl _⟩) hS (fun x118 S117 H locs h hR hS => ?_)
              exact W.iret (v := x118) hx hb hr (fun t ht hW => ⟨⟨x118, S117, rfl, h, x_rt ht hR⟩, hS.F ht⟩) hS.2.2 dX8_ofFieldNow_125
            · by_cases hc119 : x2 = 11
              · have h := h.2.2.2.2.2.2.1 hc119
                refine lv_tableIn (off := 101) (tgt := 126) hx hb dX8_ofFieldNow_25 (by rw [hc119]; decide) (by rw [hc119]; decide) (by rw [hc119]; rfl) (by decide) ?_
                refine lv_aload_n hx hb dX8_ofFieldNow_126 rfl (lv_at hl 3 rfl) ?_
                refine lv_bipush (v := 10) hx hb dX8_ofFieldNow_127 (by decide) ?_
                obtain ⟨hK_x3, h⟩ := h
                obtain ⟨hi120, h⟩ := h
                refine x_iald C hR hK_x3 hi120 dX8_ofFieldNow_129 ?_
                refine lv_topi (fun x121 ex121 => ?_)
                replace h := h x121 ex121
                exact W.iret (v := x121) hx hb hr (fun t ht hW => ⟨⟨x121, S, rfl, h, x_rt ht hR⟩, hS.F ht⟩) hS.2.2 dX8_ofFieldNow_130
              · by_cases hc122 : x2 = 12
                · have h := h.2.2.2.2.2.2.2.1 hc122
                  refine lv_tableIn (off := 106) (tgt := 131) hx hb dX8_ofFieldNow_25 (by rw [hc122]; decide) (by rw [hc122]; decide) (by rw [hc122]; rfl) (by decide) ?_
                  refine lv_aload_n hx hb dX8_ofFieldNow_131 rfl (lv_at hl 3 rfl) ?_
                  refine lv_bipush (v := 11) hx hb dX8_ofFieldNow_132 (by decide) ?_
                  obtain ⟨hK_x3, h⟩ := h
                  obtain ⟨hi123, h⟩ := h
                  refine x_iald C hR hK_x3 hi123 dX8_ofFieldNow_134 ?_
                  refine lv_topi (fun x124 ex124 => ?_)
                  replace h := h x124 ex124
                  exact W.iret (v := x124) hx hb hr (fun t ht hW => ⟨⟨x124, S, rfl, h, x_rt ht hR⟩, hS.F ht⟩) hS.2.2 dX8_ofFieldNow_135
                · by_cases hc125 : x2 = 13
                  · have h := h.2.2.2.2.2.2.2.2.1 hc125
                    refine lv_tableIn (off := 111) (tgt := 136) hx hb dX8_ofFieldNow_25 (by rw [hc125]; decide) (by rw [hc125]; decide) (by rw [hc125]; rfl) (by decide) ?_
                    refine lv_aload_n hx hb dX8_ofFieldNow_136 rfl (lv_at hl 3 rfl) ?_
                    refine lv_bipush (v := 12) hx hb dX8_ofFieldNow_137 (by decide) ?_
                    obtain ⟨hK_x3, h⟩ := h
                    obtain ⟨hi126, h⟩ := h
                    refine x_iald C hR hK_x3 hi126 dX8_ofFieldNow_139 ?_
                    refine lv_topi (fun x127 ex127 => ?_)
                    replace h := h x127 ex127
                    exact W.iret (v := x127) hx hb hr (fun t ht hW => ⟨⟨x127, S, rfl, h, x_rt ht hR⟩, hS.F ht⟩) hS.2.2 dX8_ofFieldNow_140
                  · have h := h.2.2.2.2.2.2.2.2.2 ⟨hc101, hc105, hc109, hc113, hc114, hc115, hc119, hc122, hc125⟩
                    refine lv_tableOut (tgt := 141) hx hb dX8_ofFieldNow_25 (x_tout 5 13 (fun k h1 h2 => ?_)) (by decide) ?_
                    · rcases (show k = 5 ∨ k = 6 ∨ k = 7 ∨ k = 8 ∨ k = 9 ∨ k = 10 ∨ k = 11 ∨ k = 12 ∨ k = 13 by omega) with rfl | rfl | rfl | rfl | rfl | rfl | rfl | rfl | rfl
                      · exact hc101
                      · exact hc105
                      · exact hc109
                      · exact hc113
                      · exact hc114
                      · exact hc115
                      · exact hc119
                      · exact hc122
                      · exact hc125
                    exact t_X8_ofFieldNow_b141 C hml hr hlocks  h H locs ls hR hS (lv_sub (l' := [(2, .int x2), (3, .ref x3)]) hl [2, 3] rfl)
set_option maxHeartbeats 4000000 in
theorem t_X8_ofFieldNow_b0 (C : x_C p s m args c cX8_ofFieldNow RX8 gg) (hml : c.maxLocals = 5) (hr : meth.sig.returnType = (some .int)) (hlocks : meth.locks = false) {x0 : Nat} {x1 : Int32} {x2 : Int32}  {S : sT}  {Q : Int32 → sT → Prop} (h : w_X8_ofFieldNow_b0 x0 x1 x2 S  Q) : x_X p l e r_X8_ofFieldNow s m args below meth c gg 5 0 0 (MQ below (va_Qi Q (fun S1 t => s_Rep gg S1 t.heap) (s_A gg)) args s 0 0 (s_A gg)) 0 [(0, .ref x0), (1, .int x1), (2, .int x2)] [] S := by
  unfold w_X8_ofFieldNow_b0 at h
  obtain ⟨hx, hb, -⟩ := id C
  intro H locs ls hR hS hl
  refine lv_aload_n hx hb dX8_ofFieldNow_0 rfl (lv_at hl 0 rfl) ?_
  obtain ⟨hK_x0, h⟩ := h
  refine x_g_289 C hR hK_x0 q_3_8 dX8_ofFieldNow_1 ?_
  obtain ⟨a101, ea101, h⟩ := h
  refine x_some ea101 ?_
  obtain ⟨hK_a101, h⟩ := h
  refine x_gN_257 C hR hK_a101 ⟨rfl, C.2.2.2.2.2.2.1 _ (List.mem_of_getElem? (i := 1) rfl)⟩ dX8_ofFieldNow_4 ?_
  obtain ⟨a102, ea102, h⟩ := h
  refine x_some ea102 ?_
  refine lv_iload_n hx hb dX8_ofFieldNow_7 rfl (lv_at hl 1 rfl) ?_
  obtain ⟨hK_a102, h⟩ := h
  obtain ⟨hi103, a104, ea104, h⟩ := h
  refine x_aald13 C hR hK_a102 hi103 dX8_ofFieldNow_8 ?_
  refine x_some ea104 ?_
  refine lv_astore_n (lv' := [(3, .ref a104), (0, .ref x0), (1, .int x1), (2, .int x2)]) hx hb dX8_ofFieldNow_9 rfl hl (by decide) rfl (fun ls hl => ?_)
  refine lv_aload_n hx hb dX8_ofFieldNow_10 rfl (lv_at hl 0 rfl) ?_
  refine lv_iconst (v := 4) hx hb dX8_ofFieldNow_11 (by decide) ?_
  obtain ⟨hK_a104, h⟩ := h
  obtain ⟨hi105, h⟩ := h
  refine x_iald C hR hK_a104 hi105 dX8_ofFieldNow_12 ?_
  refine lv_topi (fun x106 ex106 => ?_)
  replace h := h x106 ex106
  refine lv_iconst (v := 2) hx hb dX8_ofFieldNow_13 (by decide) ?_
  refine lv_icmp_ge (tgt := 21) hx hb dX8_ofFieldNow_14 (by decide) (fun hc107 => ?_) (fun hc107 => ?_)
  · replace h := h.1 hc107
    refine lv_iconst (v := 0) hx hb dX8_ofFieldNow_21 (by decide) ?_
    exact t_X8_ofFieldNow_b22 C hml hr hlocks  h H locs ls hR hS (lv_sub (l' := [(0, .ref x0), (2, .int x2), (3, .ref a104)]) hl [1, 3, 0] rfl)
  · replace h := h.2 hc107
    refine lv_iconst (v := 1) hx hb dX8_ofFieldNow_17 (by decide) ?_
    refine lv_goto (tgt := 22) hx hb dX8_ofFieldNow_18 (by decide) ?_
    exact t_X8_ofFieldNow_b22 C hml hr hlocks  h H locs ls hR hS (lv_sub (l' := [(0, .ref x0), (2, .int x2), (3, .ref a104)]) hl [1, 3, 0] rfl)
theorem m_X8_ofFieldNow (l : Launch) (gg : sG) (x0 : Nat) (x1 : Int32) (x2 : Int32) (S : sT) {Q : Int32 → sT → Prop} (h : w_X8_ofFieldNow x0 x1 x2 S Q) : x_Mi l gg yX8_ofFieldNow (x_ws yX8_ofFieldNow cX8_ofFieldNow 5 (some .int)) r_X8_ofFieldNow [.ref x0, .int x1, .int x2] S Q 0 0 := by
  refine x_ofW (cc := cX8_ofFieldNow) (own := RX8) (by decide +kernel) rfl (Nat.le_of_ble_eq_true rfl) ?_
  intro p e s m args below meth c C hml hr hlocks hin ht H locs ls hR hS hl
  exact t_X8_ofFieldNow_b0 C hml hr hlocks h H locs ls hR hS (lv_sub (l' := [(0, .ref x0), (1, .int x1), (2, .int x2)]) hl [0, 1, 2] rfl)
def w_X8_ofField_b43 (y0 : Int32) (S : sT)  (Q : Int32 → sT → Prop) : Prop :=
Q y0 S
def w_X8_ofField_b0 (x0 : Nat) (x1 : Int32) (x2 : Int32) (S : sT)  (Q : Int32 → sT → Prop) : Prop :=
s_K S x0 = 10 ∧
    ∀ S101 : sT, S101 = s_sI S 288 x0 (0 : Int32) →
    w_X8_isField x0 x1 S101 (fun x103 S102 =>
    ((¬ x103 = 0 → w_X8_is x2 (0 : Int32) (13 : Int32) S102 (fun x106 S105 =>
    ((x106 = 0 → s_K S105 x0 = 10 ∧
    w_X8_refuse x0 (2 : Int32) S105 (fun x109 S108 =>
    w_X8_ofField_b43 x109 S108  Q)) ∧
    (¬ x106 = 0 → s_K S105 x0 = 10 ∧
    w_X8_ofFieldNow x0 x1 x2 S105 (fun x111 S110 =>
    w_X8_ofField_b43 x111 S110  Q))))) ∧
    (x103 = 0 → s_K S102 x0 = 10 ∧
    w_X8_refuse x0 (1 : Int32) S102 (fun x113 S112 =>
    Q x113 S112))))
def w_X8_ofField (x0 : Nat) (x1 : Int32) (x2 : Int32) (S : sT) (Q : Int32 → sT → Prop) : Prop := w_X8_ofField_b0 x0 x1 x2 S Q
def r_X8_ofField : Room := x_rm 2 46 0 0
theorem b_X8_ofField : x_BV yX8_ofField cX8_ofField 3 (some .int) 2 := ⟨q_31_19, q_31_17, q_31_18, q_1_5, by decide +kernel⟩
set_option maxHeartbeats 4000000 in
theorem t_X8_ofField_b43 (C : x_C p s m args c cX8_ofField RX8 gg) (hml : c.maxLocals = 3) (hr : meth.sig.returnType = (some .int)) (hlocks : meth.locks = false) {y0 : Int32}  {S : sT}  {Q : Int32 → sT → Prop} (h : w_X8_ofField_b43 y0 S  Q) : x_X p l e r_X8_ofField s m args below meth c gg 3 0 0 (MQ below (va_Qi Q (fun S1 t => s_Rep gg S1 t.heap) (s_A gg)) args s 0 0 (s_A gg)) 43 [] [.int y0] S := by
  unfold w_X8_ofField_b43 at h
  obtain ⟨hx, hb, -⟩ := id C
  intro H locs ls hR hS hl
  exact W.iret (v := y0) hx hb hr (fun t ht hW => ⟨⟨y0, S, rfl, h, x_rt ht hR⟩, hS.F ht⟩) hS.2.2 dX8_ofField_43
set_option maxHeartbeats 4000000 in
theorem t_X8_ofField_b0 (C : x_C p s m args c cX8_ofField RX8 gg) (hml : c.maxLocals = 3) (hr : meth.sig.returnType = (some .int)) (hlocks : meth.locks = false) {x0 : Nat} {x1 : Int32} {x2 : Int32}  {S : sT}  {Q : Int32 → sT → Prop} (h : w_X8_ofField_b0 x0 x1 x2 S  Q) : x_X p l e r_X8_ofField s m args below meth c gg 3 0 0 (MQ below (va_Qi Q (fun S1 t => s_Rep gg S1 t.heap) (s_A gg)) args s 0 0 (s_A gg)) 0 [(0, .ref x0), (1, .int x1), (2, .int x2)] [] S := by
  unfold w_X8_ofField_b0 at h
  obtain ⟨hx, hb, -⟩ := id C
  intro H locs ls hR hS hl
  refine lv_aload_n hx hb dX8_ofField_0 rfl (lv_at hl 0 rfl) ?_
  refine lv_iconst (v := 0) hx hb dX8_ofField_1 (by decide) ?_
  obtain ⟨hK_x0, h⟩ := h
  refine x_p_288 (v := (0 : Int32)) C hR hK_x0 hS q_8_1 dX8_ofField_2 (fun H locs hR hS => ?_)
  obtain ⟨S101, eS101⟩ : ∃ z : sT, z = s_sI S 288 x0 (0 : Int32) := ⟨_, rfl⟩
  rw [← eS101] at hR
  replace h := h S101 eS101
  have hK_x0 : s_K S101 x0 = 10 := by rw [eS101]; exact hK_x0
  refine lv_aload_n hx hb dX8_ofField_5 rfl (lv_at hl 0 rfl) ?_
  refine lv_iload_n hx hb dX8_ofField_6 rfl (lv_at hl 1 rfl) ?_
  refine x_ki (x_runV (As := [.int x1]) (rest := []) C hml hR hS (m_X8_isField l gg x0 x1 S101 h) b_X8_isField q_13_7 (by rw [hK_x0]; decide) (s_E_9 hK_x0) rfl rfl rfl rfl ⟨Nat.le_of_ble_eq_true rfl, Nat.le_of_ble_eq_true rfl⟩ rfl hl.1 (Nat.le_of_ble_eq_true rfl) dX8_ofField_7 ⟨Nat.le_refl _, Nat.le_refl _⟩) hS (fun x103 S102 H locs h hR hS => ?_)
  refine lv_if_ne (tgt := 19) hx hb dX8_ofField_10 (by decide) (fun hc104 => ?_) (fun hc104 => ?_)
  · replace h := h.1 hc104
    refine lv_iload_n hx hb dX8_ofField_19 rfl (lv_at hl 2 rfl) ?_
    refine lv_iconst (v := 0) hx hb dX8_ofField_20 (by decide) ?_
    refine lv_bipush (v := 13) hx hb dX8_ofField_21 (by decide) ?_
    refine x_ki (x_runS (As := [.int x2, .int (0 : Int32), .int (13 : Int32)]) (rest := []) C hml hR hS (m_X8_is l gg x2 (0 : Int32) (13 : Int32) S102 h) b_X8_is q_8_2 rfl rfl ⟨Nat.le_of_ble_eq_true rfl, Nat.le_of_ble_eq_true rfl⟩ rfl hl.1 (Nat.le_of_ble_eq_true rfl) dX8_ofField_23 ⟨Nat.le_refl _, Nat.le_refl _⟩) hS (fun x106 S105 H locs h hR hS => ?_)
    refine lv_if_eq (tgt := 38) hx hb dX8_ofField_26 (by decide) (fun hc107 => ?_) (fun hc107 => ?_)
    · replace h := h.1 hc107
      refine lv_aload_n hx hb dX8_ofField_38 rfl (lv_at hl 0 rfl) ?_
      refine lv_iconst (v := 2) hx hb dX8_ofField_39 (by decide) ?_
      obtain ⟨hK_x0, h⟩ := h
      refine x_ki (x_runV (As := [.int (2 : Int32)]) (rest := []) C hml hR hS (m_X8_refuse l gg x0 (2 : Int32) S105 h) b_X8_refuse q_8_5 (by rw [hK_x0]; decide) (s_E_9 hK_x0) rfl rfl rfl rfl ⟨Nat.le_of_ble_eq_true rfl, Nat.le_of_ble_eq_true rfl⟩ rfl hl.1 (Nat.le_of_ble_eq_true rfl) dX8_ofField_40 ⟨Nat.le_refl _, Nat.le_refl _⟩) hS (fun x109 S108 H locs h hR hS => ?_)
      exact t_X8_ofField_b43 C hml hr hlocks  h H locs ls hR hS (lv_sub (l' := []) hl [] rfl)
    · replace h := h.2 hc107
      refine lv_aload_n hx hb dX8_ofField_29 rfl (lv_at hl 0 rfl) ?_
      refine lv_iload_n hx hb dX8_ofField_30 rfl (lv_at hl 1 rfl) ?_
      refine lv_iload_n hx hb dX8_ofField_31 rfl (lv_at hl 2 rfl) ?_
      obtain ⟨hK_x0, h⟩ := h
      refine x_ki (x_runV (As := [.int x1, .int x2]) (rest := []) C hml hR hS (m_X8_ofFieldNow l gg x0 x1 x2 S105 h) b_X8_ofFieldNow q_31_20 (by rw [hK_x0]; decide) (s_E_9 hK_x0) rfl rfl rfl rfl ⟨Nat.le_of_ble_eq_true rfl, Nat.le_of_ble_eq_true rfl⟩ rfl hl.1 (Nat.le_of_ble_eq_true rfl) dX8_ofField_32 ⟨Nat.le_refl _, Nat.le_refl _⟩) hS (fun x111 S110 H locs h hR hS => ?_)
      refine lv_goto (tgt := 43) hx hb dX8_ofField_35 (by decide) ?_
      exact t_X8_ofField_b43 C hml hr hlocks  h H locs ls hR hS (lv_sub (l' := []) hl [] rfl)
  · replace h := h.2 hc104
    refine lv_aload_n hx hb dX8_ofField_13 rfl (lv_at hl 0 rfl) ?_
    refine lv_iconst (v := 1) hx hb dX8_ofField_14 (by decide) ?_
    obtain ⟨hK_x0, h⟩ := h
    refine x_ki (x_runV (As := [.int (1 : Int32)]) (rest := []) C hml hR hS (m_X8_refuse l gg x0 (1 : Int32) S102 h) b_X8_refuse q_8_5 (by rw [hK_x0]; decide) (s_E_9 hK_x0) rfl rfl rfl rfl ⟨Nat.le_of_ble_eq_true rfl, Nat.le_of_ble_eq_true rfl⟩ rfl hl.1 (Nat.le_of_ble_eq_true rfl) dX8_ofField_15 ⟨Nat.le_refl _, Nat.le_refl _⟩) hS (fun x113 S112 H locs h hR hS => ?_)
    exact W.iret (v := x113) hx hb hr (fun t ht hW => ⟨⟨x113, S112, rfl, h, x_rt ht hR⟩, hS.F ht⟩) hS.2.2 dX8_ofField_18
theorem m_X8_ofField (l : Launch) (gg : sG) (x0 : Nat) (x1 : Int32) (x2 : Int32) (S : sT) {Q : Int32 → sT → Prop} (h : w_X8_ofField x0 x1 x2 S Q) : x_Mi l gg yX8_ofField (x_ws yX8_ofField cX8_ofField 3 (some .int)) r_X8_ofField [.ref x0, .int x1, .int x2] S Q 0 0 := by
  refine x_ofW (cc := cX8_ofField) (own := RX8) (by decide +kernel) rfl (Nat.le_of_ble_eq_true rfl) ?_
  intro p e s m args below meth c C hml hr hlocks hin ht H locs ls hR hS hl
  exact t_X8_ofField_b0 C hml hr hlocks h H locs ls hR hS (lv_sub (l' := [(0, .ref x0), (1, .int x1), (2, .int x2)]) hl [0, 1, 2] rfl)
def w_X8_thought_b42 (y0 : Int32) (S : sT)  (Q : Int32 → sT → Prop) : Prop :=
Q y0 S
def w_X8_thought_b33 (y0 : Int32) (y1 : Nat) (S : sT)  (Q : Int32 → sT → Prop) : Prop :=
s_K S y1 = 11 ∧
    vp_in y0 (s_N S y1) ∧
    ∀ x102 : Int32, x102 = s_B S y1 (Int32.toNatClampNeg y0) →
    w_X8_thought_b42 x102 S  Q
def w_X8_thought_b0 (x0 : Nat) (x1 : Int32) (x2 : Int32) (S : sT)  (Q : Int32 → sT → Prop) : Prop :=
s_K S x0 = 10 ∧
    ∀ S101 : sT, S101 = s_sI S 288 x0 (0 : Int32) →
    w_X8_isField x0 x1 S101 (fun x103 S102 =>
    ((x103 = 0 → s_K S102 x0 = 10 ∧
    w_X8_refuse x0 (1 : Int32) S102 (fun x106 S105 =>
    w_X8_thought_b42 x106 S105  Q)) ∧
    (¬ x103 = 0 → s_K S102 x0 = 10 ∧
    ∃ a107 : Nat, s_R S102 289 x0 = some a107 ∧
    s_K S102 a107 = 9 ∧
    ∃ a108 : Nat, s_R S102 257 a107 = some a108 ∧
    s_K S102 a108 = 13 ∧
    vp_in x1 (s_N S102 a108) ∧
    ∃ a110 : Nat, s_P S102 a108 (Int32.toNatClampNeg x1) = some a110 ∧
    ((x2 = 0 → w_X8_thought_b33 (20 : Int32) a110 S102  Q) ∧
    (¬ x2 = 0 → w_X8_thought_b33 (21 : Int32) a110 S102  Q)))))
def w_X8_thought (x0 : Nat) (x1 : Int32) (x2 : Int32) (S : sT) (Q : Int32 → sT → Prop) : Prop := w_X8_thought_b0 x0 x1 x2 S Q
def r_X8_thought : Room := x_rm 2 43 0 0
theorem b_X8_thought : x_BV yX8_thought cX8_thought 3 (some .int) 2 := ⟨q_36_10, q_36_8, q_36_9, q_1_5, by decide +kernel⟩
set_option maxHeartbeats 4000000 in
theorem t_X8_thought_b42 (C : x_C p s m args c cX8_thought RX8 gg) (hml : c.maxLocals = 3) (hr : meth.sig.returnType = (some .int)) (hlocks : meth.locks = false) {y0 : Int32}  {S : sT}  {Q : Int32 → sT → Prop} (h : w_X8_thought_b42 y0 S  Q) : x_X p l e r_X8_thought s m args below meth c gg 3 0 0 (MQ below (va_Qi Q (fun S1 t => s_Rep gg S1 t.heap) (s_A gg)) args s 0 0 (s_A gg)) 42 [] [.int y0] S := by
  unfold w_X8_thought_b42 at h
  obtain ⟨hx, hb, -⟩ := id C
  intro H locs ls hR hS hl
  exact W.iret (v := y0) hx hb hr (fun t ht hW => ⟨⟨y0, S, rfl, h, x_rt ht hR⟩, hS.F ht⟩) hS.2.2 dX8_thought_42
set_option maxHeartbeats 4000000 in
theorem t_X8_thought_b33 (C : x_C p s m args c cX8_thought RX8 gg) (hml : c.maxLocals = 3) (hr : meth.sig.returnType = (some .int)) (hlocks : meth.locks = false) {y0 : Int32} {y1 : Nat}  {S : sT}  {Q : Int32 → sT → Prop} (h : w_X8_thought_b33 y0 y1 S  Q) : x_X p l e r_X8_thought s m args below meth c gg 3 0 0 (MQ below (va_Qi Q (fun S1 t => s_Rep gg S1 t.heap) (s_A gg)) args s 0 0 (s_A gg)) 33 [] [.int y0, .ref y1] S := by
  unfold w_X8_thought_b33 at h
  obtain ⟨hx, hb, -⟩ := id C
  intro H locs ls hR hS hl
  obtain ⟨hK_y1, h⟩ := h
  obtain ⟨hi101, h⟩ := h
  refine x_iald C hR hK_y1 hi101 dX8_thought_33 ?_
  refine lv_topi (fun x102 ex102 => ?_)
  replace h := h x102 ex102
  refine lv_goto (tgt := 42) hx hb dX8_thought_34 (by decide) ?_
  exact t_X8_thought_b42 C hml hr hlocks  h H locs ls hR hS (lv_sub (l' := []) hl [] rfl)
set_option maxHeartbeats 4000000 in
theorem t_X8_thought_b0 (C : x_C p s m args c cX8_thought RX8 gg) (hml : c.maxLocals = 3) (hr : meth.sig.returnType = (some .int)) (hlocks : meth.locks = false) {x0 : Nat} {x1 : Int32} {x2 : Int32}  {S : sT}  {Q : Int32 → sT → Prop} (h : w_X8_thought_b0 x0 x1 x2 S  Q) : x_X p l e r_X8_thought s m args below meth c gg 3 0 0 (MQ below (va_Qi Q (fun S1 t => s_Rep gg S1 t.heap) (s_A gg)) args s 0 0 (s_A gg)) 0 [(0, .ref x0), (1, .int x1), (2, .int x2)] [] S := by
  unfold w_X8_thought_b0 at h
  obtain ⟨hx, hb, -⟩ := id C
  intro H locs ls hR hS hl
  refine lv_aload_n hx hb dX8_thought_0 rfl (lv_at hl 0 rfl) ?_
  refine lv_iconst (v := 0) hx hb dX8_thought_1 (by decide) ?_
  obtain ⟨hK_x0, h⟩ := h
  refine x_p_288 (v := (0 : Int32)) C hR hK_x0 hS q_8_1 dX8_thought_2 (fun H locs hR hS => ?_)
  obtain ⟨S101, eS101⟩ : ∃ z : sT, z = s_sI S 288 x0 (0 : Int32) := ⟨_, rfl⟩
  rw [← eS101] at hR
  replace h := h S101 eS101
  have hK_x0 : s_K S101 x0 = 10 := by rw [eS101]; exact hK_x0
  refine lv_aload_n hx hb dX8_thought_5 rfl (lv_at hl 0 rfl) ?_
  refine lv_iload_n hx hb dX8_thought_6 rfl (lv_at hl 1 rfl) ?_
  refine x_ki (x_runV (As := [.int x1]) (rest := []) C hml hR hS (m_X8_isField l gg x0 x1 S101 h) b_X8_isField q_13_7 (by rw [hK_x0]; decide) (s_E_9 hK_x0) rfl rfl rfl rfl ⟨Nat.le_of_ble_eq_true rfl, Nat.le_of_ble_eq_true rfl⟩ rfl hl.1 (Nat.le_of_ble_eq_true rfl) dX8_thought_7 ⟨Nat.le_refl _, Nat.le_refl _⟩) hS (fun x103 S102 H locs h hR hS => ?_)
  refine lv_if_eq (tgt := 37) hx hb dX8_thought_10 (by decide) (fun hc104 => ?_) (fun hc104 => ?_)
  · replace h := h.1 hc104
    refine lv_aload_n hx hb dX8_thought_37 rfl (lv_at hl 0 rfl) ?_
    refine lv_iconst (v := 1) hx hb dX8_thought_38 (by decide) ?_
    obtain ⟨hK_x0, h⟩ := h
    refine x_ki (x_runV (As := [.int (1 : Int32)]) (rest := []) C hml hR hS (m_X8_refuse l gg x0 (1 : Int32) S102 h) b_X8_refuse q_8_5 (by rw [hK_x0]; decide) (s_E_9 hK_x0) rfl rfl rfl rfl ⟨Nat.le_of_ble_eq_true rfl, Nat.le_of_ble_eq_true rfl⟩ rfl hl.1 (Nat.le_of_ble_eq_true rfl) dX8_thought_39 ⟨Nat.le_refl _, Nat.le_refl _⟩) hS (fun x106 S105 H locs h hR hS => ?_)
    exact t_X8_thought_b42 C hml hr hlocks  h H locs ls hR hS (lv_sub (l' := []) hl [] rfl)
  · replace h := h.2 hc104
    refine lv_aload_n hx hb dX8_thought_13 rfl (lv_at hl 0 rfl) ?_
    obtain ⟨hK_x0, h⟩ := h
    refine x_g_289 C hR hK_x0 q_3_8 dX8_thought_14 ?_
    obtain ⟨a107, ea107, h⟩ := h
    refine x_some ea107 ?_
    obtain ⟨hK_a107, h⟩ := h
    refine x_gN_257 C hR hK_a107 ⟨rfl, C.2.2.2.2.2.2.1 _ (List.mem_of_getElem? (i := 1) rfl)⟩ dX8_thought_17 ?_
    obtain ⟨a108, ea108, h⟩ := h
    refine x_some ea108 ?_
    refine lv_iload_n hx hb dX8_thought_20 rfl (lv_at hl 1 rfl) ?_
    obtain ⟨hK_a108, h⟩ := h
    obtain ⟨hi109, a110, ea110, h⟩ := h
    refine x_aald13 C hR hK_a108 hi109 dX8_thought_21 ?_
    refine x_some ea110 ?_
    refine lv_iload_n hx hb dX8_thought_22 rfl (lv_at hl 2 rfl) ?_
    refine lv_if_eq (tgt := 31) hx hb dX8_thought_23 (by decide) (fun hc111 => ?_) (fun hc111 => ?_)
    · replace h := h.1 hc111
      refine lv_bipush (v := 20) hx hb dX8_thought_31 (by decide) ?_
      exact t_X8_thought_b33 C hml hr hlocks  h H locs ls hR hS (lv_sub (l' := []) hl [] rfl)
    · replace h := h.2 hc111
      refine lv_bipush (v := 21) hx hb dX8_thought_26 (by decide) ?_
      refine lv_goto (tgt := 33) hx hb dX8_thought_28 (by decide) ?_
      exact t_X8_thought_b33 C hml hr hlocks  h H locs ls hR hS (lv_sub (l' := []) hl [] rfl)
theorem m_X8_thought (l : Launch) (gg : sG) (x0 : Nat) (x1 : Int32) (x2 : Int32) (S : sT) {Q : Int32 → sT → Prop} (h : w_X8_thought x0 x1 x2 S Q) : x_Mi l gg yX8_thought (x_ws yX8_thought cX8_thought 3 (some .int)) r_X8_thought [.ref x0, .int x1, .int x2] S Q 0 0 := by
  refine x_ofW (cc := cX8_thought) (own := RX8) (by decide +kernel) rfl (Nat.le_of_ble_eq_true rfl) ?_
  intro p e s m args below meth c C hml hr hlocks hin ht H locs ls hR hS hl
  exact t_X8_thought_b0 C hml hr hlocks h H locs ls hR hS (lv_sub (l' := [(0, .ref x0), (1, .int x1), (2, .int x2)]) hl [0, 1, 2] rfl)
def w_X8_suspectNow_b164 (x0 : Nat) (x1 : Int32) (x2 : Int32) (x3 : Int32) (x4 : Int32) (x5 : Int32) (x6 : Int32) (S : sT) (kk85 : Nat → Int32 → Int32 → Int32 → Int32 → Int32 → Int32 → sT → Prop) (Q : Int32 → sT → Prop) : Prop :=
∀ x101 : Int32, x101 = x6 + 1 →
    kk85 x0 x1 x2 x3 x4 x5 x101 S
def w_X8_suspectNow_b85  (Q : Int32 → sT → Prop) : Nat → Nat → Int32 → Int32 → Int32 → Int32 → Int32 → Int32 → sT → Prop
  | 0 => fun _ _ _ _ _ _ _ _ => False
  | n + 1 => fun x0 x1 x2 x3 x4 x5 x6 S =>
s_K S x0 = 10 ∧
    ∃ a101 : Nat, s_R S 289 x0 = some a101 ∧
    s_K S a101 = 9 ∧
    ∃ a102 : Nat, s_R S 257 a101 = some a102 ∧
    s_K S a102 = 13 ∧
    ∀ x103 : Int32, x103 = nI (s_N S a102) →
    ((x103 ≤ x6 → Q x4 S) ∧
    (¬ x103 ≤ x6 → ∃ a105 : Nat, s_R S 289 x0 = some a105 ∧
    s_K S a105 = 9 ∧
    ∃ a106 : Nat, s_R S 257 a105 = some a106 ∧
    s_K S a106 = 13 ∧
    vp_in x6 (s_N S a106) ∧
    ∃ a108 : Nat, s_P S a106 (Int32.toNatClampNeg x6) = some a108 ∧
    s_K S a108 = 11 ∧
    vp_in (0 : Int32) (s_N S a108) ∧
    ∀ x110 : Int32, x110 = s_B S a108 (Int32.toNatClampNeg (0 : Int32)) →
    ((¬ x110 = x1 → w_X8_suspectNow_b164 x0 x1 x2 x3 x4 x5 x6 S (fun x0 x1 x2 x3 x4 x5 x6 S => w_X8_suspectNow_b85  Q n x0 x1 x2 x3 x4 x5 x6 S) Q) ∧
    (x110 = x1 → vp_in (11 : Int32) (s_N S a108) ∧
    ∀ x113 : Int32, x113 = s_B S a108 (Int32.toNatClampNeg (11 : Int32)) →
    ((¬ x113 = 0 → vp_in (11 : Int32) (s_N S a108) ∧
    ∀ x116 : Int32, x116 = s_B S a108 (Int32.toNatClampNeg (11 : Int32)) →
    vp_in (13 : Int32) (s_N S a108) ∧
    ∀ x118 : Int32, x118 = s_B S a108 (Int32.toNatClampNeg (13 : Int32)) →
    ∀ x119 : Int32, x119 = x2 * x118 →
    ¬ x3 = 0 ∧
    ∀ x121 : Int32, x121 = x119 / x3 →
    ∀ x122 : Int32, x122 = x116 - x121 →
    ((x5 < x122 → w_X8_suspectNow_b164 x0 x1 x2 x3 x6 x122 x6 S (fun x0 x1 x2 x3 x4 x5 x6 S => w_X8_suspectNow_b85  Q n x0 x1 x2 x3 x4 x5 x6 S) Q) ∧
    (¬ x5 < x122 → w_X8_suspectNow_b164 x0 x1 x2 x3 x4 x5 x6 S (fun x0 x1 x2 x3 x4 x5 x6 S => w_X8_suspectNow_b85  Q n x0 x1 x2 x3 x4 x5 x6 S) Q))) ∧
    (x113 = 0 → w_X8_suspectNow_b164 x0 x1 x2 x3 x4 x5 x6 S (fun x0 x1 x2 x3 x4 x5 x6 S => w_X8_suspectNow_b85  Q n x0 x1 x2 x3 x4 x5 x6 S) Q))))))
def w_X8_suspectNow_b70 (x0 : Nat) (x1 : Int32) (x2 : Int32) (x3 : Int32) (x4 : Nat) (x5 : Int32) (x6 : Int32) (S : sT) (kk21 : Nat → Int32 → Int32 → Int32 → Nat → Int32 → Int32 → sT → Prop) (Q : Int32 → sT → Prop) : Prop :=
∀ x101 : Int32, x101 = x6 + 1 →
    kk21 x0 x1 x2 x3 x4 x5 x101 S
def w_X8_suspectNow_b21  (Q : Int32 → sT → Prop) : Nat → Nat → Int32 → Int32 → Int32 → Nat → Int32 → Int32 → sT → Prop
  | 0 => fun _ _ _ _ _ _ _ _ => False
  | n + 1 => fun x0 x1 x2 x3 x4 x5 x6 S =>
((x5 ≤ x6 → ∃ n : Nat, w_X8_suspectNow_b85  Q n x0 x1 x2 x3 (-1 : Int32) (0 : Int32) (0 : Int32) S) ∧
    (¬ x5 ≤ x6 → s_K S x4 = 13 ∧
    vp_in x6 (s_N S x4) ∧
    ∃ a103 : Nat, s_P S x4 (Int32.toNatClampNeg x6) = some a103 ∧
    s_K S a103 = 11 ∧
    vp_in (0 : Int32) (s_N S a103) ∧
    ∀ x105 : Int32, x105 = s_B S a103 (Int32.toNatClampNeg (0 : Int32)) →
    ((¬ x105 = x1 → w_X8_suspectNow_b70 x0 x1 x2 x3 x4 x5 x6 S (fun x0 x1 x2 x3 x4 x5 x6 S => w_X8_suspectNow_b21  Q n x0 x1 x2 x3 x4 x5 x6 S) Q) ∧
    (x105 = x1 → vp_in (11 : Int32) (s_N S a103) ∧
    ∀ x108 : Int32, x108 = s_B S a103 (Int32.toNatClampNeg (11 : Int32)) →
    ((¬ x108 = 0 → vp_in (11 : Int32) (s_N S a103) ∧
    ∀ x111 : Int32, x111 = s_B S a103 (Int32.toNatClampNeg (11 : Int32)) →
    ∀ x112 : Int32, x112 = x2 + x111 →
    vp_in (13 : Int32) (s_N S a103) ∧
    ∀ x114 : Int32, x114 = s_B S a103 (Int32.toNatClampNeg (13 : Int32)) →
    ∀ x115 : Int32, x115 = x3 + x114 →
    w_X8_suspectNow_b70 x0 x1 x112 x115 x4 x5 x6 S (fun x0 x1 x2 x3 x4 x5 x6 S => w_X8_suspectNow_b21  Q n x0 x1 x2 x3 x4 x5 x6 S) Q) ∧
    (x108 = 0 → w_X8_suspectNow_b70 x0 x1 x2 x3 x4 x5 x6 S (fun x0 x1 x2 x3 x4 x5 x6 S => w_X8_suspectNow_b21  Q n x0 x1 x2 x3 x4 x5 x6 S) Q))))))
def w_X8_suspectNow_b0 (x0 : Nat) (x1 : Int32) (S : sT)  (Q : Int32 → sT → Prop) : Prop :=
s_K S x0 = 10 ∧
    ∃ a101 : Nat, s_R S 289 x0 = some a101 ∧
    s_K S a101 = 9 ∧
    ∃ a102 : Nat, s_R S 257 a101 = some a102 ∧
    s_K S a102 = 13 ∧
    ∀ x103 : Int32, x103 = nI (s_N S a102) →
    ∃ n : Nat, w_X8_suspectNow_b21  Q n x0 x1 (0 : Int32) (0 : Int32) a102 x103 (0 : Int32) S
def w_X8_suspectNow (x0 : Nat) (x1 : Int32) (S : sT) (Q : Int32 → sT → Prop) : Prop := w_X8_suspectNow_b0 x0 x1 S Q
def r_X8_suspectNow : Room := x_rm 0 0 0 0
theorem b_X8_suspectNow : x_BV yX8_suspectNow cX8_suspectNow 9 (some .int) 1 := ⟨q_38_22, q_38_20, q_38_21, q_1_5, by decide +kernel⟩
set_option maxHeartbeats 4000000 in
theorem t_X8_suspectNow_b164 (C : x_C p s m args c cX8_suspectNow RX8 gg) (hml : c.maxLocals = 9) (hr : meth.sig.returnType = (some .int)) (hlocks : meth.locks = false) {x0 : Nat} {x1 : Int32} {x2 : Int32} {x3 : Int32} {x4 : Int32} {x5 : Int32} {x6 : Int32} {kk85 : Nat → Int32 → Int32 → Int32 → Int32 → Int32 → Int32 → sT → Prop} {S : sT} (hk85 : ∀ (x0 : Nat) (x1 : Int32) (x2 : Int32) (x3 : Int32) (x4 : Int32) (x5 : Int32) (x6 : Int32) (S : sT), kk85 x0 x1 x2 x3 x4 x5 x6 S → x_X p l e r_X8_suspectNow s m args below meth c gg 9 0 0 (MQ below (va_Qi Q (fun S1 t => s_Rep gg S1 t.heap) (s_A gg)) args s 0 0 (s_A gg)) 85 [(0, .ref x0), (1, .int x1), (2, .int x2), (3, .int x3), (4, .int x4), (5, .int x5), (6, .int x6)] [] S) {Q : Int32 → sT → Prop} (h : w_X8_suspectNow_b164 x0 x1 x2 x3 x4 x5 x6 S kk85 Q) : x_X p l e r_X8_suspectNow s m args below meth c gg 9 0 0 (MQ below (va_Qi Q (fun S1 t => s_Rep gg S1 t.heap) (s_A gg)) args s 0 0 (s_A gg)) 164 [(0, .ref x0), (1, .int x1), (2, .int x2), (3, .int x3), (4, .int x4), (5, .int x5), (6, .int x6)] [] S := by
  unfold w_X8_suspectNow_b164 at h
  obtain ⟨hx, hb, -⟩ := id C
  intro H locs ls hR hS hl
  obtain ⟨x101, ex101⟩ : ∃ z : Int32, z = x6 + 1 := ⟨_, rfl⟩
  replace h := h x101 ex101
  refine lv_iinc (v := x101) (lv' := [(6, .int x101), (0, .ref x0), (1, .int x1), (2, .int x2), (3, .int x3), (4, .int x4), (5, .int x5)]) hx hb dX8_suspectNow_164 hl (k := 6) rfl (by rw [ex101]; rfl) (by decide) rfl (fun ls hl => ?_)
  refine lv_goto (tgt := 85) hx hb dX8_suspectNow_167 (by decide) ?_
  exact hk85 x0 x1 x2 x3 x4 x5 x101 S h H locs ls hR hS (lv_sub (l' := [(0, .ref x0), (1, .int x1), (2, .int x2), (3, .int x3), (4, .int x4), (5, .int x5), (6, .int x101)]) hl [1, 2, 3, 4, 5, 6, 0] rfl)
set_option maxHeartbeats 4000000 in
theorem t_X8_suspectNow_b85 (C : x_C p s m args c cX8_suspectNow RX8 gg) (hml : c.maxLocals = 9) (hr : meth.sig.returnType = (some .int)) (hlocks : meth.locks = false)   {Q : Int32 → sT → Prop} : ∀ (n : Nat) (x0 : Nat) (x1 : Int32) (x2 : Int32) (x3 : Int32) (x4 : Int32) (x5 : Int32) (x6 : Int32) (S : sT), w_X8_suspectNow_b85  Q n x0 x1 x2 x3 x4 x5 x6 S → x_X p l e r_X8_suspectNow s m args below meth c gg 9 0 0 (MQ below (va_Qi Q (fun S1 t => s_Rep gg S1 t.heap) (s_A gg)) args s 0 0 (s_A gg)) 85 [(0, .ref x0), (1, .int x1), (2, .int x2), (3, .int x3), (4, .int x4), (5, .int x5), (6, .int x6)] [] S := by
  obtain ⟨hx, hb, -⟩ := id C
  intro n
  induction n with
  | zero => intro x0 x1 x2 x3 x4 x5 x6 S h; exact absurd h id
  | succ n ih =>
    intro x0 x1 x2 x3 x4 x5 x6 S h H locs ls hR hS hl
    unfold w_X8_suspectNow_b85 at h
    refine lv_iload hx hb dX8_suspectNow_85 (lv_at hl 6 rfl) ?_
    refine lv_aload_n hx hb dX8_suspectNow_87 rfl (lv_at hl 0 rfl) ?_
    obtain ⟨hK_x0, h⟩ := h
    refine x_g_289 C hR hK_x0 q_3_8 dX8_suspectNow_88 ?_
    obtain ⟨a101, ea101, h⟩ := h
    refine x_some ea101 ?_
    obtain ⟨hK_a101, h⟩ := h
    refine x_gN_257 C hR hK_a101 ⟨rfl, C.2.2.2.2.2.2.1 _ (List.mem_of_getElem? (i := 1) rfl)⟩ dX8_suspectNow_91 ?_
    obtain ⟨a102, ea102, h⟩ := h
    refine x_some ea102 ?_
    obtain ⟨hK_a102, h⟩ := h
    refine x_alen13 C hR hK_a102 dX8_suspectNow_94 ?_
    refine lv_topi (fun x103 ex103 => ?_)
    replace h := h x103 ex103
    refine lv_icmp_ge (tgt := 170) hx hb dX8_suspectNow_95 (by decide) (fun hc104 => ?_) (fun hc104 => ?_)
    · replace h := h.1 hc104
      refine lv_iload hx hb dX8_suspectNow_170 (lv_at hl 4 rfl) ?_
      exact W.iret (v := x4) hx hb hr (fun t ht hW => ⟨⟨x4, S, rfl, h, x_rt ht hR⟩, hS.F ht⟩) hS.2.2 dX8_suspectNow_172
    · replace h := h.2 hc104
      refine lv_aload_n hx hb dX8_suspectNow_98 rfl (lv_at hl 0 rfl) ?_
      refine x_g_289 C hR hK_x0 q_3_8 dX8_suspectNow_99 ?_
      obtain ⟨a105, ea105, h⟩ := h
      refine x_some ea105 ?_
      obtain ⟨hK_a105, h⟩ := h
      refine x_gN_257 C hR hK_a105 ⟨rfl, C.2.2.2.2.2.2.1 _ (List.mem_of_getElem? (i := 1) rfl)⟩ dX8_suspectNow_102 ?_
      obtain ⟨a106, ea106, h⟩ := h
      refine x_some ea106 ?_
      refine lv_iload hx hb dX8_suspectNow_105 (lv_at hl 6 rfl) ?_
      obtain ⟨hK_a106, h⟩ := h
      obtain ⟨hi107, a108, ea108, h⟩ := h
      refine x_aald13 C hR hK_a106 hi107 dX8_suspectNow_107 ?_
      refine x_some ea108 ?_
      refine lv_astore (lv' := [(7, .ref a108), (0, .ref x0), (1, .int x1), (2, .int x2), (3, .int x3), (4, .int x4), (5, .int x5), (6, .int x6)]) hx hb dX8_suspectNow_108 hl (by decide) rfl (fun ls hl => ?_)
      refine lv_aload hx hb dX8_suspectNow_110 (lv_at hl 0 rfl) ?_
      refine lv_iconst (v := 0) hx hb dX8_suspectNow_112 (by decide) ?_
      obtain ⟨hK_a108, h⟩ := h
      obtain ⟨hi109, h⟩ := h
      refine x_iald C hR hK_a108 hi109 dX8_suspectNow_113 ?_
      refine lv_topi (fun x110 ex110 => ?_)
      replace h := h x110 ex110
      refine lv_iload_n hx hb dX8_suspectNow_114 rfl (lv_at hl 2 rfl) ?_
      refine lv_icmp_ne (tgt := 164) hx hb dX8_suspectNow_115 (by decide) (fun hc111 => ?_) (fun hc111 => ?_)
      · replace h := h.1 hc111
        exact t_X8_suspectNow_b164 C hml hr hlocks (fun x0 x1 x2 x3 x4 x5 x6 S h => ih x0 x1 x2 x3 x4 x5 x6 S h) h H locs ls hR hS (lv_sub (l' := [(0, .ref x0), (1, .int x1), (2, .int x2), (3, .int x3), (4, .int x4), (5, .int x5), (6, .int x6)]) hl [1, 2, 3, 4, 5, 6, 7] rfl)
      · replace h := h.2 hc111
        refine lv_aload hx hb dX8_suspectNow_118 (lv_at hl 0 rfl) ?_
        refine lv_bipush (v := 11) hx hb dX8_suspectNow_120 (by decide) ?_
        obtain ⟨hi112, h⟩ := h
        refine x_iald C hR hK_a108 hi112 dX8_suspectNow_122 ?_
        refine lv_topi (fun x113 ex113 => ?_)
        replace h := h x113 ex113
        refine lv_if_ne (tgt := 129) hx hb dX8_suspectNow_123 (by decide) (fun hc114 => ?_) (fun hc114 => ?_)
        · replace h := h.1 hc114
          refine lv_aload hx hb dX8_suspectNow_129 (lv_at hl 0 rfl) ?_
          refine lv_bipush (v := 11) hx hb dX8_suspectNow_131 (by decide) ?_
          obtain ⟨hi115, h⟩ := h
          refine x_iald C hR hK_a108 hi115 dX8_suspectNow_133 ?_
          refine lv_topi (fun x116 ex116 => ?_)
          replace h := h x116 ex116
          refine lv_iload_n hx hb dX8_suspectNow_134 rfl (lv_at hl 3 rfl) ?_
          refine lv_aload hx hb dX8_suspectNow_135 (lv_at hl 0 rfl) ?_
          refine lv_bipush (v := 13) hx hb dX8_suspectNow_137 (by decide) ?_
          obtain ⟨hi117, h⟩ := h
          refine x_iald C hR hK_a108 hi117 dX8_suspectNow_139 ?_
          refine lv_topi (fun x118 ex118 => ?_)
          replace h := h x118 ex118
          refine lv_imul hx hb dX8_suspectNow_140 ?_
          refine lv_topi (fun x119 ex119 => ?_)
          replace h := h x119 ex119
          refine lv_iload_n hx hb dX8_suspectNow_141 rfl (lv_at hl 4 rfl) ?_
          obtain ⟨hd120, h⟩ := h
          refine lv_idiv hx hb dX8_suspectNow_142 hd120 ?_
          refine lv_topi (fun x121 ex121 => ?_)
          replace h := h x121 ex121
          refine lv_isub hx hb dX8_suspectNow_143 ?_
          refine lv_topi (fun x122 ex122 => ?_)
          replace h := h x122 ex122
          refine lv_istore (lv' := [(8, .int x122), (7, .ref a108), (0, .ref x0), (1, .int x1), (2, .int x2), (3, .int x3), (4, .int x4), (5, .int x5), (6, .int x6)]) hx hb dX8_suspectNow_144 hl (by decide) rfl (fun ls hl => ?_)
          refine lv_iload hx hb dX8_suspectNow_146 (lv_at hl 0 rfl) ?_
          refine lv_iload hx hb dX8_suspectNow_148 (lv_at hl 7 rfl) ?_
          refine lv_icmp_gt (tgt := 156) hx hb dX8_suspectNow_150 (by decide) (fun hc123 => ?_) (fun hc123 => ?_)
          · replace h := h.1 hc123
            refine lv_iload hx hb dX8_suspectNow_156 (lv_at hl 8 rfl) ?_
            refine lv_istore (lv' := [(4, .int x6), (8, .int x122), (7, .ref a108), (0, .ref x0), (1, .int x1), (2, .int x2), (3, .int x3), (5, .int x5), (6, .int x6)]) hx hb dX8_suspectNow_158 hl (by decide) rfl (fun ls hl => ?_)
            refine lv_iload hx hb dX8_suspectNow_160 (lv_at hl 1 rfl) ?_
            refine lv_istore (lv' := [(5, .int x122), (4, .int x6), (8, .int x122), (7, .ref a108), (0, .ref x0), (1, .int x1), (2, .int x2), (3, .int x3), (6, .int x6)]) hx hb dX8_suspectNow_162 hl (by decide) rfl (fun ls hl => ?_)
            exact t_X8_suspectNow_b164 C hml hr hlocks (fun x0 x1 x2 x3 x4 x5 x6 S h => ih x0 x1 x2 x3 x4 x5 x6 S h) h H locs ls hR hS (lv_sub (l' := [(0, .ref x0), (1, .int x1), (2, .int x2), (3, .int x3), (4, .int x6), (5, .int x122), (6, .int x6)]) hl [4, 5, 6, 7, 1, 0, 8] rfl)
          · replace h := h.2 hc123
            refine lv_goto (tgt := 164) hx hb dX8_suspectNow_153 (by decide) ?_
            exact t_X8_suspectNow_b164 C hml hr hlocks (fun x0 x1 x2 x3 x4 x5 x6 S h => ih x0 x1 x2 x3 x4 x5 x6 S h) h H locs ls hR hS (lv_sub (l' := [(0, .ref x0), (1, .int x1), (2, .int x2), (3, .int x3), (4, .int x4), (5, .int x5), (6, .int x6)]) hl [2, 3, 4, 5, 6, 7, 8] rfl)
        · replace h := h.2 hc114
          refine lv_goto (tgt := 164) hx hb dX8_suspectNow_126 (by decide) ?_
          exact t_X8_suspectNow_b164 C hml hr hlocks (fun x0 x1 x2 x3 x4 x5 x6 S h => ih x0 x1 x2 x3 x4 x5 x6 S h) h H locs ls hR hS (lv_sub (l' := [(0, .ref x0), (1, .int x1), (2, .int x2), (3, .int x3), (4, .int x4), (5, .int x5), (6, .int x6)]) hl [1, 2, 3, 4, 5, 6, 7] rfl)
set_option maxHeartbeats 4000000 in
theorem t_X8_suspectNow_b70 (C : x_C p s m args c cX8_suspectNow RX8 gg) (hml : c.maxLocals = 9) (hr : meth.sig.returnType = (some .int)) (hlocks : meth.locks = false) {x0 : Nat} {x1 : Int32} {x2 : Int32} {x3 : Int32} {x4 : Nat} {x5 : Int32} {x6 : Int32} {kk21 : Nat → Int32 → Int32 → Int32 → Nat → Int32 → Int32 → sT → Prop} {S : sT} (hk21 : ∀ (x0 : Nat) (x1 : Int32) (x2 : Int32) (x3 : Int32) (x4 : Nat) (x5 : Int32) (x6 : Int32) (S : sT), kk21 x0 x1 x2 x3 x4 x5 x6 S → x_X p l e r_X8_suspectNow s m args below meth c gg 9 0 0 (MQ below (va_Qi Q (fun S1 t => s_Rep gg S1 t.heap) (s_A gg)) args s 0 0 (s_A gg)) 21 [(0, .ref x0), (1, .int x1), (2, .int x2), (3, .int x3), (4, .ref x4), (5, .int x5), (6, .int x6)] [] S) {Q : Int32 → sT → Prop} (h : w_X8_suspectNow_b70 x0 x1 x2 x3 x4 x5 x6 S kk21 Q) : x_X p l e r_X8_suspectNow s m args below meth c gg 9 0 0 (MQ below (va_Qi Q (fun S1 t => s_Rep gg S1 t.heap) (s_A gg)) args s 0 0 (s_A gg)) 70 [(0, .ref x0), (1, .int x1), (2, .int x2), (3, .int x3), (4, .ref x4), (5, .int x5), (6, .int x6)] [] S := by
  unfold w_X8_suspectNow_b70 at h
  obtain ⟨hx, hb, -⟩ := id C
  intro H locs ls hR hS hl
  obtain ⟨x101, ex101⟩ : ∃ z : Int32, z = x6 + 1 := ⟨_, rfl⟩
  replace h := h x101 ex101
  refine lv_iinc (v := x101) (lv' := [(6, .int x101), (0, .ref x0), (1, .int x1), (2, .int x2), (3, .int x3), (4, .ref x4), (5, .int x5)]) hx hb dX8_suspectNow_70 hl (k := 6) rfl (by rw [ex101]; rfl) (by decide) rfl (fun ls hl => ?_)
  refine lv_goto (tgt := 21) hx hb dX8_suspectNow_73 (by decide) ?_
  exact hk21 x0 x1 x2 x3 x4 x5 x101 S h H locs ls hR hS (lv_sub (l' := [(0, .ref x0), (1, .int x1), (2, .int x2), (3, .int x3), (4, .ref x4), (5, .int x5), (6, .int x101)]) hl [1, 2, 3, 4, 5, 6, 0] rfl)
set_option maxHeartbeats 4000000 in
theorem t_X8_suspectNow_b21 (C : x_C p s m args c cX8_suspectNow RX8 gg) (hml : c.maxLocals = 9) (hr : meth.sig.returnType = (some .int)) (hlocks : meth.locks = false)   {Q : Int32 → sT → Prop} : ∀ (n : Nat) (x0 : Nat) (x1 : Int32) (x2 : Int32) (x3 : Int32) (x4 : Nat) (x5 : Int32) (x6 : Int32) (S : sT), w_X8_suspectNow_b21  Q n x0 x1 x2 x3 x4 x5 x6 S → x_X p l e r_X8_suspectNow s m args below meth c gg 9 0 0 (MQ below (va_Qi Q (fun S1 t => s_Rep gg S1 t.heap) (s_A gg)) args s 0 0 (s_A gg)) 21 [(0, .ref x0), (1, .int x1), (2, .int x2), (3, .int x3), (4, .ref x4), (5, .int x5), (6, .int x6)] [] S := by
  obtain ⟨hx, hb, -⟩ := id C
  intro n
  induction n with
  | zero => intro x0 x1 x2 x3 x4 x5 x6 S h; exact absurd h id
  | succ n ih =>
    intro x0 x1 x2 x3 x4 x5 x6 S h H locs ls hR hS hl
    unfold w_X8_suspectNow_b21 at h
    refine lv_iload hx hb dX8_suspectNow_21 (lv_at hl 6 rfl) ?_
    refine lv_iload hx hb dX8_suspectNow_23 (lv_at hl 5 rfl) ?_
    refine lv_icmp_ge (tgt := 76) hx hb dX8_suspectNow_25 (by decide) (fun hc101 => ?_) (fun hc101 => ?_)
    · replace h := h.1 hc101
      refine lv_iconst (v := (-1)) hx hb dX8_suspectNow_76 (by decide) ?_
      refine lv_istore (lv' := [(4, .int (-1 : Int32)), (0, .ref x0), (1, .int x1), (2, .int x2), (3, .int x3), (5, .int x5), (6, .int x6)]) hx hb dX8_suspectNow_77 hl (by decide) rfl (fun ls hl => ?_)
      refine lv_iconst (v := 0) hx hb dX8_suspectNow_79 (by decide) ?_
      refine lv_istore (lv' := [(5, .int (0 : Int32)), (4, .int (-1 : Int32)), (0, .ref x0), (1, .int x1), (2, .int x2), (3, .int x3), (6, .int x6)]) hx hb dX8_suspectNow_80 hl (by decide) rfl (fun ls hl => ?_)
      refine lv_iconst (v := 0) hx hb dX8_suspectNow_82 (by decide) ?_
      refine lv_istore (lv' := [(6, .int (0 : Int32)), (5, .int (0 : Int32)), (4, .int (-1 : Int32)), (0, .ref x0), (1, .int x1), (2, .int x2), (3, .int x3)]) hx hb dX8_suspectNow_83 hl (by decide) rfl (fun ls hl => ?_)
      obtain ⟨n9, h⟩ := h
      exact t_X8_suspectNow_b85 C hml hr hlocks  n9 x0 x1 x2 x3 (-1 : Int32) (0 : Int32) (0 : Int32) S h H locs ls hR hS (lv_sub (l' := [(0, .ref x0), (1, .int x1), (2, .int x2), (3, .int x3), (4, .int (-1 : Int32)), (5, .int (0 : Int32)), (6, .int (0 : Int32))]) hl [3, 4, 5, 6, 2, 1, 0] rfl)
    · replace h := h.2 hc101
      refine lv_aload hx hb dX8_suspectNow_28 (lv_at hl 4 rfl) ?_
      refine lv_iload hx hb dX8_suspectNow_30 (lv_at hl 6 rfl) ?_
      obtain ⟨hK_x4, h⟩ := h
      obtain ⟨hi102, a103, ea103, h⟩ := h
      refine x_aald13 C hR hK_x4 hi102 dX8_suspectNow_32 ?_
      refine x_some ea103 ?_
      refine lv_astore (lv' := [(7, .ref a103), (0, .ref x0), (1, .int x1), (2, .int x2), (3, .int x3), (4, .ref x4), (5, .int x5), (6, .int x6)]) hx hb dX8_suspectNow_33 hl (by decide) rfl (fun ls hl => ?_)
      refine lv_aload hx hb dX8_suspectNow_35 (lv_at hl 0 rfl) ?_
      refine lv_iconst (v := 0) hx hb dX8_suspectNow_37 (by decide) ?_
      obtain ⟨hK_a103, h⟩ := h
      obtain ⟨hi104, h⟩ := h
      refine x_iald C hR hK_a103 hi104 dX8_suspectNow_38 ?_
      refine lv_topi (fun x105 ex105 => ?_)
      replace h := h x105 ex105
      refine lv_iload_n hx hb dX8_suspectNow_39 rfl (lv_at hl 2 rfl) ?_
      refine lv_icmp_ne (tgt := 70) hx hb dX8_suspectNow_40 (by decide) (fun hc106 => ?_) (fun hc106 => ?_)
      · replace h := h.1 hc106
        exact t_X8_suspectNow_b70 C hml hr hlocks (fun x0 x1 x2 x3 x4 x5 x6 S h => ih x0 x1 x2 x3 x4 x5 x6 S h) h H locs ls hR hS (lv_sub (l' := [(0, .ref x0), (1, .int x1), (2, .int x2), (3, .int x3), (4, .ref x4), (5, .int x5), (6, .int x6)]) hl [1, 2, 3, 4, 5, 6, 7] rfl)
      · replace h := h.2 hc106
        refine lv_aload hx hb dX8_suspectNow_43 (lv_at hl 0 rfl) ?_
        refine lv_bipush (v := 11) hx hb dX8_suspectNow_45 (by decide) ?_
        obtain ⟨hi107, h⟩ := h
        refine x_iald C hR hK_a103 hi107 dX8_suspectNow_47 ?_
        refine lv_topi (fun x108 ex108 => ?_)
        replace h := h x108 ex108
        refine lv_if_ne (tgt := 54) hx hb dX8_suspectNow_48 (by decide) (fun hc109 => ?_) (fun hc109 => ?_)
        · replace h := h.1 hc109
          refine lv_iload_n hx hb dX8_suspectNow_54 rfl (lv_at hl 3 rfl) ?_
          refine lv_aload hx hb dX8_suspectNow_55 (lv_at hl 0 rfl) ?_
          refine lv_bipush (v := 11) hx hb dX8_suspectNow_57 (by decide) ?_
          obtain ⟨hi110, h⟩ := h
          refine x_iald C hR hK_a103 hi110 dX8_suspectNow_59 ?_
          refine lv_topi (fun x111 ex111 => ?_)
          replace h := h x111 ex111
          refine lv_iadd hx hb dX8_suspectNow_60 ?_
          refine lv_topi (fun x112 ex112 => ?_)
          replace h := h x112 ex112
          refine lv_istore_n (lv' := [(2, .int x112), (7, .ref a103), (0, .ref x0), (1, .int x1), (3, .int x3), (4, .ref x4), (5, .int x5), (6, .int x6)]) hx hb dX8_suspectNow_61 rfl hl (by decide) rfl (fun ls hl => ?_)
          refine lv_iload_n hx hb dX8_suspectNow_62 rfl (lv_at hl 4 rfl) ?_
          refine lv_aload hx hb dX8_suspectNow_63 (lv_at hl 1 rfl) ?_
          refine lv_bipush (v := 13) hx hb dX8_suspectNow_65 (by decide) ?_
          obtain ⟨hi113, h⟩ := h
          refine x_iald C hR hK_a103 hi113 dX8_suspectNow_67 ?_
          refine lv_topi (fun x114 ex114 => ?_)
          replace h := h x114 ex114
          refine lv_iadd hx hb dX8_suspectNow_68 ?_
          refine lv_topi (fun x115 ex115 => ?_)
          replace h := h x115 ex115
          refine lv_istore_n (lv' := [(3, .int x115), (2, .int x112), (7, .ref a103), (0, .ref x0), (1, .int x1), (4, .ref x4), (5, .int x5), (6, .int x6)]) hx hb dX8_suspectNow_69 rfl hl (by decide) rfl (fun ls hl => ?_)
          exact t_X8_suspectNow_b70 C hml hr hlocks (fun x0 x1 x2 x3 x4 x5 x6 S h => ih x0 x1 x2 x3 x4 x5 x6 S h) h H locs ls hR hS (lv_sub (l' := [(0, .ref x0), (1, .int x1), (2, .int x112), (3, .int x115), (4, .ref x4), (5, .int x5), (6, .int x6)]) hl [3, 4, 1, 0, 5, 6, 7] rfl)
        · replace h := h.2 hc109
          refine lv_goto (tgt := 70) hx hb dX8_suspectNow_51 (by decide) ?_
          exact t_X8_suspectNow_b70 C hml hr hlocks (fun x0 x1 x2 x3 x4 x5 x6 S h => ih x0 x1 x2 x3 x4 x5 x6 S h) h H locs ls hR hS (lv_sub (l' := [(0, .ref x0), (1, .int x1), (2, .int x2), (3, .int x3), (4, .ref x4), (5, .int x5), (6, .int x6)]) hl [1, 2, 3, 4, 5, 6, 7] rfl)
set_option maxHeartbeats 4000000 in
theorem t_X8_suspectNow_b0 (C : x_C p s m args c cX8_suspectNow RX8 gg) (hml : c.maxLocals = 9) (hr : meth.sig.returnType = (some .int)) (hlocks : meth.locks = false) {x0 : Nat} {x1 : Int32}  {S : sT}  {Q : Int32 → sT → Prop} (h : w_X8_suspectNow_b0 x0 x1 S  Q) : x_X p l e r_X8_suspectNow s m args below meth c gg 9 0 0 (MQ below (va_Qi Q (fun S1 t => s_Rep gg S1 t.heap) (s_A gg)) args s 0 0 (s_A gg)) 0 [(0, .ref x0), (1, .int x1)] [] S := by
  unfold w_X8_suspectNow_b0 at h
  obtain ⟨hx, hb, -⟩ := id C
  intro H locs ls hR hS hl
  refine lv_iconst (v := 0) hx hb dX8_suspectNow_0 (by decide) ?_
  refine lv_istore_n (lv' := [(2, .int (0 : Int32)), (0, .ref x0), (1, .int x1)]) hx hb dX8_suspectNow_1 rfl hl (by decide) rfl (fun ls hl => ?_)
  refine lv_iconst (v := 0) hx hb dX8_suspectNow_2 (by decide) ?_
  refine lv_istore_n (lv' := [(3, .int (0 : Int32)), (2, .int (0 : Int32)), (0, .ref x0), (1, .int x1)]) hx hb dX8_suspectNow_3 rfl hl (by decide) rfl (fun ls hl => ?_)
  refine lv_aload_n hx hb dX8_suspectNow_4 rfl (lv_at hl 2 rfl) ?_
  obtain ⟨hK_x0, h⟩ := h
  refine x_g_289 C hR hK_x0 q_3_8 dX8_suspectNow_5 ?_
  obtain ⟨a101, ea101, h⟩ := h
  refine x_some ea101 ?_
  obtain ⟨hK_a101, h⟩ := h
  refine x_gN_257 C hR hK_a101 ⟨rfl, C.2.2.2.2.2.2.1 _ (List.mem_of_getElem? (i := 1) rfl)⟩ dX8_suspectNow_8 ?_
  obtain ⟨a102, ea102, h⟩ := h
  refine x_some ea102 ?_
  refine lv_astore (lv' := [(4, .ref a102), (3, .int (0 : Int32)), (2, .int (0 : Int32)), (0, .ref x0), (1, .int x1)]) hx hb dX8_suspectNow_11 hl (by decide) rfl (fun ls hl => ?_)
  refine lv_aload hx hb dX8_suspectNow_13 (lv_at hl 0 rfl) ?_
  obtain ⟨hK_a102, h⟩ := h
  refine x_alen13 C hR hK_a102 dX8_suspectNow_15 ?_
  refine lv_topi (fun x103 ex103 => ?_)
  replace h := h x103 ex103
  refine lv_istore (lv' := [(5, .int x103), (4, .ref a102), (3, .int (0 : Int32)), (2, .int (0 : Int32)), (0, .ref x0), (1, .int x1)]) hx hb dX8_suspectNow_16 hl (by decide) rfl (fun ls hl => ?_)
  refine lv_iconst (v := 0) hx hb dX8_suspectNow_18 (by decide) ?_
  refine lv_istore (lv' := [(6, .int (0 : Int32)), (5, .int x103), (4, .ref a102), (3, .int (0 : Int32)), (2, .int (0 : Int32)), (0, .ref x0), (1, .int x1)]) hx hb dX8_suspectNow_19 hl (by decide) rfl (fun ls hl => ?_)
  obtain ⟨n9, h⟩ := h
  exact t_X8_suspectNow_b21 C hml hr hlocks  n9 x0 x1 (0 : Int32) (0 : Int32) a102 x103 (0 : Int32) S h H locs ls hR hS (lv_sub (l' := [(0, .ref x0), (1, .int x1), (2, .int (0 : Int32)), (3, .int (0 : Int32)), (4, .ref a102), (5, .int x103), (6, .int (0 : Int32))]) hl [5, 6, 4, 3, 2, 1, 0] rfl)
theorem m_X8_suspectNow (l : Launch) (gg : sG) (x0 : Nat) (x1 : Int32) (S : sT) {Q : Int32 → sT → Prop} (h : w_X8_suspectNow x0 x1 S Q) : x_Mi l gg yX8_suspectNow (x_ws yX8_suspectNow cX8_suspectNow 9 (some .int)) r_X8_suspectNow [.ref x0, .int x1] S Q 0 0 := by
  refine x_ofW (cc := cX8_suspectNow) (own := RX8) (by decide +kernel) rfl (Nat.le_of_ble_eq_true rfl) ?_
  intro p e s m args below meth c C hml hr hlocks hin ht H locs ls hR hS hl
  exact t_X8_suspectNow_b0 C hml hr hlocks h H locs ls hR hS (lv_sub (l' := [(0, .ref x0), (1, .int x1)]) hl [0, 1] rfl)
def w_X8_suspect_b26 (y0 : Int32) (S : sT)  (Q : Int32 → sT → Prop) : Prop :=
Q y0 S
def w_X8_suspect_b0 (x0 : Nat) (x1 : Int32) (S : sT)  (Q : Int32 → sT → Prop) : Prop :=
s_K S x0 = 10 ∧
    ∀ S101 : sT, S101 = s_sI S 288 x0 (0 : Int32) →
    w_X8_isSociety x0 x1 S101 (fun x103 S102 =>
    ((x103 = 0 → s_K S102 x0 = 10 ∧
    w_X8_refuse x0 (1 : Int32) S102 (fun x106 S105 =>
    w_X8_suspect_b26 x106 S105  Q)) ∧
    (¬ x103 = 0 → s_K S102 x0 = 10 ∧
    w_X8_suspectNow x0 x1 S102 (fun x108 S107 =>
    w_X8_suspect_b26 x108 S107  Q))))
def w_X8_suspect (x0 : Nat) (x1 : Int32) (S : sT) (Q : Int32 → sT → Prop) : Prop := w_X8_suspect_b0 x0 x1 S Q
def r_X8_suspect : Room := x_rm 2 43 0 0
theorem b_X8_suspect : x_BV yX8_suspect cX8_suspect 2 (some .int) 1 := ⟨q_38_18, q_38_16, q_38_17, q_1_5, by decide +kernel⟩
set_option maxHeartbeats 4000000 in
theorem t_X8_suspect_b26 (C : x_C p s m args c cX8_suspect RX8 gg) (hml : c.maxLocals = 2) (hr : meth.sig.returnType = (some .int)) (hlocks : meth.locks = false) {y0 : Int32}  {S : sT}  {Q : Int32 → sT → Prop} (h : w_X8_suspect_b26 y0 S  Q) : x_X p l e r_X8_suspect s m args below meth c gg 2 0 0 (MQ below (va_Qi Q (fun S1 t => s_Rep gg S1 t.heap) (s_A gg)) args s 0 0 (s_A gg)) 26 [] [.int y0] S := by
  unfold w_X8_suspect_b26 at h
  obtain ⟨hx, hb, -⟩ := id C
  intro H locs ls hR hS hl
  exact W.iret (v := y0) hx hb hr (fun t ht hW => ⟨⟨y0, S, rfl, h, x_rt ht hR⟩, hS.F ht⟩) hS.2.2 dX8_suspect_26
set_option maxHeartbeats 4000000 in
theorem t_X8_suspect_b0 (C : x_C p s m args c cX8_suspect RX8 gg) (hml : c.maxLocals = 2) (hr : meth.sig.returnType = (some .int)) (hlocks : meth.locks = false) {x0 : Nat} {x1 : Int32}  {S : sT}  {Q : Int32 → sT → Prop} (h : w_X8_suspect_b0 x0 x1 S  Q) : x_X p l e r_X8_suspect s m args below meth c gg 2 0 0 (MQ below (va_Qi Q (fun S1 t => s_Rep gg S1 t.heap) (s_A gg)) args s 0 0 (s_A gg)) 0 [(0, .ref x0), (1, .int x1)] [] S := by
  unfold w_X8_suspect_b0 at h
  obtain ⟨hx, hb, -⟩ := id C
  intro H locs ls hR hS hl
  refine lv_aload_n hx hb dX8_suspect_0 rfl (lv_at hl 0 rfl) ?_
  refine lv_iconst (v := 0) hx hb dX8_suspect_1 (by decide) ?_
  obtain ⟨hK_x0, h⟩ := h
  refine x_p_288 (v := (0 : Int32)) C hR hK_x0 hS q_8_1 dX8_suspect_2 (fun H locs hR hS => ?_)
  obtain ⟨S101, eS101⟩ : ∃ z : sT, z = s_sI S 288 x0 (0 : Int32) := ⟨_, rfl⟩
  rw [← eS101] at hR
  replace h := h S101 eS101
  have hK_x0 : s_K S101 x0 = 10 := by rw [eS101]; exact hK_x0
  refine lv_aload_n hx hb dX8_suspect_5 rfl (lv_at hl 0 rfl) ?_
  refine lv_iload_n hx hb dX8_suspect_6 rfl (lv_at hl 1 rfl) ?_
  refine x_ki (x_runV (As := [.int x1]) (rest := []) C hml hR hS (m_X8_isSociety l gg x0 x1 S101 h) b_X8_isSociety q_12_10 (by rw [hK_x0]; decide) (s_E_9 hK_x0) rfl rfl rfl rfl ⟨Nat.le_of_ble_eq_true rfl, Nat.le_of_ble_eq_true rfl⟩ rfl hl.1 (Nat.le_of_ble_eq_true rfl) dX8_suspect_7 ⟨Nat.le_refl _, Nat.le_refl _⟩) hS (fun x103 S102 H locs h hR hS => ?_)
  refine lv_if_eq (tgt := 21) hx hb dX8_suspect_10 (by decide) (fun hc104 => ?_) (fun hc104 => ?_)
  · replace h := h.1 hc104
    refine lv_aload_n hx hb dX8_suspect_21 rfl (lv_at hl 0 rfl) ?_
    refine lv_iconst (v := 1) hx hb dX8_suspect_22 (by decide) ?_
    obtain ⟨hK_x0, h⟩ := h
    refine x_ki (x_runV (As := [.int (1 : Int32)]) (rest := []) C hml hR hS (m_X8_refuse l gg x0 (1 : Int32) S102 h) b_X8_refuse q_8_5 (by rw [hK_x0]; decide) (s_E_9 hK_x0) rfl rfl rfl rfl ⟨Nat.le_of_ble_eq_true rfl, Nat.le_of_ble_eq_true rfl⟩ rfl hl.1 (Nat.le_of_ble_eq_true rfl) dX8_suspect_23 ⟨Nat.le_refl _, Nat.le_refl _⟩) hS (fun x106 S105 H locs h hR hS => ?_)
    exact t_X8_suspect_b26 C hml hr hlocks  h H locs ls hR hS (lv_sub (l' := []) hl [] rfl)
  · replace h := h.2 hc104
    refine lv_aload_n hx hb dX8_suspect_13 rfl (lv_at hl 0 rfl) ?_
    refine lv_iload_n hx hb dX8_suspect_14 rfl (lv_at hl 1 rfl) ?_
    obtain ⟨hK_x0, h⟩ := h
    refine x_ki (x_runV (As := [.int x1]) (rest := []) C hml hR hS (m_X8_suspectNow l gg x0 x1 S102 h) b_X8_suspectNow q_38_19 (by rw [hK_x0]; decide) (s_E_9 hK_x0) rfl rfl rfl rfl ⟨Nat.le_of_ble_eq_true rfl, Nat.le_of_ble_eq_true rfl⟩ rfl hl.1 (Nat.le_of_ble_eq_true rfl) dX8_suspect_15 ⟨Nat.le_refl _, Nat.le_refl _⟩) hS (fun x108 S107 H locs h hR hS => ?_)
    refine lv_goto (tgt := 26) hx hb dX8_suspect_18 (by decide) ?_
    exact t_X8_suspect_b26 C hml hr hlocks  h H locs ls hR hS (lv_sub (l' := []) hl [] rfl)
theorem m_X8_suspect (l : Launch) (gg : sG) (x0 : Nat) (x1 : Int32) (S : sT) {Q : Int32 → sT → Prop} (h : w_X8_suspect x0 x1 S Q) : x_Mi l gg yX8_suspect (x_ws yX8_suspect cX8_suspect 2 (some .int)) r_X8_suspect [.ref x0, .int x1] S Q 0 0 := by
  refine x_ofW (cc := cX8_suspect) (own := RX8) (by decide +kernel) rfl (Nat.le_of_ble_eq_true rfl) ?_
  intro p e s m args below meth c C hml hr hlocks hin ht H locs ls hR hS hl
  exact t_X8_suspect_b0 C hml hr hlocks h H locs ls hR hS (lv_sub (l' := [(0, .ref x0), (1, .int x1)]) hl [0, 1] rfl)
def w_X8_isLong_b0 (x0 : Int32) (S : sT)  (Q : Int32 → sT → Prop) : Prop :=
w_X8_is x0 (1 : Int32) (40 : Int32) S (fun x102 S101 =>
    (x102 = 0 ∨ x102 = 1) ∧
    Q x102 S101)
def w_X8_isLong (x0 : Int32) (S : sT) (Q : Int32 → sT → Prop) : Prop := w_X8_isLong_b0 x0 S Q
def r_X8_isLong : Room := x_rm 1 22 0 0
theorem b_X8_isLong : x_BS yX8_isLong cX8_isLong 1 (some .boolean) 1 := ⟨q_40_19, q_40_18, q_1_5, by decide +kernel⟩
set_option maxHeartbeats 4000000 in
theorem t_X8_isLong_b0 (C : x_C p s m args c cX8_isLong RX8 gg) (hml : c.maxLocals = 1) (hr : meth.sig.returnType = (some .boolean)) (hlocks : meth.locks = false) {x0 : Int32}  {S : sT}  {Q : Int32 → sT → Prop} (h : w_X8_isLong_b0 x0 S  Q) : x_X p l e r_X8_isLong s m args below meth c gg 1 0 0 (MQ below (va_Qi Q (fun S1 t => s_Rep gg S1 t.heap) (s_A gg)) args s 0 0 (s_A gg)) 0 [(0, .int x0)] [] S := by
  unfold w_X8_isLong_b0 at h
  obtain ⟨hx, hb, -⟩ := id C
  intro H locs ls hR hS hl
  refine lv_iload_n hx hb dX8_isLong_0 rfl (lv_at hl 0 rfl) ?_
  refine lv_iconst (v := 1) hx hb dX8_isLong_1 (by decide) ?_
  refine lv_bipush (v := 40) hx hb dX8_isLong_2 (by decide) ?_
  refine x_ki (x_runS (As := [.int x0, .int (1 : Int32), .int (40 : Int32)]) (rest := []) C hml hR hS (m_X8_is l gg x0 (1 : Int32) (40 : Int32) S h) b_X8_is q_8_2 rfl rfl ⟨Nat.le_of_ble_eq_true rfl, Nat.le_of_ble_eq_true rfl⟩ rfl hl.1 (Nat.le_of_ble_eq_true rfl) dX8_isLong_4 ⟨Nat.le_refl _, Nat.le_refl _⟩) hS (fun x102 S101 H locs h hR hS => ?_)
  obtain ⟨hz103, h⟩ := h
  exact W.zret (v := x102) hx hb hr (zb_n hz103) (fun t ht hW => ⟨⟨x102, S101, rfl, h, x_rt ht hR⟩, hS.F ht⟩) hS.2.2 dX8_isLong_7
theorem m_X8_isLong (l : Launch) (gg : sG) (x0 : Int32) (S : sT) {Q : Int32 → sT → Prop} (h : w_X8_isLong x0 S Q) : x_Mi l gg yX8_isLong (x_ws yX8_isLong cX8_isLong 1 (some .boolean)) r_X8_isLong [.int x0] S Q 0 0 := by
  refine x_ofW (cc := cX8_isLong) (own := RX8) (by decide +kernel) rfl (Nat.le_of_ble_eq_true rfl) ?_
  intro p e s m args below meth c C hml hr hlocks hin ht H locs ls hR hS hl
  exact t_X8_isLong_b0 C hml hr hlocks h H locs ls hR hS (lv_sub (l' := [(0, .int x0)]) hl [0] rfl)
def w_X8_plantAll_b49 (x0 : Nat) (x1 : Int32) (x2 : Int32) (x3 : Int32) (S : sT) (kk2 : Nat → Int32 → Int32 → Int32 → sT → Prop) (Q : sT → Prop) : Prop :=
∀ x101 : Int32, x101 = x3 + 1 →
    kk2 x0 x1 x2 x101 S
def w_X8_plantAll_b2  (Q : sT → Prop) : Nat → Nat → Int32 → Int32 → Int32 → sT → Prop
  | 0 => fun _ _ _ _ _ => False
  | n + 1 => fun x0 x1 x2 x3 S =>
s_K S x0 = 9 ∧
    ∃ a101 : Nat, s_R S 257 x0 = some a101 ∧
    s_K S a101 = 13 ∧
    ∀ x102 : Int32, x102 = nI (s_N S a101) →
    ((x102 ≤ x3 → Q S) ∧
    (¬ x102 ≤ x3 → ∃ a104 : Nat, s_R S 257 x0 = some a104 ∧
    s_K S a104 = 13 ∧
    vp_in x3 (s_N S a104) ∧
    ∃ a106 : Nat, s_P S a104 (Int32.toNatClampNeg x3) = some a106 ∧
    s_K S a106 = 11 ∧
    vp_in (0 : Int32) (s_N S a106) ∧
    ∀ x108 : Int32, x108 = s_B S a106 (Int32.toNatClampNeg (0 : Int32)) →
    ((¬ x108 = x1 → w_X8_plantAll_b49 x0 x1 x2 x3 S (fun x0 x1 x2 x3 S => w_X8_plantAll_b2  Q n x0 x1 x2 x3 S) Q) ∧
    (x108 = x1 → vp_in (4 : Int32) (s_N S a106) ∧
    ∀ x111 : Int32, x111 = s_B S a106 (Int32.toNatClampNeg (4 : Int32)) →
    ((x111 ≤ (1 : Int32) → w_X7_plant x0 x3 x2 S (fun S113 =>
    s_K S113 a106 = 11 ∧
    vp_in (2 : Int32) (s_N S113 a106) ∧
    ∀ S115 : sT, S115 = s_sB S113 a106 (Int32.toNatClampNeg (2 : Int32)) (0 : Int32) →
    w_X8_plantAll_b49 x0 x1 x2 x3 S115 (fun x0 x1 x2 x3 S => w_X8_plantAll_b2  Q n x0 x1 x2 x3 S) Q)) ∧
    (¬ x111 ≤ (1 : Int32) → w_X8_plantAll_b49 x0 x1 x2 x3 S (fun x0 x1 x2 x3 S => w_X8_plantAll_b2  Q n x0 x1 x2 x3 S) Q))))))
def w_X8_plantAll_b0 (x0 : Nat) (x1 : Int32) (x2 : Int32) (S : sT)  (Q : sT → Prop) : Prop :=
∃ n : Nat, w_X8_plantAll_b2  Q n x0 x1 x2 (0 : Int32) S
def w_X8_plantAll (x0 : Nat) (x1 : Int32) (x2 : Int32) (S : sT) (Q : sT → Prop) : Prop := w_X8_plantAll_b0 x0 x1 x2 S Q
def r_X8_plantAll : Room := x_rm 1 23 0 0
theorem b_X8_plantAll : x_BS yX8_plantAll cX8_plantAll 5 none 3 := ⟨q_43_16, q_43_15, q_1_5, by decide +kernel⟩
set_option maxHeartbeats 4000000 in
theorem t_X8_plantAll_b49 (C : x_C p s m args c cX8_plantAll RX8 gg) (hml : c.maxLocals = 5) (hr : meth.sig.returnType = none) (hlocks : meth.locks = false) {x0 : Nat} {x1 : Int32} {x2 : Int32} {x3 : Int32} {kk2 : Nat → Int32 → Int32 → Int32 → sT → Prop} {S : sT} (hk2 : ∀ (x0 : Nat) (x1 : Int32) (x2 : Int32) (x3 : Int32) (S : sT), kk2 x0 x1 x2 x3 S → x_X p l e r_X8_plantAll s m args below meth c gg 5 0 0 (MQ below (va_Qv Q (fun S1 t => s_Rep gg S1 t.heap) (s_A gg)) args s 0 0 (s_A gg)) 2 [(0, .ref x0), (1, .int x1), (2, .int x2), (3, .int x3)] [] S) {Q : sT → Prop} (h : w_X8_plantAll_b49 x0 x1 x2 x3 S kk2 Q) : x_X p l e r_X8_plantAll s m args below meth c gg 5 0 0 (MQ below (va_Qv Q (fun S1 t => s_Rep gg S1 t.heap) (s_A gg)) args s 0 0 (s_A gg)) 49 [(0, .ref x0), (1, .int x1), (2, .int x2), (3, .int x3)] [] S := by
  unfold w_X8_plantAll_b49 at h
  obtain ⟨hx, hb, -⟩ := id C
  intro H locs ls hR hS hl
  obtain ⟨x101, ex101⟩ : ∃ z : Int32, z = x3 + 1 := ⟨_, rfl⟩
  replace h := h x101 ex101
  refine lv_iinc (v := x101) (lv' := [(3, .int x101), (0, .ref x0), (1, .int x1), (2, .int x2)]) hx hb dX8_plantAll_49 hl (k := 3) rfl (by rw [ex101]; rfl) (by decide) rfl (fun ls hl => ?_)
  refine lv_goto (tgt := 2) hx hb dX8_plantAll_52 (by decide) ?_
  exact hk2 x0 x1 x2 x101 S h H locs ls hR hS (lv_sub (l' := [(0, .ref x0), (1, .int x1), (2, .int x2), (3, .int x101)]) hl [1, 2, 3, 0] rfl)
set_option maxHeartbeats 4000000 in
theorem t_X8_plantAll_b2 (C : x_C p s m args c cX8_plantAll RX8 gg) (hml : c.maxLocals = 5) (hr : meth.sig.returnType = none) (hlocks : meth.locks = false)   {Q : sT → Prop} : ∀ (n : Nat) (x0 : Nat) (x1 : Int32) (x2 : Int32) (x3 : Int32) (S : sT), w_X8_plantAll_b2  Q n x0 x1 x2 x3 S → x_X p l e r_X8_plantAll s m args below meth c gg 5 0 0 (MQ below (va_Qv Q (fun S1 t => s_Rep gg S1 t.heap) (s_A gg)) args s 0 0 (s_A gg)) 2 [(0, .ref x0), (1, .int x1), (2, .int x2), (3, .int x3)] [] S := by
  obtain ⟨hx, hb, -⟩ := id C
  intro n
  induction n with
  | zero => intro x0 x1 x2 x3 S h; exact absurd h id
  | succ n ih =>
    intro x0 x1 x2 x3 S h H locs ls hR hS hl
    unfold w_X8_plantAll_b2 at h
    refine lv_iload_n hx hb dX8_plantAll_2 rfl (lv_at hl 3 rfl) ?_
    refine lv_aload_n hx hb dX8_plantAll_3 rfl (lv_at hl 0 rfl) ?_
    obtain ⟨hK_x0, h⟩ := h
    refine x_gN_257 C hR hK_x0 ⟨rfl, C.2.2.2.2.2.2.1 _ (List.mem_of_getElem? (i := 1) rfl)⟩ dX8_plantAll_4 ?_
    obtain ⟨a101, ea101, h⟩ := h
    refine x_some ea101 ?_
    obtain ⟨hK_a101, h⟩ := h
    refine x_alen13 C hR hK_a101 dX8_plantAll_7 ?_
    refine lv_topi (fun x102 ex102 => ?_)
    replace h := h x102 ex102
    refine lv_icmp_ge (tgt := 55) hx hb dX8_plantAll_8 (by decide) (fun hc103 => ?_) (fun hc103 => ?_)
    · replace h := h.1 hc103
      exact W.vret hx hb hr (fun t ht hW => ⟨⟨S, rfl, h, x_rt ht hR⟩, hS.F ht⟩) hS.2.2 dX8_plantAll_55
    · replace h := h.2 hc103
      refine lv_aload_n hx hb dX8_plantAll_11 rfl (lv_at hl 0 rfl) ?_
      refine x_gN_257 C hR hK_x0 ⟨rfl, C.2.2.2.2.2.2.1 _ (List.mem_of_getElem? (i := 1) rfl)⟩ dX8_plantAll_12 ?_
      obtain ⟨a104, ea104, h⟩ := h
      refine x_some ea104 ?_
      refine lv_iload_n hx hb dX8_plantAll_15 rfl (lv_at hl 3 rfl) ?_
      obtain ⟨hK_a104, h⟩ := h
      obtain ⟨hi105, a106, ea106, h⟩ := h
      refine x_aald13 C hR hK_a104 hi105 dX8_plantAll_16 ?_
      refine x_some ea106 ?_
      refine lv_astore (lv' := [(4, .ref a106), (0, .ref x0), (1, .int x1), (2, .int x2), (3, .int x3)]) hx hb dX8_plantAll_17 hl (by decide) rfl (fun ls hl => ?_)
      refine lv_aload hx hb dX8_plantAll_19 (lv_at hl 0 rfl) ?_
      refine lv_iconst (v := 0) hx hb dX8_plantAll_21 (by decide) ?_
      obtain ⟨hK_a106, h⟩ := h
      obtain ⟨hi107, h⟩ := h
      refine x_iald C hR hK_a106 hi107 dX8_plantAll_22 ?_
      refine lv_topi (fun x108 ex108 => ?_)
      replace h := h x108 ex108
      refine lv_iload_n hx hb dX8_plantAll_23 rfl (lv_at hl 2 rfl) ?_
      refine lv_icmp_ne (tgt := 49) hx hb dX8_plantAll_24 (by decide) (fun hc109 => ?_) (fun hc109 => ?_)
      · replace h := h.1 hc109
        exact t_X8_plantAll_b49 C hml hr hlocks (fun x0 x1 x2 x3 S h => ih x0 x1 x2 x3 S h) h H locs ls hR hS (lv_sub (l' := [(0, .ref x0), (1, .int x1), (2, .int x2), (3, .int x3)]) hl [1, 2, 3, 4] rfl)
      · replace h := h.2 hc109
        refine lv_aload hx hb dX8_plantAll_27 (lv_at hl 0 rfl) ?_
        refine lv_iconst (v := 4) hx hb dX8_plantAll_29 (by decide) ?_
        obtain ⟨hi110, h⟩ := h
        refine x_iald C hR hK_a106 hi110 dX8_plantAll_30 ?_
        refine lv_topi (fun x111 ex111 => ?_)
        replace h := h x111 ex111
        refine lv_iconst (v := 1) hx hb dX8_plantAll_31 (by decide) ?_
        refine lv_icmp_le (tgt := 38) hx hb dX8_plantAll_32 (by decide) (fun hc112 => ?_) (fun hc112 => ?_)
        · replace h := h.1 hc112
          refine lv_aload_n hx hb dX8_plantAll_38 rfl (lv_at hl 1 rfl) ?_
          refine lv_iload_n hx hb dX8_plantAll_39 rfl (lv_at hl 4 rfl) ?_
          refine lv_iload_n hx hb dX8_plantAll_40 rfl (lv_at hl 3 rfl) ?_
          refine x_kv (x_runV (As := [.int x3, .int x2]) (rest := []) C hml hR hS (m_X7_plant l gg x0 x3 x2 S h) b_X7_plant q_16_10 (by rw [hK_x0]; decide) (s_E_8 hK_x0) rfl rfl rfl rfl ⟨Nat.le_of_ble_eq_true rfl, Nat.le_of_ble_eq_true rfl⟩ rfl hl.1 (Nat.le_of_ble_eq_true rfl) dX8_plantAll_41 ⟨Nat.le_refl _, Nat.le_refl _⟩) hS (fun S113 H locs h hR hS => ?_)
          refine lv_aload hx hb dX8_plantAll_44 (lv_at hl 0 rfl) ?_
          refine lv_iconst (v := 2) hx hb dX8_plantAll_46 (by decide) ?_
          refine lv_iconst (v := 0) hx hb dX8_plantAll_47 (by decide) ?_
          obtain ⟨hK_a106, h⟩ := h
          obtain ⟨hi114, h⟩ := h
          refine x_iast C hR hK_a106 hS hi114 dX8_plantAll_48 (fun H locs hR hS => ?_)
          obtain ⟨S115, eS115⟩ : ∃ z : sT, z = s_sB S113 a106 (Int32.toNatClampNeg (2 : Int32)) (0 : Int32) := ⟨_, rfl⟩
          rw [← eS115] at hR
          replace h := h S115 eS115
          have hK_a106 : s_K S115 a106 = 11 := by rw [eS115]; exact hK_a106
          exact t_X8_plantAll_b49 C hml hr hlocks (fun x0 x1 x2 x3 S h => ih x0 x1 x2 x3 S h) h H locs ls hR hS (lv_sub (l' := [(0, .ref x0), (1, .int x1), (2, .int x2), (3, .int x3)]) hl [1, 2, 3, 4] rfl)
        · replace h := h.2 hc112
          refine lv_goto (tgt := 49) hx hb dX8_plantAll_35 (by decide) ?_
          exact t_X8_plantAll_b49 C hml hr hlocks (fun x0 x1 x2 x3 S h => ih x0 x1 x2 x3 S h) h H locs ls hR hS (lv_sub (l' := [(0, .ref x0), (1, .int x1), (2, .int x2), (3, .int x3)]) hl [1, 2, 3, 4] rfl)
set_option maxHeartbeats 4000000 in
theorem t_X8_plantAll_b0 (C : x_C p s m args c cX8_plantAll RX8 gg) (hml : c.maxLocals = 5) (hr : meth.sig.returnType = none) (hlocks : meth.locks = false) {x0 : Nat} {x1 : Int32} {x2 : Int32}  {S : sT}  {Q : sT → Prop} (h : w_X8_plantAll_b0 x0 x1 x2 S  Q) : x_X p l e r_X8_plantAll s m args below meth c gg 5 0 0 (MQ below (va_Qv Q (fun S1 t => s_Rep gg S1 t.heap) (s_A gg)) args s 0 0 (s_A gg)) 0 [(0, .ref x0), (1, .int x1), (2, .int x2)] [] S := by
  unfold w_X8_plantAll_b0 at h
  obtain ⟨hx, hb, -⟩ := id C
  intro H locs ls hR hS hl
  refine lv_iconst (v := 0) hx hb dX8_plantAll_0 (by decide) ?_
  refine lv_istore_n (lv' := [(3, .int (0 : Int32)), (0, .ref x0), (1, .int x1), (2, .int x2)]) hx hb dX8_plantAll_1 rfl hl (by decide) rfl (fun ls hl => ?_)
  obtain ⟨n9, h⟩ := h
  exact t_X8_plantAll_b2 C hml hr hlocks  n9 x0 x1 x2 (0 : Int32) S h H locs ls hR hS (lv_sub (l' := [(0, .ref x0), (1, .int x1), (2, .int x2), (3, .int (0 : Int32))]) hl [1, 2, 3, 0] rfl)
theorem m_X8_plantAll (l : Launch) (gg : sG) (x0 : Nat) (x1 : Int32) (x2 : Int32) (S : sT) {Q : sT → Prop} (h : w_X8_plantAll x0 x1 x2 S Q) : x_Mv l gg yX8_plantAll (x_ws yX8_plantAll cX8_plantAll 5 none) r_X8_plantAll [.ref x0, .int x1, .int x2] S Q 0 0 := by
  refine x_ofW (cc := cX8_plantAll) (own := RX8) (by decide +kernel) rfl (Nat.le_of_ble_eq_true rfl) ?_
  intro p e s m args below meth c C hml hr hlocks hin ht H locs ls hR hS hl
  exact t_X8_plantAll_b0 C hml hr hlocks h H locs ls hR hS (lv_sub (l' := [(0, .ref x0), (1, .int x1), (2, .int x2)]) hl [0, 1, 2] rfl)
def w_X8_add_b0 (x0 : Nat) (x1 : Int32) (S : sT)  (Q : sT → Prop) : Prop :=
s_K S x0 = 10 ∧
    ∀ j101 : Int64, j101 = s_J S x0 →
    ∀ j102 : Int64, j102 = j101 * (31 : Int64) →
    ∀ j103 : Int64, j103 = Int32.toInt64 x1 →
    ∀ j104 : Int64, j104 = j102 + j103 →
    ∀ S105 : sT, S105 = s_sJ S x0 j104 →
    Q S105
def w_X8_add (x0 : Nat) (x1 : Int32) (S : sT) (Q : sT → Prop) : Prop := w_X8_add_b0 x0 x1 S Q
def r_X8_add : Room := x_rm 0 0 0 0
theorem b_X8_add : x_BV yX8_add cX8_add 2 none 1 := ⟨q_45_2, q_45_0, q_45_1, q_1_5, by decide +kernel⟩
set_option maxHeartbeats 4000000 in
theorem t_X8_add_b0 (C : x_C p s m args c cX8_add RX8 gg) (hml : c.maxLocals = 2) (hr : meth.sig.returnType = none) (hlocks : meth.locks = false) {x0 : Nat} {x1 : Int32}  {S : sT}  {Q : sT → Prop} (h : w_X8_add_b0 x0 x1 S  Q) : x_X p l e r_X8_add s m args below meth c gg 2 0 0 (MQ below (va_Qv Q (fun S1 t => s_Rep gg S1 t.heap) (s_A gg)) args s 0 0 (s_A gg)) 0 [(0, .ref x0), (1, .int x1)] [] S := by
  unfold w_X8_add_b0 at h
  obtain ⟨hx, hb, -⟩ := id C
  intro H locs ls hR hS hl
  refine lv_aload_n hx hb dX8_add_0 rfl (lv_at hl 0 rfl) ?_
  refine lv_aload_n hx hb dX8_add_1 rfl (lv_at hl 0 rfl) ?_
  obtain ⟨hK_x0, h⟩ := h
  refine x_g_290 C hR hK_x0 q_44_22 dX8_add_2 ?_
  refine lv_topl (fun j101 ej101 => ?_)
  replace h := h j101 ej101
  refine lv_ldc2 hx hb C.2.2.2.1 (C.2.2.1 _ q_45_3) dX8_add_5 ?_
  refine lv_lmul hx hb dX8_add_8 ?_
  refine lv_topl (fun j102 ej102 => ?_)
  replace h := h j102 ej102
  refine lv_iload_n hx hb dX8_add_9 rfl (lv_at hl 1 rfl) ?_
  refine lv_i2l hx hb dX8_add_10 rfl ?_
  refine lv_topl (fun j103 ej103 => ?_)
  replace h := h j103 ej103
  refine lv_ladd hx hb dX8_add_11 ?_
  refine lv_topl (fun j104 ej104 => ?_)
  replace h := h j104 ej104
  refine x_p_290 (v := j104) C hR hK_x0 hS q_44_22 dX8_add_12 (fun H locs hR hS => ?_)
  obtain ⟨S105, eS105⟩ : ∃ z : sT, z = s_sJ S x0 j104 := ⟨_, rfl⟩
  rw [← eS105] at hR
  replace h := h S105 eS105
  have hK_x0 : s_K S105 x0 = 10 := by rw [eS105]; exact hK_x0
  exact W.vret hx hb hr (fun t ht hW => ⟨⟨S105, rfl, h, x_rt ht hR⟩, hS.F ht⟩) hS.2.2 dX8_add_15
theorem m_X8_add (l : Launch) (gg : sG) (x0 : Nat) (x1 : Int32) (S : sT) {Q : sT → Prop} (h : w_X8_add x0 x1 S Q) : x_Mv l gg yX8_add (x_ws yX8_add cX8_add 2 none) r_X8_add [.ref x0, .int x1] S Q 0 0 := by
  refine x_ofW (cc := cX8_add) (own := RX8) (by decide +kernel) rfl (Nat.le_of_ble_eq_true rfl) ?_
  intro p e s m args below meth c C hml hr hlocks hin ht H locs ls hR hS hl
  exact t_X8_add_b0 C hml hr hlocks h H locs ls hR hS (lv_sub (l' := [(0, .ref x0), (1, .int x1)]) hl [0, 1] rfl)
end
