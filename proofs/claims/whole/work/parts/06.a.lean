section
variable {p : Program} {l : Launch} {e : Env} {s : State} {m : MethodId} {args : Array Value} {below : List Frame} {meth : Method} {c : Code} {gg : sG}
def w_X4_isExcluded_b12 (y0 : Int32) (S : sT)  (Q : Int32 → sT → Prop) : Prop :=
(y0 = 0 ∨ y0 = 1) ∧
    Q y0 S
def w_X4_isExcluded_b0 (x0 : Nat) (S : sT)  (Q : Int32 → sT → Prop) : Prop :=
s_K S x0 = 6 ∧
    ∀ x101 : Int32, x101 = s_I S 160 x0 →
    ((0 ≤ x101 → w_X4_isExcluded_b12 (0 : Int32) S  Q) ∧
    (¬ 0 ≤ x101 → w_X4_isExcluded_b12 (1 : Int32) S  Q))
def w_X4_isExcluded (x0 : Nat) (S : sT) (Q : Int32 → sT → Prop) : Prop := w_X4_isExcluded_b0 x0 S Q
def r_X4_isExcluded : Room := x_rm 0 0 0 0
theorem b_X4_isExcluded : x_BV yX4_isExcluded cX4_isExcluded 1 (some .boolean) 0 := ⟨q_32_10, q_32_8, q_32_9, q_10_20, by decide +kernel⟩
set_option maxHeartbeats 4000000 in
theorem t_X4_isExcluded_b12 (C : x_C p s m args c cX4_isExcluded RX4 gg) (hml : c.maxLocals = 1) (hr : meth.sig.returnType = (some .boolean)) (hlocks : meth.locks = false) {y0 : Int32}  {S : sT}  {Q : Int32 → sT → Prop} (h : w_X4_isExcluded_b12 y0 S  Q) : x_X p l e r_X4_isExcluded s m args below meth c gg 1 0 0 (MQ below (va_Qi Q (fun S1 t => s_Rep gg S1 t.heap) (s_A gg)) args s 0 0 (s_A gg)) 12 [] [.int y0] S := by
  unfold w_X4_isExcluded_b12 at h
  obtain ⟨hx, hb, -⟩ := id C
  intro H locs ls hR hS hl
  obtain ⟨hz101, h⟩ := h
  exact W.zret (v := y0) hx hb hr (zb_n hz101) (fun t ht hW => ⟨⟨y0, S, rfl, h, by rw [ht]; exact hR⟩, hS.F ht⟩) hS.2.2 dX4_isExcluded_12
set_option maxHeartbeats 4000000 in
theorem t_X4_isExcluded_b0 (C : x_C p s m args c cX4_isExcluded RX4 gg) (hml : c.maxLocals = 1) (hr : meth.sig.returnType = (some .boolean)) (hlocks : meth.locks = false) {x0 : Nat}  {S : sT}  {Q : Int32 → sT → Prop} (h : w_X4_isExcluded_b0 x0 S  Q) : x_X p l e r_X4_isExcluded s m args below meth c gg 1 0 0 (MQ below (va_Qi Q (fun S1 t => s_Rep gg S1 t.heap) (s_A gg)) args s 0 0 (s_A gg)) 0 [(0, .ref x0)] [] S := by
  unfold w_X4_isExcluded_b0 at h
  obtain ⟨hx, hb, -⟩ := id C
  intro H locs ls hR hS hl
  refine lv_aload_n hx hb dX4_isExcluded_0 rfl (lv_at hl 0 rfl) ?_
  obtain ⟨hK_x0, h⟩ := h
  refine x_g_160 C hR hK_x0 q_11_9 dX4_isExcluded_1 ?_
  refine lv_topi (fun x101 ex101 => ?_)
  have h := h x101 ex101
  refine lv_if_ge (tgt := 11) hx hb dX4_isExcluded_4 (by decide) (fun hc102 => ?_) (fun hc102 => ?_)
  · have h := h.1 hc102
    refine lv_iconst (v := 0) hx hb dX4_isExcluded_11 (by decide) ?_
    exact t_X4_isExcluded_b12 C hml hr hlocks  h H locs ls hR hS (lv_sub (l' := []) hl [] rfl)
  · have h := h.2 hc102
    refine lv_iconst (v := 1) hx hb dX4_isExcluded_7 (by decide) ?_
    refine lv_goto (tgt := 12) hx hb dX4_isExcluded_8 (by decide) ?_
    exact t_X4_isExcluded_b12 C hml hr hlocks  h H locs ls hR hS (lv_sub (l' := []) hl [] rfl)
theorem m_X4_isExcluded (l : Launch) (gg : sG) (x0 : Nat) (S : sT) {Q : Int32 → sT → Prop} (h : w_X4_isExcluded x0 S Q) : x_Mi l gg yX4_isExcluded (x_ws yX4_isExcluded cX4_isExcluded 1 (some .boolean)) r_X4_isExcluded [.ref x0] S Q 0 0 := by
  refine x_ofW (cc := cX4_isExcluded) (own := RX4) (by decide) rfl (Nat.le_of_ble_eq_true rfl) ?_
  intro p e s m args below meth c C hml hr hlocks hin ht H locs ls hR hS hl
  exact t_X4_isExcluded_b0 C hml hr hlocks h H locs ls hR hS (lv_sub (l' := [(0, .ref x0)]) hl [0] rfl)
def w_X3_sumOfGone_b0 (x0 : Nat) (S : sT)  (Q : Int32 → sT → Prop) : Prop :=
s_K S x0 = 5 ∧
    ∀ x101 : Int32, x101 = s_I S 129 x0 →
    ∀ x102 : Int32, x102 = s_I S 130 x0 →
    ∀ x103 : Int32, x103 = x101 + x102 →
    ∀ x104 : Int32, x104 = s_I S 131 x0 →
    ∀ x105 : Int32, x105 = x103 + x104 →
    Q x105 S
def w_X3_sumOfGone (x0 : Nat) (S : sT) (Q : Int32 → sT → Prop) : Prop := w_X3_sumOfGone_b0 x0 S Q
def r_X3_sumOfGone : Room := x_rm 0 0 0 0
theorem b_X3_sumOfGone : x_BV yX3_sumOfGone cX3_sumOfGone 1 (some .int) 0 := ⟨q_35_10, q_35_8, q_35_9, q_2_5, by decide +kernel⟩
set_option maxHeartbeats 4000000 in
theorem t_X3_sumOfGone_b0 (C : x_C p s m args c cX3_sumOfGone RX3 gg) (hml : c.maxLocals = 1) (hr : meth.sig.returnType = (some .int)) (hlocks : meth.locks = false) {x0 : Nat}  {S : sT}  {Q : Int32 → sT → Prop} (h : w_X3_sumOfGone_b0 x0 S  Q) : x_X p l e r_X3_sumOfGone s m args below meth c gg 1 0 0 (MQ below (va_Qi Q (fun S1 t => s_Rep gg S1 t.heap) (s_A gg)) args s 0 0 (s_A gg)) 0 [(0, .ref x0)] [] S := by
  unfold w_X3_sumOfGone_b0 at h
  obtain ⟨hx, hb, -⟩ := id C
  intro H locs ls hR hS hl
  refine lv_aload_n hx hb dX3_sumOfGone_0 rfl (lv_at hl 0 rfl) ?_
  obtain ⟨hK_x0, h⟩ := h
  refine x_g_129 C hR hK_x0 q_35_11 dX3_sumOfGone_1 ?_
  refine lv_topi (fun x101 ex101 => ?_)
  have h := h x101 ex101
  refine lv_aload_n hx hb dX3_sumOfGone_4 rfl (lv_at hl 0 rfl) ?_
  refine x_g_130 C hR hK_x0 q_35_12 dX3_sumOfGone_5 ?_
  refine lv_topi (fun x102 ex102 => ?_)
  have h := h x102 ex102
  refine lv_iadd hx hb dX3_sumOfGone_8 ?_
  refine lv_topi (fun x103 ex103 => ?_)
  have h := h x103 ex103
  refine lv_aload_n hx hb dX3_sumOfGone_9 rfl (lv_at hl 0 rfl) ?_
  refine x_g_131 C hR hK_x0 q_35_13 dX3_sumOfGone_10 ?_
  refine lv_topi (fun x104 ex104 => ?_)
  have h := h x104 ex104
  refine lv_iadd hx hb dX3_sumOfGone_13 ?_
  refine lv_topi (fun x105 ex105 => ?_)
  have h := h x105 ex105
  exact W.iret (v := x105) hx hb hr (fun t ht hW => ⟨⟨x105, S, rfl, h, by rw [ht]; exact hR⟩, hS.F ht⟩) hS.2.2 dX3_sumOfGone_14
theorem m_X3_sumOfGone (l : Launch) (gg : sG) (x0 : Nat) (S : sT) {Q : Int32 → sT → Prop} (h : w_X3_sumOfGone x0 S Q) : x_Mi l gg yX3_sumOfGone (x_ws yX3_sumOfGone cX3_sumOfGone 1 (some .int)) r_X3_sumOfGone [.ref x0] S Q 0 0 := by
  refine x_ofW (cc := cX3_sumOfGone) (own := RX3) (by decide) rfl (Nat.le_of_ble_eq_true rfl) ?_
  intro p e s m args below meth c C hml hr hlocks hin ht H locs ls hR hS hl
  exact t_X3_sumOfGone_b0 C hml hr hlocks h H locs ls hR hS (lv_sub (l' := [(0, .ref x0)]) hl [0] rfl)
def w_X6_isOnTheStalk_b15 (y0 : Int32) (S : sT)  (Q : Int32 → sT → Prop) : Prop :=
(y0 = 0 ∨ y0 = 1) ∧
    Q y0 S
def w_X6_isOnTheStalk_b14  (S : sT)  (Q : Int32 → sT → Prop) : Prop :=
w_X6_isOnTheStalk_b15 (0 : Int32) S  Q
def w_X6_isOnTheStalk_b0 (x0 : Int32) (S : sT)  (Q : Int32 → sT → Prop) : Prop :=
((x0 < (2 : Int32) → w_X6_isOnTheStalk_b14  S  Q) ∧
    (¬ x0 < (2 : Int32) → (((4 : Int32) < x0 → w_X6_isOnTheStalk_b14  S  Q) ∧
    (¬ (4 : Int32) < x0 → w_X6_isOnTheStalk_b15 (1 : Int32) S  Q))))
def w_X6_isOnTheStalk (x0 : Int32) (S : sT) (Q : Int32 → sT → Prop) : Prop := w_X6_isOnTheStalk_b0 x0 S Q
def r_X6_isOnTheStalk : Room := x_rm 0 0 0 0
theorem b_X6_isOnTheStalk : x_BS yX6_isOnTheStalk cX6_isOnTheStalk 1 (some .boolean) 1 := ⟨q_24_6, q_24_5, q_1_2, by decide +kernel⟩
set_option maxHeartbeats 4000000 in
theorem t_X6_isOnTheStalk_b15 (C : x_C p s m args c cX6_isOnTheStalk RX6 gg) (hml : c.maxLocals = 1) (hr : meth.sig.returnType = (some .boolean)) (hlocks : meth.locks = false) {y0 : Int32}  {S : sT}  {Q : Int32 → sT → Prop} (h : w_X6_isOnTheStalk_b15 y0 S  Q) : x_X p l e r_X6_isOnTheStalk s m args below meth c gg 1 0 0 (MQ below (va_Qi Q (fun S1 t => s_Rep gg S1 t.heap) (s_A gg)) args s 0 0 (s_A gg)) 15 [] [.int y0] S := by
  unfold w_X6_isOnTheStalk_b15 at h
  obtain ⟨hx, hb, -⟩ := id C
  intro H locs ls hR hS hl
  obtain ⟨hz101, h⟩ := h
  exact W.zret (v := y0) hx hb hr (zb_n hz101) (fun t ht hW => ⟨⟨y0, S, rfl, h, by rw [ht]; exact hR⟩, hS.F ht⟩) hS.2.2 dX6_isOnTheStalk_15
set_option maxHeartbeats 4000000 in
theorem t_X6_isOnTheStalk_b14 (C : x_C p s m args c cX6_isOnTheStalk RX6 gg) (hml : c.maxLocals = 1) (hr : meth.sig.returnType = (some .boolean)) (hlocks : meth.locks = false)   {S : sT}  {Q : Int32 → sT → Prop} (h : w_X6_isOnTheStalk_b14  S  Q) : x_X p l e r_X6_isOnTheStalk s m args below meth c gg 1 0 0 (MQ below (va_Qi Q (fun S1 t => s_Rep gg S1 t.heap) (s_A gg)) args s 0 0 (s_A gg)) 14 [] [] S := by
  unfold w_X6_isOnTheStalk_b14 at h
  obtain ⟨hx, hb, -⟩ := id C
  intro H locs ls hR hS hl
  refine lv_iconst (v := 0) hx hb dX6_isOnTheStalk_14 (by decide) ?_
  exact t_X6_isOnTheStalk_b15 C hml hr hlocks  h H locs ls hR hS (lv_sub (l' := []) hl [] rfl)
set_option maxHeartbeats 4000000 in
theorem t_X6_isOnTheStalk_b0 (C : x_C p s m args c cX6_isOnTheStalk RX6 gg) (hml : c.maxLocals = 1) (hr : meth.sig.returnType = (some .boolean)) (hlocks : meth.locks = false) {x0 : Int32}  {S : sT}  {Q : Int32 → sT → Prop} (h : w_X6_isOnTheStalk_b0 x0 S  Q) : x_X p l e r_X6_isOnTheStalk s m args below meth c gg 1 0 0 (MQ below (va_Qi Q (fun S1 t => s_Rep gg S1 t.heap) (s_A gg)) args s 0 0 (s_A gg)) 0 [(0, .int x0)] [] S := by
  unfold w_X6_isOnTheStalk_b0 at h
  obtain ⟨hx, hb, -⟩ := id C
  intro H locs ls hR hS hl
  refine lv_iload_n hx hb dX6_isOnTheStalk_0 rfl (lv_at hl 0 rfl) ?_
  refine lv_iconst (v := 2) hx hb dX6_isOnTheStalk_1 (by decide) ?_
  refine lv_icmp_lt (tgt := 14) hx hb dX6_isOnTheStalk_2 (by decide) (fun hc101 => ?_) (fun hc101 => ?_)
  · have h := h.1 hc101
    exact t_X6_isOnTheStalk_b14 C hml hr hlocks  h H locs ls hR hS (lv_sub (l' := []) hl [] rfl)
  · have h := h.2 hc101
    refine lv_iload_n hx hb dX6_isOnTheStalk_5 rfl (lv_at hl 0 rfl) ?_
    refine lv_iconst (v := 4) hx hb dX6_isOnTheStalk_6 (by decide) ?_
    refine lv_icmp_gt (tgt := 14) hx hb dX6_isOnTheStalk_7 (by decide) (fun hc102 => ?_) (fun hc102 => ?_)
    · have h := h.1 hc102
      exact t_X6_isOnTheStalk_b14 C hml hr hlocks  h H locs ls hR hS (lv_sub (l' := []) hl [] rfl)
    · have h := h.2 hc102
      refine lv_iconst (v := 1) hx hb dX6_isOnTheStalk_10 (by decide) ?_
      refine lv_goto (tgt := 15) hx hb dX6_isOnTheStalk_11 (by decide) ?_
      exact t_X6_isOnTheStalk_b15 C hml hr hlocks  h H locs ls hR hS (lv_sub (l' := []) hl [] rfl)
theorem m_X6_isOnTheStalk (l : Launch) (gg : sG) (x0 : Int32) (S : sT) {Q : Int32 → sT → Prop} (h : w_X6_isOnTheStalk x0 S Q) : x_Mi l gg yX6_isOnTheStalk (x_ws yX6_isOnTheStalk cX6_isOnTheStalk 1 (some .boolean)) r_X6_isOnTheStalk [.int x0] S Q 0 0 := by
  refine x_ofW (cc := cX6_isOnTheStalk) (own := RX6) (by decide) rfl (Nat.le_of_ble_eq_true rfl) ?_
  intro p e s m args below meth c C hml hr hlocks hin ht H locs ls hR hS hl
  exact t_X6_isOnTheStalk_b0 C hml hr hlocks h H locs ls hR hS (lv_sub (l' := [(0, .int x0)]) hl [0] rfl)
def w_X6_isWithin_b15 (y0 : Int32) (S : sT)  (Q : Int32 → sT → Prop) : Prop :=
(y0 = 0 ∨ y0 = 1) ∧
    Q y0 S
def w_X6_isWithin_b14  (S : sT)  (Q : Int32 → sT → Prop) : Prop :=
w_X6_isWithin_b15 (0 : Int32) S  Q
def w_X6_isWithin_b0 (x0 : Int32) (x1 : Int32) (x2 : Int32) (S : sT)  (Q : Int32 → sT → Prop) : Prop :=
((x0 < x1 → w_X6_isWithin_b14  S  Q) ∧
    (¬ x0 < x1 → ((x2 < x0 → w_X6_isWithin_b14  S  Q) ∧
    (¬ x2 < x0 → w_X6_isWithin_b15 (1 : Int32) S  Q))))
def w_X6_isWithin (x0 : Int32) (x1 : Int32) (x2 : Int32) (S : sT) (Q : Int32 → sT → Prop) : Prop := w_X6_isWithin_b0 x0 x1 x2 S Q
def r_X6_isWithin : Room := x_rm 0 0 0 0
theorem b_X6_isWithin : x_BS yX6_isWithin cX6_isWithin 3 (some .boolean) 3 := ⟨q_4_13, q_4_12, q_1_2, by decide +kernel⟩
set_option maxHeartbeats 4000000 in
theorem t_X6_isWithin_b15 (C : x_C p s m args c cX6_isWithin RX6 gg) (hml : c.maxLocals = 3) (hr : meth.sig.returnType = (some .boolean)) (hlocks : meth.locks = false) {y0 : Int32}  {S : sT}  {Q : Int32 → sT → Prop} (h : w_X6_isWithin_b15 y0 S  Q) : x_X p l e r_X6_isWithin s m args below meth c gg 3 0 0 (MQ below (va_Qi Q (fun S1 t => s_Rep gg S1 t.heap) (s_A gg)) args s 0 0 (s_A gg)) 15 [] [.int y0] S := by
  unfold w_X6_isWithin_b15 at h
  obtain ⟨hx, hb, -⟩ := id C
  intro H locs ls hR hS hl
  obtain ⟨hz101, h⟩ := h
  exact W.zret (v := y0) hx hb hr (zb_n hz101) (fun t ht hW => ⟨⟨y0, S, rfl, h, by rw [ht]; exact hR⟩, hS.F ht⟩) hS.2.2 dX6_isWithin_15
set_option maxHeartbeats 4000000 in
theorem t_X6_isWithin_b14 (C : x_C p s m args c cX6_isWithin RX6 gg) (hml : c.maxLocals = 3) (hr : meth.sig.returnType = (some .boolean)) (hlocks : meth.locks = false)   {S : sT}  {Q : Int32 → sT → Prop} (h : w_X6_isWithin_b14  S  Q) : x_X p l e r_X6_isWithin s m args below meth c gg 3 0 0 (MQ below (va_Qi Q (fun S1 t => s_Rep gg S1 t.heap) (s_A gg)) args s 0 0 (s_A gg)) 14 [] [] S := by
  unfold w_X6_isWithin_b14 at h
  obtain ⟨hx, hb, -⟩ := id C
  intro H locs ls hR hS hl
  refine lv_iconst (v := 0) hx hb dX6_isWithin_14 (by decide) ?_
  exact t_X6_isWithin_b15 C hml hr hlocks  h H locs ls hR hS (lv_sub (l' := []) hl [] rfl)
set_option maxHeartbeats 4000000 in
theorem t_X6_isWithin_b0 (C : x_C p s m args c cX6_isWithin RX6 gg) (hml : c.maxLocals = 3) (hr : meth.sig.returnType = (some .boolean)) (hlocks : meth.locks = false) {x0 : Int32} {x1 : Int32} {x2 : Int32}  {S : sT}  {Q : Int32 → sT → Prop} (h : w_X6_isWithin_b0 x0 x1 x2 S  Q) : x_X p l e r_X6_isWithin s m args below meth c gg 3 0 0 (MQ below (va_Qi Q (fun S1 t => s_Rep gg S1 t.heap) (s_A gg)) args s 0 0 (s_A gg)) 0 [(0, .int x0), (1, .int x1), (2, .int x2)] [] S := by
  unfold w_X6_isWithin_b0 at h
  obtain ⟨hx, hb, -⟩ := id C
  intro H locs ls hR hS hl
  refine lv_iload_n hx hb dX6_isWithin_0 rfl (lv_at hl 0 rfl) ?_
  refine lv_iload_n hx hb dX6_isWithin_1 rfl (lv_at hl 1 rfl) ?_
  refine lv_icmp_lt (tgt := 14) hx hb dX6_isWithin_2 (by decide) (fun hc101 => ?_) (fun hc101 => ?_)
  · have h := h.1 hc101
    exact t_X6_isWithin_b14 C hml hr hlocks  h H locs ls hR hS (lv_sub (l' := []) hl [] rfl)
  · have h := h.2 hc101
    refine lv_iload_n hx hb dX6_isWithin_5 rfl (lv_at hl 0 rfl) ?_
    refine lv_iload_n hx hb dX6_isWithin_6 rfl (lv_at hl 2 rfl) ?_
    refine lv_icmp_gt (tgt := 14) hx hb dX6_isWithin_7 (by decide) (fun hc102 => ?_) (fun hc102 => ?_)
    · have h := h.1 hc102
      exact t_X6_isWithin_b14 C hml hr hlocks  h H locs ls hR hS (lv_sub (l' := []) hl [] rfl)
    · have h := h.2 hc102
      refine lv_iconst (v := 1) hx hb dX6_isWithin_10 (by decide) ?_
      refine lv_goto (tgt := 15) hx hb dX6_isWithin_11 (by decide) ?_
      exact t_X6_isWithin_b15 C hml hr hlocks  h H locs ls hR hS (lv_sub (l' := []) hl [] rfl)
theorem m_X6_isWithin (l : Launch) (gg : sG) (x0 : Int32) (x1 : Int32) (x2 : Int32) (S : sT) {Q : Int32 → sT → Prop} (h : w_X6_isWithin x0 x1 x2 S Q) : x_Mi l gg yX6_isWithin (x_ws yX6_isWithin cX6_isWithin 3 (some .boolean)) r_X6_isWithin [.int x0, .int x1, .int x2] S Q 0 0 := by
  refine x_ofW (cc := cX6_isWithin) (own := RX6) (by decide) rfl (Nat.le_of_ble_eq_true rfl) ?_
  intro p e s m args below meth c C hml hr hlocks hin ht H locs ls hR hS hl
  exact t_X6_isWithin_b0 C hml hr hlocks h H locs ls hR hS (lv_sub (l' := [(0, .int x0), (1, .int x1), (2, .int x2)]) hl [0, 1, 2] rfl)
def w_X6_oneIf_b9 (y0 : Int32) (S : sT)  (Q : Int32 → sT → Prop) : Prop :=
Q y0 S
def w_X6_oneIf_b0 (x0 : Int32) (S : sT)  (Q : Int32 → sT → Prop) : Prop :=
((x0 = 0 → w_X6_oneIf_b9 (0 : Int32) S  Q) ∧
    (¬ x0 = 0 → w_X6_oneIf_b9 (1 : Int32) S  Q))
def w_X6_oneIf (x0 : Int32) (S : sT) (Q : Int32 → sT → Prop) : Prop := w_X6_oneIf_b0 x0 S Q
def r_X6_oneIf : Room := x_rm 0 0 0 0
theorem b_X6_oneIf : x_BS yX6_oneIf cX6_oneIf 1 (some .int) 1 := ⟨q_31_15, q_31_14, q_1_2, by decide +kernel⟩
set_option maxHeartbeats 4000000 in
theorem t_X6_oneIf_b9 (C : x_C p s m args c cX6_oneIf RX6 gg) (hml : c.maxLocals = 1) (hr : meth.sig.returnType = (some .int)) (hlocks : meth.locks = false) {y0 : Int32}  {S : sT}  {Q : Int32 → sT → Prop} (h : w_X6_oneIf_b9 y0 S  Q) : x_X p l e r_X6_oneIf s m args below meth c gg 1 0 0 (MQ below (va_Qi Q (fun S1 t => s_Rep gg S1 t.heap) (s_A gg)) args s 0 0 (s_A gg)) 9 [] [.int y0] S := by
  unfold w_X6_oneIf_b9 at h
  obtain ⟨hx, hb, -⟩ := id C
  intro H locs ls hR hS hl
  exact W.iret (v := y0) hx hb hr (fun t ht hW => ⟨⟨y0, S, rfl, h, by rw [ht]; exact hR⟩, hS.F ht⟩) hS.2.2 dX6_oneIf_9
set_option maxHeartbeats 4000000 in
theorem t_X6_oneIf_b0 (C : x_C p s m args c cX6_oneIf RX6 gg) (hml : c.maxLocals = 1) (hr : meth.sig.returnType = (some .int)) (hlocks : meth.locks = false) {x0 : Int32}  {S : sT}  {Q : Int32 → sT → Prop} (h : w_X6_oneIf_b0 x0 S  Q) : x_X p l e r_X6_oneIf s m args below meth c gg 1 0 0 (MQ below (va_Qi Q (fun S1 t => s_Rep gg S1 t.heap) (s_A gg)) args s 0 0 (s_A gg)) 0 [(0, .int x0)] [] S := by
  unfold w_X6_oneIf_b0 at h
  obtain ⟨hx, hb, -⟩ := id C
  intro H locs ls hR hS hl
  refine lv_iload_n hx hb dX6_oneIf_0 rfl (lv_at hl 0 rfl) ?_
  refine lv_if_eq (tgt := 8) hx hb dX6_oneIf_1 (by decide) (fun hc101 => ?_) (fun hc101 => ?_)
  · have h := h.1 hc101
    refine lv_iconst (v := 0) hx hb dX6_oneIf_8 (by decide) ?_
    exact t_X6_oneIf_b9 C hml hr hlocks  h H locs ls hR hS (lv_sub (l' := []) hl [] rfl)
  · have h := h.2 hc101
    refine lv_iconst (v := 1) hx hb dX6_oneIf_4 (by decide) ?_
    refine lv_goto (tgt := 9) hx hb dX6_oneIf_5 (by decide) ?_
    exact t_X6_oneIf_b9 C hml hr hlocks  h H locs ls hR hS (lv_sub (l' := []) hl [] rfl)
theorem m_X6_oneIf (l : Launch) (gg : sG) (x0 : Int32) (S : sT) {Q : Int32 → sT → Prop} (h : w_X6_oneIf x0 S Q) : x_Mi l gg yX6_oneIf (x_ws yX6_oneIf cX6_oneIf 1 (some .int)) r_X6_oneIf [.int x0] S Q 0 0 := by
  refine x_ofW (cc := cX6_oneIf) (own := RX6) (by decide) rfl (Nat.le_of_ble_eq_true rfl) ?_
  intro p e s m args below meth c C hml hr hlocks hin ht H locs ls hR hS hl
  exact t_X6_oneIf_b0 C hml hr hlocks h H locs ls hR hS (lv_sub (l' := [(0, .int x0)]) hl [0] rfl)
def w_X0_begin_b0 (x0 : Nat) (x1 : Int32) (S : sT)  (Q : sT → Prop) : Prop :=
s_K S x0 = 2 ∧
    ∀ S101 : sT, S101 = s_sI S 32 x0 (2 : Int32) →
    ∀ S102 : sT, S102 = s_sI S101 33 x0 x1 →
    ∀ S103 : sT, S103 = s_sI S102 34 x0 (0 : Int32) →
    ∀ S104 : sT, S104 = s_sI S103 35 x0 (100 : Int32) →
    ∀ S105 : sT, S105 = s_sI S104 37 x0 (0 : Int32) →
    ∀ S106 : sT, S106 = s_sI S105 38 x0 (0 : Int32) →
    ∀ S107 : sT, S107 = s_sI S106 39 x0 (120 : Int32) →
    Q S107
def w_X0_begin (x0 : Nat) (x1 : Int32) (S : sT) (Q : sT → Prop) : Prop := w_X0_begin_b0 x0 x1 S Q
def r_X0_begin : Room := x_rm 0 0 0 0
theorem b_X0_begin : x_BV yX0_begin cX0_begin 2 none 1 := ⟨q_15_22, q_15_20, q_15_21, q_11_0, by decide +kernel⟩
set_option maxHeartbeats 4000000 in
theorem t_X0_begin_b0 (C : x_C p s m args c cX0_begin RX0 gg) (hml : c.maxLocals = 2) (hr : meth.sig.returnType = none) (hlocks : meth.locks = false) {x0 : Nat} {x1 : Int32}  {S : sT}  {Q : sT → Prop} (h : w_X0_begin_b0 x0 x1 S  Q) : x_X p l e r_X0_begin s m args below meth c gg 2 0 0 (MQ below (va_Qv Q (fun S1 t => s_Rep gg S1 t.heap) (s_A gg)) args s 0 0 (s_A gg)) 0 [(0, .ref x0), (1, .int x1)] [] S := by
  unfold w_X0_begin_b0 at h
  obtain ⟨hx, hb, -⟩ := id C
  intro H locs ls hR hS hl
  refine lv_aload_n hx hb dX0_begin_0 rfl (lv_at hl 0 rfl) ?_
  refine lv_iconst (v := 2) hx hb dX0_begin_1 (by decide) ?_
  obtain ⟨hK_x0, h⟩ := h
  refine x_p_32 (v := (2 : Int32)) C hR hK_x0 hS q_11_13 dX0_begin_2 (fun H locs hR hS => ?_)
  obtain ⟨S101, eS101⟩ : ∃ z : sT, z = s_sI S 32 x0 (2 : Int32) := ⟨_, rfl⟩
  rw [← eS101] at hR
  have h := h S101 eS101
  have hK_x0 : s_K S101 x0 = 2 := by rw [eS101]; exact hK_x0
  refine lv_aload_n hx hb dX0_begin_5 rfl (lv_at hl 0 rfl) ?_
  refine lv_iload_n hx hb dX0_begin_6 rfl (lv_at hl 1 rfl) ?_
  refine x_p_33 (v := x1) C hR hK_x0 hS q_11_14 dX0_begin_7 (fun H locs hR hS => ?_)
  obtain ⟨S102, eS102⟩ : ∃ z : sT, z = s_sI S101 33 x0 x1 := ⟨_, rfl⟩
  rw [← eS102] at hR
  have h := h S102 eS102
  have hK_x0 : s_K S102 x0 = 2 := by rw [eS102]; exact hK_x0
  refine lv_aload_n hx hb dX0_begin_10 rfl (lv_at hl 0 rfl) ?_
  refine lv_iconst (v := 0) hx hb dX0_begin_11 (by decide) ?_
  refine x_p_34 (v := (0 : Int32)) C hR hK_x0 hS q_15_23 dX0_begin_12 (fun H locs hR hS => ?_)
  obtain ⟨S103, eS103⟩ : ∃ z : sT, z = s_sI S102 34 x0 (0 : Int32) := ⟨_, rfl⟩
  rw [← eS103] at hR
  have h := h S103 eS103
  have hK_x0 : s_K S103 x0 = 2 := by rw [eS103]; exact hK_x0
  refine lv_aload_n hx hb dX0_begin_15 rfl (lv_at hl 0 rfl) ?_
  refine lv_bipush (v := 100) hx hb dX0_begin_16 (by decide) ?_
  refine x_p_35 (v := (100 : Int32)) C hR hK_x0 hS q_16_0 dX0_begin_18 (fun H locs hR hS => ?_)
  obtain ⟨S104, eS104⟩ : ∃ z : sT, z = s_sI S103 35 x0 (100 : Int32) := ⟨_, rfl⟩
  rw [← eS104] at hR
  have h := h S104 eS104
  have hK_x0 : s_K S104 x0 = 2 := by rw [eS104]; exact hK_x0
  refine lv_aload_n hx hb dX0_begin_21 rfl (lv_at hl 0 rfl) ?_
  refine lv_iconst (v := 0) hx hb dX0_begin_22 (by decide) ?_
  refine x_p_37 (v := (0 : Int32)) C hR hK_x0 hS q_16_1 dX0_begin_23 (fun H locs hR hS => ?_)
  obtain ⟨S105, eS105⟩ : ∃ z : sT, z = s_sI S104 37 x0 (0 : Int32) := ⟨_, rfl⟩
  rw [← eS105] at hR
  have h := h S105 eS105
  have hK_x0 : s_K S105 x0 = 2 := by rw [eS105]; exact hK_x0
  refine lv_aload_n hx hb dX0_begin_26 rfl (lv_at hl 0 rfl) ?_
  refine lv_iconst (v := 0) hx hb dX0_begin_27 (by decide) ?_
  refine x_p_38 (v := (0 : Int32)) C hR hK_x0 hS q_16_2 dX0_begin_28 (fun H locs hR hS => ?_)
  obtain ⟨S106, eS106⟩ : ∃ z : sT, z = s_sI S105 38 x0 (0 : Int32) := ⟨_, rfl⟩
  rw [← eS106] at hR
  have h := h S106 eS106
  have hK_x0 : s_K S106 x0 = 2 := by rw [eS106]; exact hK_x0
  refine lv_aload_n hx hb dX0_begin_31 rfl (lv_at hl 0 rfl) ?_
  refine lv_bipush (v := 120) hx hb dX0_begin_32 (by decide) ?_
  refine x_p_39 (v := (120 : Int32)) C hR hK_x0 hS q_11_16 dX0_begin_34 (fun H locs hR hS => ?_)
  obtain ⟨S107, eS107⟩ : ∃ z : sT, z = s_sI S106 39 x0 (120 : Int32) := ⟨_, rfl⟩
  rw [← eS107] at hR
  have h := h S107 eS107
  have hK_x0 : s_K S107 x0 = 2 := by rw [eS107]; exact hK_x0
  exact W.vret hx hb hr (fun t ht hW => ⟨⟨S107, rfl, h, by rw [ht]; exact hR⟩, hS.F ht⟩) hS.2.2 dX0_begin_37
theorem m_X0_begin (l : Launch) (gg : sG) (x0 : Nat) (x1 : Int32) (S : sT) {Q : sT → Prop} (h : w_X0_begin x0 x1 S Q) : x_Mv l gg yX0_begin (x_ws yX0_begin cX0_begin 2 none) r_X0_begin [.ref x0, .int x1] S Q 0 0 := by
  refine x_ofW (cc := cX0_begin) (own := RX0) (by decide) rfl (Nat.le_of_ble_eq_true rfl) ?_
  intro p e s m args below meth c C hml hr hlocks hin ht H locs ls hR hS hl
  exact t_X0_begin_b0 C hml hr hlocks h H locs ls hR hS (lv_sub (l' := [(0, .ref x0), (1, .int x1)]) hl [0, 1] rfl)
def w_X0_end_b0 (x0 : Nat) (S : sT)  (Q : sT → Prop) : Prop :=
s_K S x0 = 2 ∧
    ∀ S101 : sT, S101 = s_sI S 32 x0 (0 : Int32) →
    ∀ S102 : sT, S102 = s_sI S101 33 x0 (-1 : Int32) →
    ∀ S103 : sT, S103 = s_sI S102 34 x0 (0 : Int32) →
    ∀ S104 : sT, S104 = s_sI S103 35 x0 (0 : Int32) →
    Q S104
def w_X0_end (x0 : Nat) (S : sT) (Q : sT → Prop) : Prop := w_X0_end_b0 x0 S Q
def r_X0_end : Room := x_rm 0 0 0 0
theorem b_X0_end : x_BV yX0_end cX0_end 1 none 0 := ⟨q_19_0, q_18_22, q_18_23, q_11_0, by decide +kernel⟩
set_option maxHeartbeats 4000000 in
theorem t_X0_end_b0 (C : x_C p s m args c cX0_end RX0 gg) (hml : c.maxLocals = 1) (hr : meth.sig.returnType = none) (hlocks : meth.locks = false) {x0 : Nat}  {S : sT}  {Q : sT → Prop} (h : w_X0_end_b0 x0 S  Q) : x_X p l e r_X0_end s m args below meth c gg 1 0 0 (MQ below (va_Qv Q (fun S1 t => s_Rep gg S1 t.heap) (s_A gg)) args s 0 0 (s_A gg)) 0 [(0, .ref x0)] [] S := by
  unfold w_X0_end_b0 at h
  obtain ⟨hx, hb, -⟩ := id C
  intro H locs ls hR hS hl
  refine lv_aload_n hx hb dX0_end_0 rfl (lv_at hl 0 rfl) ?_
  refine lv_iconst (v := 0) hx hb dX0_end_1 (by decide) ?_
  obtain ⟨hK_x0, h⟩ := h
  refine x_p_32 (v := (0 : Int32)) C hR hK_x0 hS q_11_13 dX0_end_2 (fun H locs hR hS => ?_)
  obtain ⟨S101, eS101⟩ : ∃ z : sT, z = s_sI S 32 x0 (0 : Int32) := ⟨_, rfl⟩
  rw [← eS101] at hR
  have h := h S101 eS101
  have hK_x0 : s_K S101 x0 = 2 := by rw [eS101]; exact hK_x0
  refine lv_aload_n hx hb dX0_end_5 rfl (lv_at hl 0 rfl) ?_
  refine lv_iconst (v := (-1)) hx hb dX0_end_6 (by decide) ?_
  refine x_p_33 (v := (-1 : Int32)) C hR hK_x0 hS q_11_14 dX0_end_7 (fun H locs hR hS => ?_)
  obtain ⟨S102, eS102⟩ : ∃ z : sT, z = s_sI S101 33 x0 (-1 : Int32) := ⟨_, rfl⟩
  rw [← eS102] at hR
  have h := h S102 eS102
  have hK_x0 : s_K S102 x0 = 2 := by rw [eS102]; exact hK_x0
  refine lv_aload_n hx hb dX0_end_10 rfl (lv_at hl 0 rfl) ?_
  refine lv_iconst (v := 0) hx hb dX0_end_11 (by decide) ?_
  refine x_p_34 (v := (0 : Int32)) C hR hK_x0 hS q_15_23 dX0_end_12 (fun H locs hR hS => ?_)
  obtain ⟨S103, eS103⟩ : ∃ z : sT, z = s_sI S102 34 x0 (0 : Int32) := ⟨_, rfl⟩
  rw [← eS103] at hR
  have h := h S103 eS103
  have hK_x0 : s_K S103 x0 = 2 := by rw [eS103]; exact hK_x0
  refine lv_aload_n hx hb dX0_end_15 rfl (lv_at hl 0 rfl) ?_
  refine lv_iconst (v := 0) hx hb dX0_end_16 (by decide) ?_
  refine x_p_35 (v := (0 : Int32)) C hR hK_x0 hS q_16_0 dX0_end_17 (fun H locs hR hS => ?_)
  obtain ⟨S104, eS104⟩ : ∃ z : sT, z = s_sI S103 35 x0 (0 : Int32) := ⟨_, rfl⟩
  rw [← eS104] at hR
  have h := h S104 eS104
  have hK_x0 : s_K S104 x0 = 2 := by rw [eS104]; exact hK_x0
  exact W.vret hx hb hr (fun t ht hW => ⟨⟨S104, rfl, h, by rw [ht]; exact hR⟩, hS.F ht⟩) hS.2.2 dX0_end_20
theorem m_X0_end (l : Launch) (gg : sG) (x0 : Nat) (S : sT) {Q : sT → Prop} (h : w_X0_end x0 S Q) : x_Mv l gg yX0_end (x_ws yX0_end cX0_end 1 none) r_X0_end [.ref x0] S Q 0 0 := by
  refine x_ofW (cc := cX0_end) (own := RX0) (by decide) rfl (Nat.le_of_ble_eq_true rfl) ?_
  intro p e s m args below meth c C hml hr hlocks hin ht H locs ls hR hS hl
  exact t_X0_end_b0 C hml hr hlocks h H locs ls hR hS (lv_sub (l' := [(0, .ref x0)]) hl [0] rfl)
def w_X0_thirst_b15 (y0 : Int32) (S : sT)  (Q : Int32 → sT → Prop) : Prop :=
Q y0 S
def w_X0_thirst_b0 (x0 : Nat) (S : sT)  (Q : Int32 → sT → Prop) : Prop :=
s_K S x0 = 2 ∧
    ∀ x101 : Int32, x101 = s_I S 32 x0 →
    w_X6_isOnTheStalk x101 S (fun x103 S102 =>
    ((x103 = 0 → w_X0_thirst_b15 (1 : Int32) S102  Q) ∧
    (¬ x103 = 0 → w_X0_thirst_b15 (2 : Int32) S102  Q)))
def w_X0_thirst (x0 : Nat) (S : sT) (Q : Int32 → sT → Prop) : Prop := w_X0_thirst_b0 x0 S Q
def r_X0_thirst : Room := x_rm 1 20 0 0
theorem b_X0_thirst : x_BV yX0_thirst cX0_thirst 1 (some .int) 0 := ⟨q_24_4, q_24_2, q_24_3, q_11_0, by decide +kernel⟩
set_option maxHeartbeats 4000000 in
theorem t_X0_thirst_b15 (C : x_C p s m args c cX0_thirst RX0 gg) (hml : c.maxLocals = 1) (hr : meth.sig.returnType = (some .int)) (hlocks : meth.locks = false) {y0 : Int32}  {S : sT}  {Q : Int32 → sT → Prop} (h : w_X0_thirst_b15 y0 S  Q) : x_X p l e r_X0_thirst s m args below meth c gg 1 0 0 (MQ below (va_Qi Q (fun S1 t => s_Rep gg S1 t.heap) (s_A gg)) args s 0 0 (s_A gg)) 15 [] [.int y0] S := by
  unfold w_X0_thirst_b15 at h
  obtain ⟨hx, hb, -⟩ := id C
  intro H locs ls hR hS hl
  exact W.iret (v := y0) hx hb hr (fun t ht hW => ⟨⟨y0, S, rfl, h, by rw [ht]; exact hR⟩, hS.F ht⟩) hS.2.2 dX0_thirst_15
set_option maxHeartbeats 4000000 in
theorem t_X0_thirst_b0 (C : x_C p s m args c cX0_thirst RX0 gg) (hml : c.maxLocals = 1) (hr : meth.sig.returnType = (some .int)) (hlocks : meth.locks = false) {x0 : Nat}  {S : sT}  {Q : Int32 → sT → Prop} (h : w_X0_thirst_b0 x0 S  Q) : x_X p l e r_X0_thirst s m args below meth c gg 1 0 0 (MQ below (va_Qi Q (fun S1 t => s_Rep gg S1 t.heap) (s_A gg)) args s 0 0 (s_A gg)) 0 [(0, .ref x0)] [] S := by
  unfold w_X0_thirst_b0 at h
  obtain ⟨hx, hb, -⟩ := id C
  intro H locs ls hR hS hl
  refine lv_aload_n hx hb dX0_thirst_0 rfl (lv_at hl 0 rfl) ?_
  obtain ⟨hK_x0, h⟩ := h
  refine x_g_32 C hR hK_x0 q_11_13 dX0_thirst_1 ?_
  refine lv_topi (fun x101 ex101 => ?_)
  have h := h x101 ex101
  refine x_ki (x_runSN (As := [.int x101]) (rest := []) (host := "Subakhall") C hml hR hS (m_X6_isOnTheStalk l gg x101 S h) b_X6_isOnTheStalk (List.mem_of_getElem? (i := 7) rfl) rfl rfl ⟨Nat.le_of_ble_eq_true rfl, Nat.le_of_ble_eq_true rfl⟩ rfl hl.1 (Nat.le_of_ble_eq_true rfl) dX0_thirst_4 ⟨Nat.le_refl _, Nat.le_refl _⟩) hS (fun x103 S102 H locs h hR hS => ?_)
  refine lv_if_eq (tgt := 14) hx hb dX0_thirst_7 (by decide) (fun hc104 => ?_) (fun hc104 => ?_)
  · have h := h.1 hc104
    refine lv_iconst (v := 1) hx hb dX0_thirst_14 (by decide) ?_
    exact t_X0_thirst_b15 C hml hr hlocks  h H locs ls hR hS (lv_sub (l' := []) hl [] rfl)
  · have h := h.2 hc104
    refine lv_iconst (v := 2) hx hb dX0_thirst_10 (by decide) ?_
    refine lv_goto (tgt := 15) hx hb dX0_thirst_11 (by decide) ?_
    exact t_X0_thirst_b15 C hml hr hlocks  h H locs ls hR hS (lv_sub (l' := []) hl [] rfl)
theorem m_X0_thirst (l : Launch) (gg : sG) (x0 : Nat) (S : sT) {Q : Int32 → sT → Prop} (h : w_X0_thirst x0 S Q) : x_Mi l gg yX0_thirst (x_ws yX0_thirst cX0_thirst 1 (some .int)) r_X0_thirst [.ref x0] S Q 0 0 := by
  refine x_ofW (cc := cX0_thirst) (own := RX0) (by decide) rfl (Nat.le_of_ble_eq_true rfl) ?_
  intro p e s m args below meth c C hml hr hlocks hin ht H locs ls hR hS hl
  exact t_X0_thirst_b0 C hml hr hlocks h H locs ls hR hS (lv_sub (l' := [(0, .ref x0)]) hl [0] rfl)
def w_X1_takesWater_b22 (y0 : Int32) (S : sT)  (Q : Int32 → sT → Prop) : Prop :=
(y0 = 0 ∨ y0 = 1) ∧
    Q y0 S
def w_X1_takesWater_b21  (S : sT)  (Q : Int32 → sT → Prop) : Prop :=
w_X1_takesWater_b22 (0 : Int32) S  Q
def w_X1_takesWater_b0 (x0 : Nat) (S : sT)  (Q : Int32 → sT → Prop) : Prop :=
s_K S x0 = 3 ∧
    ∀ x101 : Int32, x101 = s_I S 72 x0 →
    ((x101 = 0 → w_X1_takesWater_b21  S  Q) ∧
    (¬ x101 = 0 → ∃ a103 : Nat, s_R S 68 x0 = some a103 ∧
    s_K S a103 = 6 ∧
    ∀ x104 : Int32, x104 = s_I S 160 a103 →
    ((x104 < 0 → w_X1_takesWater_b21  S  Q) ∧
    (¬ x104 < 0 → w_X1_takesWater_b22 (1 : Int32) S  Q))))
def w_X1_takesWater (x0 : Nat) (S : sT) (Q : Int32 → sT → Prop) : Prop := w_X1_takesWater_b0 x0 S Q
def r_X1_takesWater : Room := x_rm 0 0 0 0
theorem b_X1_takesWater : x_BV yX1_takesWater cX1_takesWater 1 (some .boolean) 0 := ⟨q_22_20, q_22_18, q_22_19, q_10_11, by decide +kernel⟩
set_option maxHeartbeats 4000000 in
theorem t_X1_takesWater_b22 (C : x_C p s m args c cX1_takesWater RX1 gg) (hml : c.maxLocals = 1) (hr : meth.sig.returnType = (some .boolean)) (hlocks : meth.locks = false) {y0 : Int32}  {S : sT}  {Q : Int32 → sT → Prop} (h : w_X1_takesWater_b22 y0 S  Q) : x_X p l e r_X1_takesWater s m args below meth c gg 1 0 0 (MQ below (va_Qi Q (fun S1 t => s_Rep gg S1 t.heap) (s_A gg)) args s 0 0 (s_A gg)) 22 [] [.int y0] S := by
  unfold w_X1_takesWater_b22 at h
  obtain ⟨hx, hb, -⟩ := id C
  intro H locs ls hR hS hl
  obtain ⟨hz101, h⟩ := h
  exact W.zret (v := y0) hx hb hr (zb_n hz101) (fun t ht hW => ⟨⟨y0, S, rfl, h, by rw [ht]; exact hR⟩, hS.F ht⟩) hS.2.2 dX1_takesWater_22
set_option maxHeartbeats 4000000 in
theorem t_X1_takesWater_b21 (C : x_C p s m args c cX1_takesWater RX1 gg) (hml : c.maxLocals = 1) (hr : meth.sig.returnType = (some .boolean)) (hlocks : meth.locks = false)   {S : sT}  {Q : Int32 → sT → Prop} (h : w_X1_takesWater_b21  S  Q) : x_X p l e r_X1_takesWater s m args below meth c gg 1 0 0 (MQ below (va_Qi Q (fun S1 t => s_Rep gg S1 t.heap) (s_A gg)) args s 0 0 (s_A gg)) 21 [] [] S := by
  unfold w_X1_takesWater_b21 at h
  obtain ⟨hx, hb, -⟩ := id C
  intro H locs ls hR hS hl
  refine lv_iconst (v := 0) hx hb dX1_takesWater_21 (by decide) ?_
  exact t_X1_takesWater_b22 C hml hr hlocks  h H locs ls hR hS (lv_sub (l' := []) hl [] rfl)
set_option maxHeartbeats 4000000 in
theorem t_X1_takesWater_b0 (C : x_C p s m args c cX1_takesWater RX1 gg) (hml : c.maxLocals = 1) (hr : meth.sig.returnType = (some .boolean)) (hlocks : meth.locks = false) {x0 : Nat}  {S : sT}  {Q : Int32 → sT → Prop} (h : w_X1_takesWater_b0 x0 S  Q) : x_X p l e r_X1_takesWater s m args below meth c gg 1 0 0 (MQ below (va_Qi Q (fun S1 t => s_Rep gg S1 t.heap) (s_A gg)) args s 0 0 (s_A gg)) 0 [(0, .ref x0)] [] S := by
  unfold w_X1_takesWater_b0 at h
  obtain ⟨hx, hb, -⟩ := id C
  intro H locs ls hR hS hl
  refine lv_aload_n hx hb dX1_takesWater_0 rfl (lv_at hl 0 rfl) ?_
  obtain ⟨hK_x0, h⟩ := h
  refine x_g_72 C hR hK_x0 q_22_21 dX1_takesWater_1 ?_
  refine lv_topi (fun x101 ex101 => ?_)
  have h := h x101 ex101
  refine lv_if_eq (tgt := 21) hx hb dX1_takesWater_4 (by decide) (fun hc102 => ?_) (fun hc102 => ?_)
  · have h := h.1 hc102
    exact t_X1_takesWater_b21 C hml hr hlocks  h H locs ls hR hS (lv_sub (l' := []) hl [] rfl)
  · have h := h.2 hc102
    refine lv_aload_n hx hb dX1_takesWater_7 rfl (lv_at hl 0 rfl) ?_
    refine x_g_68 C hR hK_x0 q_10_21 dX1_takesWater_8 ?_
    obtain ⟨a103, ea103, h⟩ := h
    refine x_some ea103 ?_
    obtain ⟨hK_a103, h⟩ := h
    refine x_g_160 C hR hK_a103 q_22_22 dX1_takesWater_11 ?_
    refine lv_topi (fun x104 ex104 => ?_)
    have h := h x104 ex104
    refine lv_if_lt (tgt := 21) hx hb dX1_takesWater_14 (by decide) (fun hc105 => ?_) (fun hc105 => ?_)
    · have h := h.1 hc105
      exact t_X1_takesWater_b21 C hml hr hlocks  h H locs ls hR hS (lv_sub (l' := []) hl [] rfl)
    · have h := h.2 hc105
      refine lv_iconst (v := 1) hx hb dX1_takesWater_17 (by decide) ?_
      refine lv_goto (tgt := 22) hx hb dX1_takesWater_18 (by decide) ?_
      exact t_X1_takesWater_b22 C hml hr hlocks  h H locs ls hR hS (lv_sub (l' := []) hl [] rfl)
theorem m_X1_takesWater (l : Launch) (gg : sG) (x0 : Nat) (S : sT) {Q : Int32 → sT → Prop} (h : w_X1_takesWater x0 S Q) : x_Mi l gg yX1_takesWater (x_ws yX1_takesWater cX1_takesWater 1 (some .boolean)) r_X1_takesWater [.ref x0] S Q 0 0 := by
  refine x_ofW (cc := cX1_takesWater) (own := RX1) (by decide) rfl (Nat.le_of_ble_eq_true rfl) ?_
  intro p e s m args below meth c C hml hr hlocks hin ht H locs ls hR hS hl
  exact t_X1_takesWater_b0 C hml hr hlocks h H locs ls hR hS (lv_sub (l' := [(0, .ref x0)]) hl [0] rfl)
def w_X1_part_b0 (x0 : Nat) (S : sT)  (Q : Int32 → sT → Prop) : Prop :=
s_K S x0 = 3 ∧
    ∀ x101 : Int32, x101 = s_I S 66 x0 →
    ∀ x102 : Int32, x102 = s_I S 71 x0 →
    ∀ x103 : Int32, x103 = x101 + x102 →
    Q x103 S
def w_X1_part (x0 : Nat) (S : sT) (Q : Int32 → sT → Prop) : Prop := w_X1_part_b0 x0 S Q
def r_X1_part : Room := x_rm 0 0 0 0
theorem b_X1_part : x_BV yX1_part cX1_part 1 (some .int) 0 := ⟨q_23_6, q_23_4, q_23_5, q_10_11, by decide +kernel⟩
set_option maxHeartbeats 4000000 in
theorem t_X1_part_b0 (C : x_C p s m args c cX1_part RX1 gg) (hml : c.maxLocals = 1) (hr : meth.sig.returnType = (some .int)) (hlocks : meth.locks = false) {x0 : Nat}  {S : sT}  {Q : Int32 → sT → Prop} (h : w_X1_part_b0 x0 S  Q) : x_X p l e r_X1_part s m args below meth c gg 1 0 0 (MQ below (va_Qi Q (fun S1 t => s_Rep gg S1 t.heap) (s_A gg)) args s 0 0 (s_A gg)) 0 [(0, .ref x0)] [] S := by
  unfold w_X1_part_b0 at h
  obtain ⟨hx, hb, -⟩ := id C
  intro H locs ls hR hS hl
  refine lv_aload_n hx hb dX1_part_0 rfl (lv_at hl 0 rfl) ?_
  obtain ⟨hK_x0, h⟩ := h
  refine x_g_66 C hR hK_x0 q_11_4 dX1_part_1 ?_
  refine lv_topi (fun x101 ex101 => ?_)
  have h := h x101 ex101
  refine lv_aload_n hx hb dX1_part_4 rfl (lv_at hl 0 rfl) ?_
  refine x_g_71 C hR hK_x0 q_23_7 dX1_part_5 ?_
  refine lv_topi (fun x102 ex102 => ?_)
  have h := h x102 ex102
  refine lv_iadd hx hb dX1_part_8 ?_
  refine lv_topi (fun x103 ex103 => ?_)
  have h := h x103 ex103
  exact W.iret (v := x103) hx hb hr (fun t ht hW => ⟨⟨x103, S, rfl, h, by rw [ht]; exact hR⟩, hS.F ht⟩) hS.2.2 dX1_part_9
theorem m_X1_part (l : Launch) (gg : sG) (x0 : Nat) (S : sT) {Q : Int32 → sT → Prop} (h : w_X1_part x0 S Q) : x_Mi l gg yX1_part (x_ws yX1_part cX1_part 1 (some .int)) r_X1_part [.ref x0] S Q 0 0 := by
  refine x_ofW (cc := cX1_part) (own := RX1) (by decide) rfl (Nat.le_of_ble_eq_true rfl) ?_
  intro p e s m args below meth c C hml hr hlocks hin ht H locs ls hR hS hl
  exact t_X1_part_b0 C hml hr hlocks h H locs ls hR hS (lv_sub (l' := [(0, .ref x0)]) hl [0] rfl)
def w_X1_settlePests_b0 (x0 : Nat) (S : sT)  (Q : sT → Prop) : Prop :=
s_K S x0 = 3 ∧
    ∀ x101 : Int32, x101 = s_I S 76 x0 →
    ∀ x102 : Int32, x102 = s_I S 80 x0 →
    ∀ x103 : Int32, x103 = x101 + x102 →
    ∀ x104 : Int32, x104 = if (99 : Int32) ≤ x103 then (99 : Int32) else x103 →
    ∀ S105 : sT, S105 = s_sI S 76 x0 x104 →
    ∀ S106 : sT, S106 = s_sI S105 80 x0 (0 : Int32) →
    Q S106
def w_X1_settlePests (x0 : Nat) (S : sT) (Q : sT → Prop) : Prop := w_X1_settlePests_b0 x0 S Q
def r_X1_settlePests : Room := x_rm 1 40 0 0
theorem b_X1_settlePests : x_BV yX1_settlePests cX1_settlePests 1 none 0 := ⟨q_25_23, q_25_21, q_25_22, q_10_11, by decide +kernel⟩
set_option maxHeartbeats 4000000 in
theorem t_X1_settlePests_b0 (C : x_C p s m args c cX1_settlePests RX1 gg) (hml : c.maxLocals = 1) (hr : meth.sig.returnType = none) (hlocks : meth.locks = false) {x0 : Nat}  {S : sT}  {Q : sT → Prop} (h : w_X1_settlePests_b0 x0 S  Q) : x_X p l e r_X1_settlePests s m args below meth c gg 1 0 0 (MQ below (va_Qv Q (fun S1 t => s_Rep gg S1 t.heap) (s_A gg)) args s 0 0 (s_A gg)) 0 [(0, .ref x0)] [] S := by
  unfold w_X1_settlePests_b0 at h
  obtain ⟨hx, hb, -⟩ := id C
  intro H locs ls hR hS hl
  refine lv_aload_n hx hb dX1_settlePests_0 rfl (lv_at hl 0 rfl) ?_
  refine lv_bipush (v := 99) hx hb dX1_settlePests_1 (by decide) ?_
  refine lv_aload_n hx hb dX1_settlePests_3 rfl (lv_at hl 0 rfl) ?_
  obtain ⟨hK_x0, h⟩ := h
  refine x_g_76 C hR hK_x0 q_18_18 dX1_settlePests_4 ?_
  refine lv_topi (fun x101 ex101 => ?_)
  have h := h x101 ex101
  refine lv_aload_n hx hb dX1_settlePests_7 rfl (lv_at hl 0 rfl) ?_
  refine x_g_80 C hR hK_x0 q_26_0 dX1_settlePests_8 ?_
  refine lv_topi (fun x102 ex102 => ?_)
  have h := h x102 ex102
  refine lv_iadd hx hb dX1_settlePests_11 ?_
  refine lv_topi (fun x103 ex103 => ?_)
  have h := h x103 ex103
  refine va_mmin hx hb (by rw [hml]; exact hl.1.symm) C.2.2.2.1 (C.2.2.1 _ q_18_20) (C.2.2.1 _ q_7_15) (C.2.2.1 _ q_6_13) (C.2.2.1 _ q_7_16) dX1_settlePests_12 (Nat.le_of_ble_eq_true rfl) (Nat.le_of_ble_eq_true rfl) ?_
  refine lv_topi (fun x104 ex104 => ?_)
  have h := h x104 ex104
  refine x_p_76 (v := x104) C hR hK_x0 hS q_18_18 dX1_settlePests_15 (fun H locs hR hS => ?_)
  obtain ⟨S105, eS105⟩ : ∃ z : sT, z = s_sI S 76 x0 x104 := ⟨_, rfl⟩
  rw [← eS105] at hR
  have h := h S105 eS105
  have hK_x0 : s_K S105 x0 = 3 := by rw [eS105]; exact hK_x0
  refine lv_aload_n hx hb dX1_settlePests_18 rfl (lv_at hl 0 rfl) ?_
  refine lv_iconst (v := 0) hx hb dX1_settlePests_19 (by decide) ?_
  refine x_p_80 (v := (0 : Int32)) C hR hK_x0 hS q_26_0 dX1_settlePests_20 (fun H locs hR hS => ?_)
  obtain ⟨S106, eS106⟩ : ∃ z : sT, z = s_sI S105 80 x0 (0 : Int32) := ⟨_, rfl⟩
  rw [← eS106] at hR
  have h := h S106 eS106
  have hK_x0 : s_K S106 x0 = 3 := by rw [eS106]; exact hK_x0
  exact W.vret hx hb hr (fun t ht hW => ⟨⟨S106, rfl, h, by rw [ht]; exact hR⟩, hS.F ht⟩) hS.2.2 dX1_settlePests_23
theorem m_X1_settlePests (l : Launch) (gg : sG) (x0 : Nat) (S : sT) {Q : sT → Prop} (h : w_X1_settlePests x0 S Q) : x_Mv l gg yX1_settlePests (x_ws yX1_settlePests cX1_settlePests 1 none) r_X1_settlePests [.ref x0] S Q 0 0 := by
  refine x_ofW (cc := cX1_settlePests) (own := RX1) (by decide) rfl (Nat.le_of_ble_eq_true rfl) ?_
  intro p e s m args below meth c C hml hr hlocks hin ht H locs ls hR hS hl
  exact t_X1_settlePests_b0 C hml hr hlocks h H locs ls hR hS (lv_sub (l' := [(0, .ref x0)]) hl [0] rfl)
def w_X1_sendBelow_b33  (S : sT)  (Q : sT → Prop) : Prop :=
Q S
def w_X1_sendBelow_b0 (x0 : Nat) (x1 : Int32) (x2 : Nat) (S : sT)  (Q : sT → Prop) : Prop :=
s_K S x0 = 3 ∧
    ∀ r101 : Option Nat, r101 = s_R S 70 x0 →
    ((r101 = none → s_K S x2 = 5 ∧
    ∀ x104 : Int32, x104 = s_I S 131 x2 →
    ∀ x105 : Int32, x105 = x104 + x1 →
    ∀ S106 : sT, S106 = s_sI S 131 x2 x105 →
    w_X1_sendBelow_b33  S106  Q) ∧
    (∀ a102 : Nat, r101 = some a102 → ∀ r107 : Option Nat, r107 = s_R S 70 x0 →
    ∃ a108 : Nat, r107 = some a108 ∧
    s_K S a108 = 3 ∧
    ∀ x109 : Int32, x109 = s_I S 79 a108 →
    ∀ x110 : Int32, x110 = x109 + x1 →
    ∀ S111 : sT, S111 = s_sI S 79 a108 x110 →
    w_X1_sendBelow_b33  S111  Q))
def w_X1_sendBelow (x0 : Nat) (x1 : Int32) (x2 : Nat) (S : sT) (Q : sT → Prop) : Prop := w_X1_sendBelow_b0 x0 x1 x2 S Q
def r_X1_sendBelow : Room := x_rm 0 0 0 0
theorem b_X1_sendBelow : x_BV yX1_sendBelow cX1_sendBelow 3 none 2 := ⟨q_23_22, q_23_20, q_23_21, q_10_11, by decide +kernel⟩
set_option maxHeartbeats 4000000 in
theorem t_X1_sendBelow_b33 (C : x_C p s m args c cX1_sendBelow RX1 gg) (hml : c.maxLocals = 3) (hr : meth.sig.returnType = none) (hlocks : meth.locks = false)   {S : sT}  {Q : sT → Prop} (h : w_X1_sendBelow_b33  S  Q) : x_X p l e r_X1_sendBelow s m args below meth c gg 3 0 0 (MQ below (va_Qv Q (fun S1 t => s_Rep gg S1 t.heap) (s_A gg)) args s 0 0 (s_A gg)) 33 [] [] S := by
  unfold w_X1_sendBelow_b33 at h
  obtain ⟨hx, hb, -⟩ := id C
  intro H locs ls hR hS hl
  exact W.vret hx hb hr (fun t ht hW => ⟨⟨S, rfl, h, by rw [ht]; exact hR⟩, hS.F ht⟩) hS.2.2 dX1_sendBelow_33
set_option maxHeartbeats 4000000 in
theorem t_X1_sendBelow_b0 (C : x_C p s m args c cX1_sendBelow RX1 gg) (hml : c.maxLocals = 3) (hr : meth.sig.returnType = none) (hlocks : meth.locks = false) {x0 : Nat} {x1 : Int32} {x2 : Nat}  {S : sT}  {Q : sT → Prop} (h : w_X1_sendBelow_b0 x0 x1 x2 S  Q) : x_X p l e r_X1_sendBelow s m args below meth c gg 3 0 0 (MQ below (va_Qv Q (fun S1 t => s_Rep gg S1 t.heap) (s_A gg)) args s 0 0 (s_A gg)) 0 [(0, .ref x0), (1, .int x1), (2, .ref x2)] [] S := by
  unfold w_X1_sendBelow_b0 at h
  obtain ⟨hx, hb, -⟩ := id C
  intro H locs ls hR hS hl
  refine lv_aload_n hx hb dX1_sendBelow_0 rfl (lv_at hl 0 rfl) ?_
  obtain ⟨hK_x0, h⟩ := h
  refine x_g_70 C hR hK_x0 q_23_23 dX1_sendBelow_1 ?_
  refine x_topq (fun r101 er101 => ?_)
  have h := h r101 er101
  refine x_ifnonnull (tgt := 20) hx hb dX1_sendBelow_4 (by decide) (fun a102 hc103 => ?_) (fun hc103 => ?_)
  · have h := h.2 a102 hc103
    subst hc103
    refine lv_aload_n hx hb dX1_sendBelow_20 rfl (lv_at hl 0 rfl) ?_
    refine x_g_70 C hR hK_x0 q_23_23 dX1_sendBelow_21 ?_
    refine x_topq (fun r107 er107 => ?_)
    have h := h r107 er107
    refine lv_dup hx hb dX1_sendBelow_24 rfl ?_
    obtain ⟨a108, za108, h⟩ := h
    subst za108
    obtain ⟨hK_a108, h⟩ := h
    refine x_g_79 C hR hK_a108 q_23_14 dX1_sendBelow_25 ?_
    refine lv_topi (fun x109 ex109 => ?_)
    have h := h x109 ex109
    refine lv_iload_n hx hb dX1_sendBelow_28 rfl (lv_at hl 1 rfl) ?_
    refine lv_iadd hx hb dX1_sendBelow_29 ?_
    refine lv_topi (fun x110 ex110 => ?_)
    have h := h x110 ex110
    refine x_p_79 (v := x110) C hR hK_a108 hS q_23_14 dX1_sendBelow_30 (fun H locs hR hS => ?_)
    obtain ⟨S111, eS111⟩ : ∃ z : sT, z = s_sI S 79 a108 x110 := ⟨_, rfl⟩
    rw [← eS111] at hR
    have h := h S111 eS111
    have hK_x0 : s_K S111 x0 = 3 := by rw [eS111]; exact hK_x0
    have hK_a108 : s_K S111 a108 = 3 := by rw [eS111]; exact hK_a108
    exact t_X1_sendBelow_b33 C hml hr hlocks  h H locs ls hR hS (lv_sub (l' := []) hl [] rfl)
  · have h := h.1 hc103
    subst hc103
    refine lv_aload_n hx hb dX1_sendBelow_7 rfl (lv_at hl 2 rfl) ?_
    refine lv_dup hx hb dX1_sendBelow_8 rfl ?_
    obtain ⟨hK_x2, h⟩ := h
    refine x_g_131 C hR hK_x2 q_24_0 dX1_sendBelow_9 ?_
    refine lv_topi (fun x104 ex104 => ?_)
    have h := h x104 ex104
    refine lv_iload_n hx hb dX1_sendBelow_12 rfl (lv_at hl 1 rfl) ?_
    refine lv_iadd hx hb dX1_sendBelow_13 ?_
    refine lv_topi (fun x105 ex105 => ?_)
    have h := h x105 ex105
    refine x_p_131 (v := x105) C hR hK_x2 hS q_24_0 dX1_sendBelow_14 (fun H locs hR hS => ?_)
    obtain ⟨S106, eS106⟩ : ∃ z : sT, z = s_sI S 131 x2 x105 := ⟨_, rfl⟩
    rw [← eS106] at hR
    have h := h S106 eS106
    have hK_x0 : s_K S106 x0 = 3 := by rw [eS106]; exact hK_x0
    have hK_x2 : s_K S106 x2 = 5 := by rw [eS106]; exact hK_x2
    refine lv_goto (tgt := 33) hx hb dX1_sendBelow_17 (by decide) ?_
    exact t_X1_sendBelow_b33 C hml hr hlocks  h H locs ls hR hS (lv_sub (l' := []) hl [] rfl)
theorem m_X1_sendBelow (l : Launch) (gg : sG) (x0 : Nat) (x1 : Int32) (x2 : Nat) (S : sT) {Q : sT → Prop} (h : w_X1_sendBelow x0 x1 x2 S Q) : x_Mv l gg yX1_sendBelow (x_ws yX1_sendBelow cX1_sendBelow 3 none) r_X1_sendBelow [.ref x0, .int x1, .ref x2] S Q 0 0 := by
  refine x_ofW (cc := cX1_sendBelow) (own := RX1) (by decide) rfl (Nat.le_of_ble_eq_true rfl) ?_
  intro p e s m args below meth c C hml hr hlocks hin ht H locs ls hR hS hl
  exact t_X1_sendBelow_b0 C hml hr hlocks h H locs ls hR hS (lv_sub (l' := [(0, .ref x0), (1, .int x1), (2, .ref x2)]) hl [0, 1, 2] rfl)
end
