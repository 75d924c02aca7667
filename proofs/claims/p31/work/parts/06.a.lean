section
variable {p : Program} {l : Launch} {e : Env} {s : State} {m : MethodId} {args : Array Value} {below : List Frame} {meth : Method} {c : Code} {gg : sG}
def w_X4_isExcluded_b12 (y0 : Int32) (S : sT)  (Q : Int32 → sT → Prop) : Prop :=
(y0 = 0 ∨ y0 = 1) ∧
    Q y0 S
def w_X4_isExcluded_b0 (x0 : Nat) (S : sT)  (Q : Int32 → sT → Prop) : Prop :=
s_K S x0 = 6 ∧
    ∀ x101 : Int32, x101 = s_I S 160 x0 →
    ((0 ≤ x101 → w_X4_isExcluded_b12 (0 : Int32) S  Q) ∧
    (¬ 0 ≤ x101 → w_X4_isExcluded_b12 (1 : Int32) S  Q))
def w_X4_isExcluded (x0 : Nat) (S : sT) (Q : Int32 → sT → Prop) : Prop := w_X4_isExcluded_b0 x0 S Q
def r_X4_isExcluded : Room := x_rm 0 0 0 0
theorem b_X4_isExcluded : x_BV yX4_isExcluded cX4_isExcluded 1 (some .boolean) 0 := ⟨q_16_2, q_16_0, q_16_1, q_8_21, by decide +kernel⟩
set_option maxHeartbeats 4000000 in
theorem t_X4_isExcluded_b12 {Q : Int32 → sT → Prop} (C : x_C p s m args c cX4_isExcluded RX4 gg) (hml : c.maxLocals = 1) (hr : meth.sig.returnType = (some .boolean)) (hlocks : meth.locks = false) {y0 : Int32}  {S : sT}  (h : w_X4_isExcluded_b12 y0 S  Q) : x_X p l e r_X4_isExcluded s m args below meth c gg 1 0 0 (MQ below (va_Qi Q (fun S1 t => s_Rep gg S1 t.heap) (s_A gg)) args s 0 0 (s_A gg)) 12 [] [.int y0] S := by
  unfold w_X4_isExcluded_b12 at h
  obtain ⟨hx, hb, -⟩ := id C
  intro H locs ls hR hS hl
  obtain ⟨hz101, h⟩ := h
  exact W.zret (v := y0) hx hb hr (zb_n hz101) (fun t ht hW => ⟨⟨y0, S, rfl, h, x_rt ht hR⟩, hS.F ht⟩) hS.2.2 dX4_isExcluded_12
set_option maxHeartbeats 4000000 in
theorem t_X4_isExcluded_b0 {Q : Int32 → sT → Prop} (C : x_C p s m args c cX4_isExcluded RX4 gg) (hml : c.maxLocals = 1) (hr : meth.sig.returnType = (some .boolean)) (hlocks : meth.locks = false) {x0 : Nat}  {S : sT}  (h : w_X4_isExcluded_b0 x0 S  Q) : x_X p l e r_X4_isExcluded s m args below meth c gg 1 0 0 (MQ below (va_Qi Q (fun S1 t => s_Rep gg S1 t.heap) (s_A gg)) args s 0 0 (s_A gg)) 0 [(0, .ref x0)] [] S := by
  unfold w_X4_isExcluded_b0 at h
  obtain ⟨hx, hb, -⟩ := id C
  intro H locs ls hR hS hl
  refine lv_aload_n hx hb dX4_isExcluded_0 rfl (lv_at hl 0 rfl) ?_
  obtain ⟨hK_x0, h⟩ := h
  refine x_g_160 C hR hK_x0 q_9_10 dX4_isExcluded_1 ?_
  refine lv_topi (fun x101 ex101 => ?_)
  replace h := h x101 ex101
  refine lv_if_ge (tgt := 11) hx hb dX4_isExcluded_4 (by decide) (fun hc102 => ?_) (fun hc102 => ?_)
  · replace h := h.1 hc102
    refine lv_iconst (v := 0) hx hb dX4_isExcluded_11 (by decide) ?_
    exact t_X4_isExcluded_b12 C hml hr hlocks  h H locs ls hR hS (lv_sub (l' := []) hl [] rfl)
  · replace h := h.2 hc102
    refine lv_iconst (v := 1) hx hb dX4_isExcluded_7 (by decide) ?_
    refine lv_goto (tgt := 12) hx hb dX4_isExcluded_8 (by decide) ?_
    exact t_X4_isExcluded_b12 C hml hr hlocks  h H locs ls hR hS (lv_sub (l' := []) hl [] rfl)
theorem m_X4_isExcluded (l : Launch) (gg : sG) (x0 : Nat) (S : sT) {Q : Int32 → sT → Prop} (h : w_X4_isExcluded x0 S Q) : x_Mi l gg yX4_isExcluded (x_ws yX4_isExcluded cX4_isExcluded 1 (some .boolean)) r_X4_isExcluded [.ref x0] S Q 0 0 := by
  refine x_ofW (cc := cX4_isExcluded) (own := RX4) (by decide +kernel) rfl (Nat.le_of_ble_eq_true rfl) ?_
  intro p e s m args below meth c C hml hr hlocks hin ht H locs ls hR hS hl
  exact t_X4_isExcluded_b0 C hml hr hlocks h H locs ls hR hS (lv_sub (l' := [(0, .ref x0)]) hl [0] rfl)
def w_X3_sumOfGone_b0 (x0 : Nat) (S : sT)  (Q : Int32 → sT → Prop) : Prop :=
s_K S x0 = 5 ∧
    ∀ x101 : Int32, x101 = s_I S 129 x0 →
    ∀ x102 : Int32, x102 = s_I S 130 x0 →
    ∀ x103 : Int32, x103 = x101 + x102 →
    ∀ x104 : Int32, x104 = s_I S 131 x0 →
    ∀ x105 : Int32, x105 = x103 + x104 →
    Q x105 S
def w_X3_sumOfGone (x0 : Nat) (S : sT) (Q : Int32 → sT → Prop) : Prop := w_X3_sumOfGone_b0 x0 S Q
def r_X3_sumOfGone : Room := x_rm 0 0 0 0
theorem b_X3_sumOfGone : x_BV yX3_sumOfGone cX3_sumOfGone 1 (some .int) 0 := ⟨q_25_15, q_25_13, q_25_14, q_2_1, by decide +kernel⟩
set_option maxHeartbeats 4000000 in
theorem t_X3_sumOfGone_b0 {Q : Int32 → sT → Prop} (C : x_C p s m args c cX3_sumOfGone RX3 gg) (hml : c.maxLocals = 1) (hr : meth.sig.returnType = (some .int)) (hlocks : meth.locks = false) {x0 : Nat}  {S : sT}  (h : w_X3_sumOfGone_b0 x0 S  Q) : x_X p l e r_X3_sumOfGone s m args below meth c gg 1 0 0 (MQ below (va_Qi Q (fun S1 t => s_Rep gg S1 t.heap) (s_A gg)) args s 0 0 (s_A gg)) 0 [(0, .ref x0)] [] S := by
  unfold w_X3_sumOfGone_b0 at h
  obtain ⟨hx, hb, -⟩ := id C
  intro H locs ls hR hS hl
  refine lv_aload_n hx hb dX3_sumOfGone_0 rfl (lv_at hl 0 rfl) ?_
  obtain ⟨hK_x0, h⟩ := h
  refine x_g_129 C hR hK_x0 q_25_16 dX3_sumOfGone_1 ?_
  refine lv_topi (fun x101 ex101 => ?_)
  replace h := h x101 ex101
  refine lv_aload_n hx hb dX3_sumOfGone_4 rfl (lv_at hl 0 rfl) ?_
  refine x_g_130 C hR hK_x0 q_25_17 dX3_sumOfGone_5 ?_
  refine lv_topi (fun x102 ex102 => ?_)
  replace h := h x102 ex102
  refine lv_iadd hx hb dX3_sumOfGone_8 ?_
  refine lv_topi (fun x103 ex103 => ?_)
  replace h := h x103 ex103
  refine lv_aload_n hx hb dX3_sumOfGone_9 rfl (lv_at hl 0 rfl) ?_
  refine x_g_131 C hR hK_x0 q_25_18 dX3_sumOfGone_10 ?_
  refine lv_topi (fun x104 ex104 => ?_)
  replace h := h x104 ex104
  refine lv_iadd hx hb dX3_sumOfGone_13 ?_
  refine lv_topi (fun x105 ex105 => ?_)
  replace h := h x105 ex105
  exact W.iret (v := x105) hx hb hr (fun t ht hW => ⟨⟨x105, S, rfl, h, x_rt ht hR⟩, hS.F ht⟩) hS.2.2 dX3_sumOfGone_14
theorem m_X3_sumOfGone (l : Launch) (gg : sG) (x0 : Nat) (S : sT) {Q : Int32 → sT → Prop} (h : w_X3_sumOfGone x0 S Q) : x_Mi l gg yX3_sumOfGone (x_ws yX3_sumOfGone cX3_sumOfGone 1 (some .int)) r_X3_sumOfGone [.ref x0] S Q 0 0 := by
  refine x_ofW (cc := cX3_sumOfGone) (own := RX3) (by decide +kernel) rfl (Nat.le_of_ble_eq_true rfl) ?_
  intro p e s m args below meth c C hml hr hlocks hin ht H locs ls hR hS hl
  exact t_X3_sumOfGone_b0 C hml hr hlocks h H locs ls hR hS (lv_sub (l' := [(0, .ref x0)]) hl [0] rfl)
def w_X6_isOnTheStalk_b15 (y0 : Int32) (S : sT)  (Q : Int32 → sT → Prop) : Prop :=
(y0 = 0 ∨ y0 = 1) ∧
    Q y0 S
def w_X6_isOnTheStalk_b14  (S : sT)  (Q : Int32 → sT → Prop) : Prop :=
w_X6_isOnTheStalk_b15 (0 : Int32) S  Q
def w_X6_isOnTheStalk_b0 (x0 : Int32) (S : sT)  (Q : Int32 → sT → Prop) : Prop :=
((x0 < (2 : Int32) → w_X6_isOnTheStalk_b14  S  Q) ∧
    (¬ x0 < (2 : Int32) → (((4 : Int32) < x0 → w_X6_isOnTheStalk_b14  S  Q) ∧
    (¬ (4 : Int32) < x0 → w_X6_isOnTheStalk_b15 (1 : Int32) S  Q))))
def w_X6_isOnTheStalk (x0 : Int32) (S : sT) (Q : Int32 → sT → Prop) : Prop := w_X6_isOnTheStalk_b0 x0 S Q
def r_X6_isOnTheStalk : Room := x_rm 0 0 0 0
theorem b_X6_isOnTheStalk : x_BS yX6_isOnTheStalk cX6_isOnTheStalk 1 (some .boolean) 1 := ⟨q_22_22, q_22_21, q_1_2, by decide +kernel⟩
set_option maxHeartbeats 4000000 in
theorem t_X6_isOnTheStalk_b15 {Q : Int32 → sT → Prop} (C : x_C p s m args c cX6_isOnTheStalk RX6 gg) (hml : c.maxLocals = 1) (hr : meth.sig.returnType = (some .boolean)) (hlocks : meth.locks = false) {y0 : Int32}  {S : sT}  (h : w_X6_isOnTheStalk_b15 y0 S  Q) : x_X p l e r_X6_isOnTheStalk s m args below meth c gg 1 0 0 (MQ below (va_Qi Q (fun S1 t => s_Rep gg S1 t.heap) (s_A gg)) args s 0 0 (s_A gg)) 15 [] [.int y0] S := by
  unfold w_X6_isOnTheStalk_b15 at h
  obtain ⟨hx, hb, -⟩ := id C
  intro H locs ls hR hS hl
  obtain ⟨hz101, h⟩ := h
  exact W.zret (v := y0) hx hb hr (zb_n hz101) (fun t ht hW => ⟨⟨y0, S, rfl, h, x_rt ht hR⟩, hS.F ht⟩) hS.2.2 dX6_isOnTheStalk_15
set_option maxHeartbeats 4000000 in
theorem t_X6_isOnTheStalk_b14 {Q : Int32 → sT → Prop} (C : x_C p s m args c cX6_isOnTheStalk RX6 gg) (hml : c.maxLocals = 1) (hr : meth.sig.returnType = (some .boolean)) (hlocks : meth.locks = false)   {S : sT}  (h : w_X6_isOnTheStalk_b14  S  Q) : x_X p l e r_X6_isOnTheStalk s m args below meth c gg 1 0 0 (MQ below (va_Qi Q (fun S1 t => s_Rep gg S1 t.heap) (s_A gg)) args s 0 0 (s_A gg)) 14 [] [] S := by
  unfold w_X6_isOnTheStalk_b14 at h
  obtain ⟨hx, hb, -⟩ := id C
  intro H locs ls hR hS hl
  refine lv_iconst (v := 0) hx hb dX6_isOnTheStalk_14 (by decide) ?_
  exact t_X6_isOnTheStalk_b15 C hml hr hlocks  h H locs ls hR hS (lv_sub (l' := []) hl [] rfl)
set_option maxHeartbeats 4000000 in
theorem t_X6_isOnTheStalk_b0 {Q : Int32 → sT → Prop} (C : x_C p s m args c cX6_isOnTheStalk RX6 gg) (hml : c.maxLocals = 1) (hr : meth.sig.returnType = (some .boolean)) (hlocks : meth.locks = false) {x0 : Int32}  {S : sT}  (h : w_X6_isOnTheStalk_b0 x0 S  Q) : x_X p l e r_X6_isOnTheStalk s m args below meth c gg 1 0 0 (MQ below (va_Qi Q (fun S1 t => s_Rep gg S1 t.heap) (s_A gg)) args s 0 0 (s_A gg)) 0 [(0, .int x0)] [] S := by
  unfold w_X6_isOnTheStalk_b0 at h
  obtain ⟨hx, hb, -⟩ := id C
  intro H locs ls hR hS hl
  refine lv_iload_n hx hb dX6_isOnTheStalk_0 rfl (lv_at hl 0 rfl) ?_
  refine lv_iconst (v := 2) hx hb dX6_isOnTheStalk_1 (by decide) ?_
  refine lv_icmp_lt (tgt := 14) hx hb dX6_isOnTheStalk_2 (by decide) (fun hc101 => ?_) (fun hc101 => ?_)
  · replace h := h.1 hc101
    exact t_X6_isOnTheStalk_b14 C hml hr hlocks  h H locs ls hR hS (lv_sub (l' := []) hl [] rfl)
  · replace h := h.2 hc101
    refine lv_iload_n hx hb dX6_isOnTheStalk_5 rfl (lv_at hl 0 rfl) ?_
    refine lv_iconst (v := 4) hx hb dX6_isOnTheStalk_6 (by decide) ?_
    refine lv_icmp_gt (tgt := 14) hx hb dX6_isOnTheStalk_7 (by decide) (fun hc102 => ?_) (fun hc102 => ?_)
    · replace h := h.1 hc102
      exact t_X6_isOnTheStalk_b14 C hml hr hlocks  h H locs ls hR hS (lv_sub (l' := []) hl [] rfl)
    · replace h := h.2 hc102
      refine lv_iconst (v := 1) hx hb dX6_isOnTheStalk_10 (by decide) ?_
      refine lv_goto (tgt := 15) hx hb dX6_isOnTheStalk_11 (by decide) ?_
      exact t_X6_isOnTheStalk_b15 C hml hr hlocks  h H locs ls hR hS (lv_sub (l' := []) hl [] rfl)
theorem m_X6_isOnTheStalk (l : Launch) (gg : sG) (x0 : Int32) (S : sT) {Q : Int32 → sT → Prop} (h : w_X6_isOnTheStalk x0 S Q) : x_Mi l gg yX6_isOnTheStalk (x_ws yX6_isOnTheStalk cX6_isOnTheStalk 1 (some .boolean)) r_X6_isOnTheStalk [.int x0] S Q 0 0 := by
  refine x_ofW (cc := cX6_isOnTheStalk) (own := RX6) (by decide +kernel) rfl (Nat.le_of_ble_eq_true rfl) ?_
  intro p e s m args below meth c C hml hr hlocks hin ht H locs ls hR hS hl
  exact t_X6_isOnTheStalk_b0 C hml hr hlocks h H locs ls hR hS (lv_sub (l' := [(0, .int x0)]) hl [0] rfl)
def w_X6_isWithin_b15 (y0 : Int32) (S : sT)  (Q : Int32 → sT → Prop) : Prop :=
(y0 = 0 ∨ y0 = 1) ∧
    Q y0 S
def w_X6_isWithin_b14  (S : sT)  (Q : Int32 → sT → Prop) : Prop :=
w_X6_isWithin_b15 (0 : Int32) S  Q
def w_X6_isWithin_b0 (x0 : Int32) (x1 : Int32) (x2 : Int32) (S : sT)  (Q : Int32 → sT → Prop) : Prop :=
((x0 < x1 → w_X6_isWithin_b14  S  Q) ∧
    (¬ x0 < x1 → ((x2 < x0 → w_X6_isWithin_b14  S  Q) ∧
    (¬ x2 < x0 → w_X6_isWithin_b15 (1 : Int32) S  Q))))
def w_X6_isWithin (x0 : Int32) (x1 : Int32) (x2 : Int32) (S : sT) (Q : Int32 → sT → Prop) : Prop := w_X6_isWithin_b0 x0 x1 x2 S Q
def r_X6_isWithin : Room := x_rm 0 0 0 0
theorem b_X6_isWithin : x_BS yX6_isWithin cX6_isWithin 3 (some .boolean) 3 := ⟨q_3_17, q_3_16, q_1_2, by decide +kernel⟩
set_option maxHeartbeats 4000000 in
theorem t_X6_isWithin_b15 {Q : Int32 → sT → Prop} (C : x_C p s m args c cX6_isWithin RX6 gg) (hml : c.maxLocals = 3) (hr : meth.sig.returnType = (some .boolean)) (hlocks : meth.locks = false) {y0 : Int32}  {S : sT}  (h : w_X6_isWithin_b15 y0 S  Q) : x_X p l e r_X6_isWithin s m args below meth c gg 3 0 0 (MQ below (va_Qi Q (fun S1 t => s_Rep gg S1 t.heap) (s_A gg)) args s 0 0 (s_A gg)) 15 [] [.int y0] S := by
  unfold w_X6_isWithin_b15 at h
  obtain ⟨hx, hb, -⟩ := id C
  intro H locs ls hR hS hl
  obtain ⟨hz101, h⟩ := h
  exact W.zret (v := y0) hx hb hr (zb_n hz101) (fun t ht hW => ⟨⟨y0, S, rfl, h, x_rt ht hR⟩, hS.F ht⟩) hS.2.2 dX6_isWithin_15
set_option maxHeartbeats 4000000 in
theorem t_X6_isWithin_b14 {Q : Int32 → sT → Prop} (C : x_C p s m args c cX6_isWithin RX6 gg) (hml : c.maxLocals = 3) (hr : meth.sig.returnType = (some .boolean)) (hlocks : meth.locks = false)   {S : sT}  (h : w_X6_isWithin_b14  S  Q) : x_X p l e r_X6_isWithin s m args below meth c gg 3 0 0 (MQ below (va_Qi Q (fun S1 t => s_Rep gg S1 t.heap) (s_A gg)) args s 0 0 (s_A gg)) 14 [] [] S := by
  unfold w_X6_isWithin_b14 at h
  obtain ⟨hx, hb, -⟩ := id C
  intro H locs ls hR hS hl
  refine lv_iconst (v := 0) hx hb dX6_isWithin_14 (by decide) ?_
  exact t_X6_isWithin_b15 C hml hr hlocks  h H locs ls hR hS (lv_sub (l' := []) hl [] rfl)
set_option maxHeartbeats 4000000 in
theorem t_X6_isWithin_b0 {Q : Int32 → sT → Prop} (C : x_C p s m args c cX6_isWithin RX6 gg) (hml : c.maxLocals = 3) (hr : meth.sig.returnType = (some .boolean)) (hlocks : meth.locks = false) {x0 : Int32} {x1 : Int32} {x2 : Int32}  {S : sT}  (h : w_X6_isWithin_b0 x0 x1 x2 S  Q) : x_X p l e r_X6_isWithin s m args below meth c gg 3 0 0 (MQ below (va_Qi Q (fun S1 t => s_Rep gg S1 t.heap) (s_A gg)) args s 0 0 (s_A gg)) 0 [(0, .int x0), (1, .int x1), (2, .int x2)] [] S := by
  unfold w_X6_isWithin_b0 at h
  obtain ⟨hx, hb, -⟩ := id C
  intro H locs ls hR hS hl
  refine lv_iload_n hx hb dX6_isWithin_0 rfl (lv_at hl 0 rfl) ?_
  refine lv_iload_n hx hb dX6_isWithin_1 rfl (lv_at hl 1 rfl) ?_
  refine lv_icmp_lt (tgt := 14) hx hb dX6_isWithin_2 (by decide) (fun hc101 => ?_) (fun hc101 => ?_)
  · replace h := h.1 hc101
    exact t_X6_isWithin_b14 C hml hr hlocks  h H locs ls hR hS (lv_sub (l' := []) hl [] rfl)
  · replace h := h.2 hc101
    refine lv_iload_n hx hb dX6_isWithin_5 rfl (lv_at hl 0 rfl) ?_
    refine lv_iload_n hx hb dX6_isWithin_6 rfl (lv_at hl 2 rfl) ?_
    refine lv_icmp_gt (tgt := 14) hx hb dX6_isWithin_7 (by decide) (fun hc102 => ?_) (fun hc102 => ?_)
    · replace h := h.1 hc102
      exact t_X6_isWithin_b14 C hml hr hlocks  h H locs ls hR hS (lv_sub (l' := []) hl [] rfl)
    · replace h := h.2 hc102
      refine lv_iconst (v := 1) hx hb dX6_isWithin_10 (by decide) ?_
      refine lv_goto (tgt := 15) hx hb dX6_isWithin_11 (by decide) ?_
      exact t_X6_isWithin_b15 C hml hr hlocks  h H locs ls hR hS (lv_sub (l' := []) hl [] rfl)
theorem m_X6_isWithin (l : Launch) (gg : sG) (x0 : Int32) (x1 : Int32) (x2 : Int32) (S : sT) {Q : Int32 → sT → Prop} (h : w_X6_isWithin x0 x1 x2 S Q) : x_Mi l gg yX6_isWithin (x_ws yX6_isWithin cX6_isWithin 3 (some .boolean)) r_X6_isWithin [.int x0, .int x1, .int x2] S Q 0 0 := by
  refine x_ofW (cc := cX6_isWithin) (own := RX6) (by decide +kernel) rfl (Nat.le_of_ble_eq_true rfl) ?_
  intro p e s m args below meth c C hml hr hlocks hin ht H locs ls hR hS hl
  exact t_X6_isWithin_b0 C hml hr hlocks h H locs ls hR hS (lv_sub (l' := [(0, .int x0), (1, .int x1), (2, .int x2)]) hl [0, 1, 2] rfl)
def w_X6_oneIf_b9 (y0 : Int32) (S : sT)  (Q : Int32 → sT → Prop) : Prop :=
Q y0 S
def w_X6_oneIf_b0 (x0 : Int32) (S : sT)  (Q : Int32 → sT → Prop) : Prop :=
((x0 = 0 → w_X6_oneIf_b9 (0 : Int32) S  Q) ∧
    (¬ x0 = 0 → w_X6_oneIf_b9 (1 : Int32) S  Q))
def w_X6_oneIf (x0 : Int32) (S : sT) (Q : Int32 → sT → Prop) : Prop := w_X6_oneIf_b0 x0 S Q
def r_X6_oneIf : Room := x_rm 0 0 0 0
theorem b_X6_oneIf : x_BS yX6_oneIf cX6_oneIf 1 (some .int) 1 := ⟨q_11_20, q_11_19, q_1_2, by decide +kernel⟩
set_option maxHeartbeats 4000000 in
theorem t_X6_oneIf_b9 {Q : Int32 → sT → Prop} (C : x_C p s m args c cX6_oneIf RX6 gg) (hml : c.maxLocals = 1) (hr : meth.sig.returnType = (some .int)) (hlocks : meth.locks = false) {y0 : Int32}  {S : sT}  (h : w_X6_oneIf_b9 y0 S  Q) : x_X p l e r_X6_oneIf s m args below meth c gg 1 0 0 (MQ below (va_Qi Q (fun S1 t => s_Rep gg S1 t.heap) (s_A gg)) args s 0 0 (s_A gg)) 9 [] [.int y0] S := by
  unfold w_X6_oneIf_b9 at h
  obtain ⟨hx, hb, -⟩ := id C
  intro H locs ls hR hS hl
  exact W.iret (v := y0) hx hb hr (fun t ht hW => ⟨⟨y0, S, rfl, h, x_rt ht hR⟩, hS.F ht⟩) hS.2.2 dX6_oneIf_9
set_option maxHeartbeats 4000000 in
theorem t_X6_oneIf_b0 {Q : Int32 → sT → Prop} (C : x_C p s m args c cX6_oneIf RX6 gg) (hml : c.maxLocals = 1) (hr : meth.sig.returnType = (some .int)) (hlocks : meth.locks = false) {x0 : Int32}  {S : sT}  (h : w_X6_oneIf_b0 x0 S  Q) : x_X p l e r_X6_oneIf s m args below meth c gg 1 0 0 (MQ below (va_Qi Q (fun S1 t => s_Rep gg S1 t.heap) (s_A gg)) args s 0 0 (s_A gg)) 0 [(0, .int x0)] [] S := by
  unfold w_X6_oneIf_b0 at h
  obtain ⟨hx, hb, -⟩ := id C
  intro H locs ls hR hS hl
  refine lv_iload_n hx hb dX6_oneIf_0 rfl (lv_at hl 0 rfl) ?_
  refine lv_if_eq (tgt := 8) hx hb dX6_oneIf_1 (by decide) (fun hc101 => ?_) (fun hc101 => ?_)
  · replace h := h.1 hc101
    refine lv_iconst (v := 0) hx hb dX6_oneIf_8 (by decide) ?_
    exact t_X6_oneIf_b9 C hml hr hlocks  h H locs ls hR hS (lv_sub (l' := []) hl [] rfl)
  · replace h := h.2 hc101
    refine lv_iconst (v := 1) hx hb dX6_oneIf_4 (by decide) ?_
    refine lv_goto (tgt := 9) hx hb dX6_oneIf_5 (by decide) ?_
    exact t_X6_oneIf_b9 C hml hr hlocks  h H locs ls hR hS (lv_sub (l' := []) hl [] rfl)
theorem m_X6_oneIf (l : Launch) (gg : sG) (x0 : Int32) (S : sT) {Q : Int32 → sT → Prop} (h : w_X6_oneIf x0 S Q) : x_Mi l gg yX6_oneIf (x_ws yX6_oneIf cX6_oneIf 1 (some .int)) r_X6_oneIf [.int x0] S Q 0 0 := by
  refine x_ofW (cc := cX6_oneIf) (own := RX6) (by decide +kernel) rfl (Nat.le_of_ble_eq_true rfl) ?_
  intro p e s m args below meth c C hml hr hlocks hin ht H locs ls hR hS hl
  exact t_X6_oneIf_b0 C hml hr hlocks h H locs ls hR hS (lv_sub (l' := [(0, .int x0)]) hl [0] rfl)
def w_X6_numberOf_b12 (y0 : Int32) (S : sT)  (Q : Int32 → sT → Prop) : Prop :=
Q y0 S
def w_X6_numberOf_b0 (x0 : Option Nat) (S : sT)  (Q : Int32 → sT → Prop) : Prop :=
((x0 = none → w_X6_numberOf_b12 (-1 : Int32) S  Q) ∧
    (∀ a101 : Nat, x0 = some a101 → s_K S a101 = 3 ∧
    ∀ x103 : Int32, x103 = s_I S 64 a101 →
    w_X6_numberOf_b12 x103 S  Q))
def w_X6_numberOf (x0 : Option Nat) (S : sT) (Q : Int32 → sT → Prop) : Prop := w_X6_numberOf_b0 x0 S Q
def r_X6_numberOf : Room := x_rm 0 0 0 0
theorem b_X6_numberOf : x_BS yX6_numberOf cX6_numberOf 1 (some .int) 1 := ⟨q_15_13, q_15_12, q_1_2, by decide +kernel⟩
set_option maxHeartbeats 4000000 in
theorem t_X6_numberOf_b12 {Q : Int32 → sT → Prop} (C : x_C p s m args c cX6_numberOf RX6 gg) (hml : c.maxLocals = 1) (hr : meth.sig.returnType = (some .int)) (hlocks : meth.locks = false) {y0 : Int32}  {S : sT}  (h : w_X6_numberOf_b12 y0 S  Q) : x_X p l e r_X6_numberOf s m args below meth c gg 1 0 0 (MQ below (va_Qi Q (fun S1 t => s_Rep gg S1 t.heap) (s_A gg)) args s 0 0 (s_A gg)) 12 [] [.int y0] S := by
  unfold w_X6_numberOf_b12 at h
  obtain ⟨hx, hb, -⟩ := id C
  intro H locs ls hR hS hl
  exact W.iret (v := y0) hx hb hr (fun t ht hW => ⟨⟨y0, S, rfl, h, x_rt ht hR⟩, hS.F ht⟩) hS.2.2 dX6_numberOf_12
set_option maxHeartbeats 4000000 in
theorem t_X6_numberOf_b0 {Q : Int32 → sT → Prop} (C : x_C p s m args c cX6_numberOf RX6 gg) (hml : c.maxLocals = 1) (hr : meth.sig.returnType = (some .int)) (hlocks : meth.locks = false) {x0 : Option Nat}  {S : sT}  (h : w_X6_numberOf_b0 x0 S  Q) : x_X p l e r_X6_numberOf s m args below meth c gg 1 0 0 (MQ below (va_Qi Q (fun S1 t => s_Rep gg S1 t.heap) (s_A gg)) args s 0 0 (s_A gg)) 0 [(0, va_rf x0)] [] S := by
  unfold w_X6_numberOf_b0 at h
  obtain ⟨hx, hb, -⟩ := id C
  intro H locs ls hR hS hl
  refine x_aload_n hx hb dX6_numberOf_0 rfl (lv_at hl 0 rfl) ?_
  refine x_ifnonnull (tgt := 8) hx hb dX6_numberOf_1 (by decide) (fun a101 hc102 => ?_) (fun hc102 => ?_)
  · replace h := h.2 a101 hc102
    have z2 : va_rf x0 = Value.ref a101 := by rw [hc102]; rfl
    rw [z2] at hl
    refine lv_aload_n hx hb dX6_numberOf_8 rfl (lv_at hl 0 rfl) ?_
    obtain ⟨hK_a101, h⟩ := h
    refine x_g_64 C hR hK_a101 q_15_14 dX6_numberOf_9 ?_
    refine lv_topi (fun x103 ex103 => ?_)
    replace h := h x103 ex103
    exact t_X6_numberOf_b12 C hml hr hlocks  h H locs ls hR hS (lv_sub (l' := []) hl [] rfl)
  · replace h := h.1 hc102
    have z2 : va_rf x0 = Value.null := by rw [hc102]; rfl
    rw [show va_rf x0 = va_rf none from z2] at hl
    refine lv_iconst (v := (-1)) hx hb dX6_numberOf_4 (by decide) ?_
    refine lv_goto (tgt := 12) hx hb dX6_numberOf_5 (by decide) ?_
    exact t_X6_numberOf_b12 C hml hr hlocks  h H locs ls hR hS (lv_sub (l' := []) hl [] rfl)
theorem m_X6_numberOf (l : Launch) (gg : sG) (x0 : Option Nat) (S : sT) {Q : Int32 → sT → Prop} (h : w_X6_numberOf x0 S Q) : x_Mi l gg yX6_numberOf (x_ws yX6_numberOf cX6_numberOf 1 (some .int)) r_X6_numberOf [va_rf x0] S Q 0 0 := by
  cases x0 <;> (
  refine x_ofW (cc := cX6_numberOf) (own := RX6) (by decide +kernel) rfl (Nat.le_of_ble_eq_true rfl) ?_
  intro p e s m args below meth c C hml hr hlocks hin ht H locs ls hR hS hl
  exact t_X6_numberOf_b0 C hml hr hlocks h H locs ls hR hS (lv_sub hl [0] rfl))
def w_X6_mix_b0 (x0 : Int64) (x2 : Int32) (S : sT)  (Q : Int64 → sT → Prop) : Prop :=
∀ j101 : Int64, j101 = x0 * (31 : Int64) →
    ∀ j102 : Int64, j102 = Int32.toInt64 x2 →
    ∀ j103 : Int64, j103 = j101 + j102 →
    Q j103 S
def w_X6_mix (x0 : Int64) (x2 : Int32) (S : sT) (Q : Int64 → sT → Prop) : Prop := w_X6_mix_b0 x0 x2 S Q
def r_X6_mix : Room := x_rm 0 0 0 0
theorem b_X6_mix : x_BS yX6_mix cX6_mix 3 (some .long) 2 := ⟨q_26_10, q_26_9, q_1_2, by decide +kernel⟩
set_option maxHeartbeats 4000000 in
theorem t_X6_mix_b0 {Q : Int64 → sT → Prop} (C : x_C p s m args c cX6_mix RX6 gg) (hml : c.maxLocals = 3) (hr : meth.sig.returnType = (some .long)) (hlocks : meth.locks = false) {x0 : Int64} {x2 : Int32}  {S : sT}  (h : w_X6_mix_b0 x0 x2 S  Q) : x_X p l e r_X6_mix s m args below meth c gg 3 0 0 (MQ below (va_Ql Q (fun S1 t => s_Rep gg S1 t.heap) (s_A gg)) args s 0 0 (s_A gg)) 0 [(0, .long x0), (2, .int x2)] [] S := by
  unfold w_X6_mix_b0 at h
  obtain ⟨hx, hb, -⟩ := id C
  intro H locs ls hR hS hl
  refine lv_lload_n hx hb dX6_mix_0 rfl (lv_at hl 0 rfl) ?_
  refine lv_ldc2 hx hb C.2.2.2.1 (C.2.2.1 _ q_26_11) dX6_mix_1 ?_
  refine lv_lmul hx hb dX6_mix_4 ?_
  refine lv_topl (fun j101 ej101 => ?_)
  replace h := h j101 ej101
  refine lv_iload_n hx hb dX6_mix_5 rfl (lv_at hl 1 rfl) ?_
  refine lv_i2l hx hb dX6_mix_6 rfl ?_
  refine lv_topl (fun j102 ej102 => ?_)
  replace h := h j102 ej102
  refine lv_ladd hx hb dX6_mix_7 ?_
  refine lv_topl (fun j103 ej103 => ?_)
  replace h := h j103 ej103
  exact W.lret (v := j103) hx hb hr (fun t ht hW => ⟨⟨j103, S, rfl, h, x_rt ht hR⟩, hS.F ht⟩) hS.2.2 dX6_mix_8
theorem m_X6_mix (l : Launch) (gg : sG) (x0 : Int64) (x2 : Int32) (S : sT) {Q : Int64 → sT → Prop} (h : w_X6_mix x0 x2 S Q) : x_Ml l gg yX6_mix (x_ws yX6_mix cX6_mix 3 (some .long)) r_X6_mix [.long x0, .int x2] S Q 0 0 := by
  refine x_ofW (cc := cX6_mix) (own := RX6) (by decide +kernel) rfl (Nat.le_of_ble_eq_true rfl) ?_
  intro p e s m args below meth c C hml hr hlocks hin ht H locs ls hR hS hl
  exact t_X6_mix_b0 C hml hr hlocks h H locs ls hR hS (lv_sub (l' := [(0, .long x0), (2, .int x2)]) hl [0, 1] rfl)
def w_X6_inRow_b17 (y0 : Int32) (S : sT)  (Q : Int32 → sT → Prop) : Prop :=
Q y0 S
def w_X6_inRow_b16  (S : sT)  (Q : Int32 → sT → Prop) : Prop :=
w_X6_inRow_b17 (0 : Int32) S  Q
def w_X6_inRow_b0 (x0 : Nat) (x1 : Int32) (S : sT)  (Q : Int32 → sT → Prop) : Prop :=
((x1 < 0 → w_X6_inRow_b16  S  Q) ∧
    (¬ x1 < 0 → x0 < 6 ∧
    ∀ x103 : Int32, x103 = nI (s_tN x0) →
    ((x103 ≤ x1 → w_X6_inRow_b16  S  Q) ∧
    (¬ x103 ≤ x1 → (x0 < 6 ∧ vp_in x1 (s_tN x0)) ∧
    ∀ x106 : Int32, x106 = s_tV x0 (Int32.toNatClampNeg x1) →
    w_X6_inRow_b17 x106 S  Q))))
def w_X6_inRow (x0 : Nat) (x1 : Int32) (S : sT) (Q : Int32 → sT → Prop) : Prop := w_X6_inRow_b0 x0 x1 S Q
def r_X6_inRow : Room := x_rm 0 0 0 0
theorem b_X6_inRow : x_BS yX6_inRow cX6_inRow 2 (some .int) 2 := ⟨q_11_17, q_11_16, q_1_2, by decide +kernel⟩
set_option maxHeartbeats 4000000 in
theorem t_X6_inRow_b17 {Q : Int32 → sT → Prop} (C : x_C p s m args c cX6_inRow RX6 gg) (hml : c.maxLocals = 2) (hr : meth.sig.returnType = (some .int)) (hlocks : meth.locks = false) {y0 : Int32}  {S : sT}  (h : w_X6_inRow_b17 y0 S  Q) : x_X p l e r_X6_inRow s m args below meth c gg 2 0 0 (MQ below (va_Qi Q (fun S1 t => s_Rep gg S1 t.heap) (s_A gg)) args s 0 0 (s_A gg)) 17 [] [.int y0] S := by
  unfold w_X6_inRow_b17 at h
  obtain ⟨hx, hb, -⟩ := id C
  intro H locs ls hR hS hl
  exact W.iret (v := y0) hx hb hr (fun t ht hW => ⟨⟨y0, S, rfl, h, x_rt ht hR⟩, hS.F ht⟩) hS.2.2 dX6_inRow_17
set_option maxHeartbeats 4000000 in
theorem t_X6_inRow_b16 {Q : Int32 → sT → Prop} (C : x_C p s m args c cX6_inRow RX6 gg) (hml : c.maxLocals = 2) (hr : meth.sig.returnType = (some .int)) (hlocks : meth.locks = false)   {S : sT}  (h : w_X6_inRow_b16  S  Q) : x_X p l e r_X6_inRow s m args below meth c gg 2 0 0 (MQ below (va_Qi Q (fun S1 t => s_Rep gg S1 t.heap) (s_A gg)) args s 0 0 (s_A gg)) 16 [] [] S := by
  unfold w_X6_inRow_b16 at h
  obtain ⟨hx, hb, -⟩ := id C
  intro H locs ls hR hS hl
  refine lv_iconst (v := 0) hx hb dX6_inRow_16 (by decide) ?_
  exact t_X6_inRow_b17 C hml hr hlocks  h H locs ls hR hS (lv_sub (l' := []) hl [] rfl)
set_option maxHeartbeats 4000000 in
theorem t_X6_inRow_b0 {Q : Int32 → sT → Prop} (C : x_C p s m args c cX6_inRow RX6 gg) (hml : c.maxLocals = 2) (hr : meth.sig.returnType = (some .int)) (hlocks : meth.locks = false) {x0 : Nat} {x1 : Int32}  {S : sT}  (h : w_X6_inRow_b0 x0 x1 S  Q) : x_X p l e r_X6_inRow s m args below meth c gg 2 0 0 (MQ below (va_Qi Q (fun S1 t => s_Rep gg S1 t.heap) (s_A gg)) args s 0 0 (s_A gg)) 0 [(0, .ref (gg.2.2.2 x0)), (1, .int x1)] [] S := by
  unfold w_X6_inRow_b0 at h
  obtain ⟨hx, hb, -⟩ := id C
  intro H locs ls hR hS hl
  refine lv_iload_n hx hb dX6_inRow_0 rfl (lv_at hl 1 rfl) ?_
  refine lv_if_lt (tgt := 16) hx hb dX6_inRow_1 (by decide) (fun hc101 => ?_) (fun hc101 => ?_)
  · replace h := h.1 hc101
    exact t_X6_inRow_b16 C hml hr hlocks  h H locs ls hR hS (lv_sub (l' := []) hl [] rfl)
  · replace h := h.2 hc101
    refine lv_iload_n hx hb dX6_inRow_4 rfl (lv_at hl 1 rfl) ?_
    refine lv_aload_n hx hb dX6_inRow_5 rfl (lv_at hl 0 rfl) ?_
    obtain ⟨ht102, h⟩ := h
    refine x_alenT C ht102 hS dX6_inRow_6 ?_
    refine lv_topi (fun x103 ex103 => ?_)
    replace h := h x103 ex103
    refine lv_icmp_ge (tgt := 16) hx hb dX6_inRow_7 (by decide) (fun hc104 => ?_) (fun hc104 => ?_)
    · replace h := h.1 hc104
      exact t_X6_inRow_b16 C hml hr hlocks  h H locs ls hR hS (lv_sub (l' := []) hl [] rfl)
    · replace h := h.2 hc104
      refine lv_aload_n hx hb dX6_inRow_10 rfl (lv_at hl 0 rfl) ?_
      refine lv_iload_n hx hb dX6_inRow_11 rfl (lv_at hl 1 rfl) ?_
      obtain ⟨ht105, h⟩ := h
      refine x_ialdT C ht105.1 hS ht105.2 dX6_inRow_12 ?_
      refine lv_topi (fun x106 ex106 => ?_)
      replace h := h x106 ex106
      refine lv_goto (tgt := 17) hx hb dX6_inRow_13 (by decide) ?_
      exact t_X6_inRow_b17 C hml hr hlocks  h H locs ls hR hS (lv_sub (l' := []) hl [] rfl)
theorem m_X6_inRow (l : Launch) (gg : sG) (x0 : Nat) (x1 : Int32) (S : sT) {Q : Int32 → sT → Prop} (h : w_X6_inRow x0 x1 S Q) : x_Mi l gg yX6_inRow (x_ws yX6_inRow cX6_inRow 2 (some .int)) r_X6_inRow [.ref (gg.2.2.2 x0), .int x1] S Q 0 0 := by
  refine x_ofW (cc := cX6_inRow) (own := RX6) (by decide +kernel) rfl (Nat.le_of_ble_eq_true rfl) ?_
  intro p e s m args below meth c C hml hr hlocks hin ht H locs ls hR hS hl
  exact t_X6_inRow_b0 C hml hr hlocks h H locs ls hR hS (lv_sub (l' := [(0, .ref (gg.2.2.2 x0)), (1, .int x1)]) hl [0, 1] rfl)
def w_X0_begin_b0 (x0 : Nat) (x1 : Int32) (S : sT)  (Q : sT → Prop) : Prop :=
s_K S x0 = 2 ∧
    ∀ S101 : sT, S101 = s_sI S 32 x0 (2 : Int32) →
    ∀ S102 : sT, S102 = s_sI S101 33 x0 x1 →
    ∀ S103 : sT, S103 = s_sI S102 34 x0 (0 : Int32) →
    ∀ S104 : sT, S104 = s_sI S103 35 x0 (100 : Int32) →
    ∀ S105 : sT, S105 = s_sI S104 37 x0 (0 : Int32) →
    ∀ S106 : sT, S106 = s_sI S105 38 x0 (0 : Int32) →
    ∀ S107 : sT, S107 = s_sI S106 39 x0 (120 : Int32) →
    Q S107
def w_X0_begin (x0 : Nat) (x1 : Int32) (S : sT) (Q : sT → Prop) : Prop := w_X0_begin_b0 x0 x1 S Q
def r_X0_begin : Room := x_rm 0 0 0 0
theorem b_X0_begin : x_BV yX0_begin cX0_begin 2 none 1 := ⟨q_18_7, q_18_5, q_18_6, q_9_1, by decide +kernel⟩
set_option maxHeartbeats 4000000 in
theorem t_X0_begin_b0 {Q : sT → Prop} (C : x_C p s m args c cX0_begin RX0 gg) (hml : c.maxLocals = 2) (hr : meth.sig.returnType = none) (hlocks : meth.locks = false) {x0 : Nat} {x1 : Int32}  {S : sT}  (h : w_X0_begin_b0 x0 x1 S  Q) : x_X p l e r_X0_begin s m args below meth c gg 2 0 0 (MQ below (va_Qv Q (fun S1 t => s_Rep gg S1 t.heap) (s_A gg)) args s 0 0 (s_A gg)) 0 [(0, .ref x0), (1, .int x1)] [] S := by
  unfold w_X0_begin_b0 at h
  obtain ⟨hx, hb, -⟩ := id C
  intro H locs ls hR hS hl
  refine lv_aload_n hx hb dX0_begin_0 rfl (lv_at hl 0 rfl) ?_
  refine lv_iconst (v := 2) hx hb dX0_begin_1 (by decide) ?_
  obtain ⟨hK_x0, h⟩ := h
  refine x_p_32 (v := (2 : Int32)) C hR hK_x0 hS q_9_14 dX0_begin_2 (fun H locs hR hS => ?_)
  obtain ⟨S101, eS101⟩ : ∃ z : sT, z = s_sI S 32 x0 (2 : Int32) := ⟨_, rfl⟩
  rw [← eS101] at hR
  replace h := h S101 eS101
  have hK_x0 : s_K S101 x0 = 2 := by rw [eS101]; exact hK_x0
  refine lv_aload_n hx hb dX0_begin_5 rfl (lv_at hl 0 rfl) ?_
  refine lv_iload_n hx hb dX0_begin_6 rfl (lv_at hl 1 rfl) ?_
  refine x_p_33 (v := x1) C hR hK_x0 hS q_9_15 dX0_begin_7 (fun H locs hR hS => ?_)
  obtain ⟨S102, eS102⟩ : ∃ z : sT, z = s_sI S101 33 x0 x1 := ⟨_, rfl⟩
  rw [← eS102] at hR
  replace h := h S102 eS102
  have hK_x0 : s_K S102 x0 = 2 := by rw [eS102]; exact hK_x0
  refine lv_aload_n hx hb dX0_begin_10 rfl (lv_at hl 0 rfl) ?_
  refine lv_iconst (v := 0) hx hb dX0_begin_11 (by decide) ?_
  refine x_p_34 (v := (0 : Int32)) C hR hK_x0 hS q_18_8 dX0_begin_12 (fun H locs hR hS => ?_)
  obtain ⟨S103, eS103⟩ : ∃ z : sT, z = s_sI S102 34 x0 (0 : Int32) := ⟨_, rfl⟩
  rw [← eS103] at hR
  replace h := h S103 eS103
  have hK_x0 : s_K S103 x0 = 2 := by rw [eS103]; exact hK_x0
  refine lv_aload_n hx hb dX0_begin_15 rfl (lv_at hl 0 rfl) ?_
  refine lv_bipush (v := 100) hx hb dX0_begin_16 (by decide) ?_
  refine x_p_35 (v := (100 : Int32)) C hR hK_x0 hS q_11_15 dX0_begin_18 (fun H locs hR hS => ?_)
  obtain ⟨S104, eS104⟩ : ∃ z : sT, z = s_sI S103 35 x0 (100 : Int32) := ⟨_, rfl⟩
  rw [← eS104] at hR
  replace h := h S104 eS104
  have hK_x0 : s_K S104 x0 = 2 := by rw [eS104]; exact hK_x0
  refine lv_aload_n hx hb dX0_begin_21 rfl (lv_at hl 0 rfl) ?_
  refine lv_iconst (v := 0) hx hb dX0_begin_22 (by decide) ?_
  refine x_p_37 (v := (0 : Int32)) C hR hK_x0 hS q_18_9 dX0_begin_23 (fun H locs hR hS => ?_)
  obtain ⟨S105, eS105⟩ : ∃ z : sT, z = s_sI S104 37 x0 (0 : Int32) := ⟨_, rfl⟩
  rw [← eS105] at hR
  replace h := h S105 eS105
  have hK_x0 : s_K S105 x0 = 2 := by rw [eS105]; exact hK_x0
  refine lv_aload_n hx hb dX0_begin_26 rfl (lv_at hl 0 rfl) ?_
  refine lv_iconst (v := 0) hx hb dX0_begin_27 (by decide) ?_
  refine x_p_38 (v := (0 : Int32)) C hR hK_x0 hS q_18_10 dX0_begin_28 (fun H locs hR hS => ?_)
  obtain ⟨S106, eS106⟩ : ∃ z : sT, z = s_sI S105 38 x0 (0 : Int32) := ⟨_, rfl⟩
  rw [← eS106] at hR
  replace h := h S106 eS106
  have hK_x0 : s_K S106 x0 = 2 := by rw [eS106]; exact hK_x0
  refine lv_aload_n hx hb dX0_begin_31 rfl (lv_at hl 0 rfl) ?_
  refine lv_bipush (v := 120) hx hb dX0_begin_32 (by decide) ?_
  refine x_p_39 (v := (120 : Int32)) C hR hK_x0 hS q_9_17 dX0_begin_34 (fun H locs hR hS => ?_)
  obtain ⟨S107, eS107⟩ : ∃ z : sT, z = s_sI S106 39 x0 (120 : Int32) := ⟨_, rfl⟩
  rw [← eS107] at hR
  replace h := h S107 eS107
  have hK_x0 : s_K S107 x0 = 2 := by rw [eS107]; exact hK_x0
  exact W.vret hx hb hr (fun t ht hW => ⟨⟨S107, rfl, h, x_rt ht hR⟩, hS.F ht⟩) hS.2.2 dX0_begin_37
theorem m_X0_begin (l : Launch) (gg : sG) (x0 : Nat) (x1 : Int32) (S : sT) {Q : sT → Prop} (h : w_X0_begin x0 x1 S Q) : x_Mv l gg yX0_begin (x_ws yX0_begin cX0_begin 2 none) r_X0_begin [.ref x0, .int x1] S Q 0 0 := by
  refine x_ofW (cc := cX0_begin) (own := RX0) (by decide +kernel) rfl (Nat.le_of_ble_eq_true rfl) ?_
  intro p e s m args below meth c C hml hr hlocks hin ht H locs ls hR hS hl
  exact t_X0_begin_b0 C hml hr hlocks h H locs ls hR hS (lv_sub (l' := [(0, .ref x0), (1, .int x1)]) hl [0, 1] rfl)
def w_X0_end_b0 (x0 : Nat) (S : sT)  (Q : sT → Prop) : Prop :=
s_K S x0 = 2 ∧
    ∀ S101 : sT, S101 = s_sI S 32 x0 (0 : Int32) →
    ∀ S102 : sT, S102 = s_sI S101 33 x0 (-1 : Int32) →
    ∀ S103 : sT, S103 = s_sI S102 34 x0 (0 : Int32) →
    ∀ S104 : sT, S104 = s_sI S103 35 x0 (0 : Int32) →
    Q S104
def w_X0_end (x0 : Nat) (S : sT) (Q : sT → Prop) : Prop := w_X0_end_b0 x0 S Q
def r_X0_end : Room := x_rm 0 0 0 0
theorem b_X0_end : x_BV yX0_end cX0_end 1 none 0 := ⟨q_19_22, q_19_20, q_19_21, q_9_1, by decide +kernel⟩
set_option maxHeartbeats 4000000 in
theorem t_X0_end_b0 {Q : sT → Prop} (C : x_C p s m args c cX0_end RX0 gg) (hml : c.maxLocals = 1) (hr : meth.sig.returnType = none) (hlocks : meth.locks = false) {x0 : Nat}  {S : sT}  (h : w_X0_end_b0 x0 S  Q) : x_X p l e r_X0_end s m args below meth c gg 1 0 0 (MQ below (va_Qv Q (fun S1 t => s_Rep gg S1 t.heap) (s_A gg)) args s 0 0 (s_A gg)) 0 [(0, .ref x0)] [] S := by
  unfold w_X0_end_b0 at h
  obtain ⟨hx, hb, -⟩ := id C
  intro H locs ls hR hS hl
  refine lv_aload_n hx hb dX0_end_0 rfl (lv_at hl 0 rfl) ?_
  refine lv_iconst (v := 0) hx hb dX0_end_1 (by decide) ?_
  obtain ⟨hK_x0, h⟩ := h
  refine x_p_32 (v := (0 : Int32)) C hR hK_x0 hS q_9_14 dX0_end_2 (fun H locs hR hS => ?_)
  obtain ⟨S101, eS101⟩ : ∃ z : sT, z = s_sI S 32 x0 (0 : Int32) := ⟨_, rfl⟩
  rw [← eS101] at hR
  replace h := h S101 eS101
  have hK_x0 : s_K S101 x0 = 2 := by rw [eS101]; exact hK_x0
  refine lv_aload_n hx hb dX0_end_5 rfl (lv_at hl 0 rfl) ?_
  refine lv_iconst (v := (-1)) hx hb dX0_end_6 (by decide) ?_
  refine x_p_33 (v := (-1 : Int32)) C hR hK_x0 hS q_9_15 dX0_end_7 (fun H locs hR hS => ?_)
  obtain ⟨S102, eS102⟩ : ∃ z : sT, z = s_sI S101 33 x0 (-1 : Int32) := ⟨_, rfl⟩
  rw [← eS102] at hR
  replace h := h S102 eS102
  have hK_x0 : s_K S102 x0 = 2 := by rw [eS102]; exact hK_x0
  refine lv_aload_n hx hb dX0_end_10 rfl (lv_at hl 0 rfl) ?_
  refine lv_iconst (v := 0) hx hb dX0_end_11 (by decide) ?_
  refine x_p_34 (v := (0 : Int32)) C hR hK_x0 hS q_18_8 dX0_end_12 (fun H locs hR hS => ?_)
  obtain ⟨S103, eS103⟩ : ∃ z : sT, z = s_sI S102 34 x0 (0 : Int32) := ⟨_, rfl⟩
  rw [← eS103] at hR
  replace h := h S103 eS103
  have hK_x0 : s_K S103 x0 = 2 := by rw [eS103]; exact hK_x0
  refine lv_aload_n hx hb dX0_end_15 rfl (lv_at hl 0 rfl) ?_
  refine lv_iconst (v := 0) hx hb dX0_end_16 (by decide) ?_
  refine x_p_35 (v := (0 : Int32)) C hR hK_x0 hS q_11_15 dX0_end_17 (fun H locs hR hS => ?_)
  obtain ⟨S104, eS104⟩ : ∃ z : sT, z = s_sI S103 35 x0 (0 : Int32) := ⟨_, rfl⟩
  rw [← eS104] at hR
  replace h := h S104 eS104
  have hK_x0 : s_K S104 x0 = 2 := by rw [eS104]; exact hK_x0
  exact W.vret hx hb hr (fun t ht hW => ⟨⟨S104, rfl, h, x_rt ht hR⟩, hS.F ht⟩) hS.2.2 dX0_end_20
theorem m_X0_end (l : Launch) (gg : sG) (x0 : Nat) (S : sT) {Q : sT → Prop} (h : w_X0_end x0 S Q) : x_Mv l gg yX0_end (x_ws yX0_end cX0_end 1 none) r_X0_end [.ref x0] S Q 0 0 := by
  refine x_ofW (cc := cX0_end) (own := RX0) (by decide +kernel) rfl (Nat.le_of_ble_eq_true rfl) ?_
  intro p e s m args below meth c C hml hr hlocks hin ht H locs ls hR hS hl
  exact t_X0_end_b0 C hml hr hlocks h H locs ls hR hS (lv_sub (l' := [(0, .ref x0)]) hl [0] rfl)
def w_X0_thirst_b15 (y0 : Int32) (S : sT)  (Q : Int32 → sT → Prop) : Prop :=
Q y0 S
def w_X0_thirst_b0 (x0 : Nat) (S : sT)  (Q : Int32 → sT → Prop) : Prop :=
s_K S x0 = 2 ∧
    ∀ x101 : Int32, x101 = s_I S 32 x0 →
    w_X6_isOnTheStalk x101 S (fun x103 S102 =>
    ((x103 = 0 → w_X0_thirst_b15 (1 : Int32) S102  Q) ∧
    (¬ x103 = 0 → w_X0_thirst_b15 (2 : Int32) S102  Q)))
def w_X0_thirst (x0 : Nat) (S : sT) (Q : Int32 → sT → Prop) : Prop := w_X0_thirst_b0 x0 S Q
def r_X0_thirst : Room := x_rm 1 20 0 0
theorem b_X0_thirst : x_BV yX0_thirst cX0_thirst 1 (some .int) 0 := ⟨q_22_20, q_22_18, q_22_19, q_9_1, by decide +kernel⟩
set_option maxHeartbeats 4000000 in
theorem t_X0_thirst_b15 {Q : Int32 → sT → Prop} (C : x_C p s m args c cX0_thirst RX0 gg) (hml : c.maxLocals = 1) (hr : meth.sig.returnType = (some .int)) (hlocks : meth.locks = false) {y0 : Int32}  {S : sT}  (h : w_X0_thirst_b15 y0 S  Q) : x_X p l e r_X0_thirst s m args below meth c gg 1 0 0 (MQ below (va_Qi Q (fun S1 t => s_Rep gg S1 t.heap) (s_A gg)) args s 0 0 (s_A gg)) 15 [] [.int y0] S := by
  unfold w_X0_thirst_b15 at h
  obtain ⟨hx, hb, -⟩ := id C
  intro H locs ls hR hS hl
  exact W.iret (v := y0) hx hb hr (fun t ht hW => ⟨⟨y0, S, rfl, h, x_rt ht hR⟩, hS.F ht⟩) hS.2.2 dX0_thirst_15
set_option maxHeartbeats 4000000 in
theorem t_X0_thirst_b0 {Q : Int32 → sT → Prop} (C : x_C p s m args c cX0_thirst RX0 gg) (hml : c.maxLocals = 1) (hr : meth.sig.returnType = (some .int)) (hlocks : meth.locks = false) {x0 : Nat}  {S : sT}  (h : w_X0_thirst_b0 x0 S  Q) : x_X p l e r_X0_thirst s m args below meth c gg 1 0 0 (MQ below (va_Qi Q (fun S1 t => s_Rep gg S1 t.heap) (s_A gg)) args s 0 0 (s_A gg)) 0 [(0, .ref x0)] [] S := by
  unfold w_X0_thirst_b0 at h
  obtain ⟨hx, hb, -⟩ := id C
  intro H locs ls hR hS hl
  refine lv_aload_n hx hb dX0_thirst_0 rfl (lv_at hl 0 rfl) ?_
  obtain ⟨hK_x0, h⟩ := h
  refine x_g_32 C hR hK_x0 q_9_14 dX0_thirst_1 ?_
  refine lv_topi (fun x101 ex101 => ?_)
  replace h := h x101 ex101
  refine x_ki (x_runSN (As := [.int x101]) (rest := []) (host := "Subakhall") C hml hR hS (m_X6_isOnTheStalk l gg x101 S h) b_X6_isOnTheStalk xm_7 rfl rfl ⟨Nat.le_of_ble_eq_true rfl, Nat.le_of_ble_eq_true rfl⟩ rfl hl.1 (Nat.le_of_ble_eq_true rfl) dX0_thirst_4 ⟨Nat.le_refl _, Nat.le_refl _⟩) hS (fun x103 S102 H locs hn hR hS => ?_)
  replace h := hn
  clear hn
  refine lv_if_eq (tgt := 14) hx hb dX0_thirst_7 (by decide) (fun hc104 => ?_) (fun hc104 => ?_)
  · replace h := h.1 hc104
    refine lv_iconst (v := 1) hx hb dX0_thirst_14 (by decide) ?_
    exact t_X0_thirst_b15 C hml hr hlocks  h H locs ls hR hS (lv_sub (l' := []) hl [] rfl)
  · replace h := h.2 hc104
    refine lv_iconst (v := 2) hx hb dX0_thirst_10 (by decide) ?_
    refine lv_goto (tgt := 15) hx hb dX0_thirst_11 (by decide) ?_
    exact t_X0_thirst_b15 C hml hr hlocks  h H locs ls hR hS (lv_sub (l' := []) hl [] rfl)
theorem m_X0_thirst (l : Launch) (gg : sG) (x0 : Nat) (S : sT) {Q : Int32 → sT → Prop} (h : w_X0_thirst x0 S Q) : x_Mi l gg yX0_thirst (x_ws yX0_thirst cX0_thirst 1 (some .int)) r_X0_thirst [.ref x0] S Q 0 0 := by
  refine x_ofW (cc := cX0_thirst) (own := RX0) (by decide +kernel) rfl (Nat.le_of_ble_eq_true rfl) ?_
  intro p e s m args below meth c C hml hr hlocks hin ht H locs ls hR hS hl
  exact t_X0_thirst_b0 C hml hr hlocks h H locs ls hR hS (lv_sub (l' := [(0, .ref x0)]) hl [0] rfl)
def w_X0_suffer_b45 (x0 : Nat) (x3 : Int32) (S : sT)  (Q : sT → Prop) : Prop :=
s_K S x0 = 2 ∧
    ∀ x101 : Int32, x101 = s_I S 35 x0 →
    ∀ x102 : Int32, x102 = x101 - x3 →
    ∀ x103 : Int32, x103 = s_max (0 : Int32) x102 →
    ∀ S104 : sT, S104 = s_sI S 35 x0 x103 →
    Q S104
def w_X0_suffer_b0 (x0 : Nat) (x1 : Int32) (x2 : Int32) (S : sT)  (Q : sT → Prop) : Prop :=
∀ x101 : Int32, x101 = x2 / (20 : Int32) →
    (((2 : Int32) ≤ x1 → ((x1 ≤ (20 : Int32) → w_X0_suffer_b45 x0 x101 S  Q) ∧
    (¬ x1 ≤ (20 : Int32) → s_K S x0 = 2 ∧
    ∀ x104 : Int32, x104 = s_I S 32 x0 →
    w_X6_inRow 5 x104 S (fun x106 S105 =>
    ∀ x107 : Int32, x107 = x101 + x106 →
    w_X0_suffer_b45 x0 x107 S105  Q)))) ∧
    (¬ (2 : Int32) ≤ x1 → s_K S x0 = 2 ∧
    ∀ x108 : Int32, x108 = s_I S 32 x0 →
    w_X6_inRow 4 x108 S (fun x110 S109 =>
    ∀ x111 : Int32, x111 = x101 + x110 →
    w_X0_suffer_b45 x0 x111 S109  Q)))
def w_X0_suffer (x0 : Nat) (x1 : Int32) (x2 : Int32) (S : sT) (Q : sT → Prop) : Prop := w_X0_suffer_b0 x0 x1 x2 S Q
def r_X0_suffer : Room := x_rm 1 40 0 0
theorem b_X0_suffer : x_BV yX0_suffer cX0_suffer 4 none 2 := ⟨q_23_11, q_23_9, q_23_10, q_9_1, by decide +kernel⟩
set_option maxHeartbeats 4000000 in
theorem t_X0_suffer_b45 {Q : sT → Prop} (C : x_C p s m args c cX0_suffer RX0 gg) (hml : c.maxLocals = 4) (hr : meth.sig.returnType = none) (hlocks : meth.locks = false) {x0 : Nat} {x3 : Int32}  {S : sT}  (h : w_X0_suffer_b45 x0 x3 S  Q) : x_X p l e r_X0_suffer s m args below meth c gg 4 0 0 (MQ below (va_Qv Q (fun S1 t => s_Rep gg S1 t.heap) (s_A gg)) args s 0 0 (s_A gg)) 45 [(0, .ref x0), (3, .int x3)] [] S := by
  unfold w_X0_suffer_b45 at h
  obtain ⟨hx, hb, -⟩ := id C
  intro H locs ls hR hS hl
  refine lv_aload_n hx hb dX0_suffer_45 rfl (lv_at hl 0 rfl) ?_
  refine lv_iconst (v := 0) hx hb dX0_suffer_46 (by decide) ?_
  refine lv_aload_n hx hb dX0_suffer_47 rfl (lv_at hl 0 rfl) ?_
  obtain ⟨hK_x0, h⟩ := h
  refine x_g_35 C hR hK_x0 q_11_15 dX0_suffer_48 ?_
  refine lv_topi (fun x101 ex101 => ?_)
  replace h := h x101 ex101
  refine lv_iload_n hx hb dX0_suffer_51 rfl (lv_at hl 1 rfl) ?_
  refine lv_isub hx hb dX0_suffer_52 ?_
  refine lv_topi (fun x102 ex102 => ?_)
  replace h := h x102 ex102
  refine va_mmax hx hb (by rw [hml]; exact hl.1.symm) C.2.2.2.1 (C.2.2.1 _ q_19_0) (C.2.2.1 _ q_5_16) (C.2.2.1 _ q_5_17) (C.2.2.1 _ q_5_18) (Nat.le_of_ble_eq_true rfl) (Nat.le_of_ble_eq_true rfl) (Nat.zero_le _) (Nat.zero_le _) dX0_suffer_53 ?_
  refine lv_topi (fun x103 ex103 => ?_)
  replace h := h x103 ex103
  refine x_p_35 (v := x103) C hR hK_x0 hS q_11_15 dX0_suffer_56 (fun H locs hR hS => ?_)
  obtain ⟨S104, eS104⟩ : ∃ z : sT, z = s_sI S 35 x0 x103 := ⟨_, rfl⟩
  rw [← eS104] at hR
  replace h := h S104 eS104
  have hK_x0 : s_K S104 x0 = 2 := by rw [eS104]; exact hK_x0
  exact W.vret hx hb hr (fun t ht hW => ⟨⟨S104, rfl, h, x_rt ht hR⟩, hS.F ht⟩) hS.2.2 dX0_suffer_59
set_option maxHeartbeats 4000000 in
theorem t_X0_suffer_b0 {Q : sT → Prop} (C : x_C p s m args c cX0_suffer RX0 gg) (hml : c.maxLocals = 4) (hr : meth.sig.returnType = none) (hlocks : meth.locks = false) {x0 : Nat} {x1 : Int32} {x2 : Int32}  {S : sT}  (h : w_X0_suffer_b0 x0 x1 x2 S  Q) : x_X p l e r_X0_suffer s m args below meth c gg 4 0 0 (MQ below (va_Qv Q (fun S1 t => s_Rep gg S1 t.heap) (s_A gg)) args s 0 0 (s_A gg)) 0 [(0, .ref x0), (1, .int x1), (2, .int x2)] [] S := by
  unfold w_X0_suffer_b0 at h
  obtain ⟨hx, hb, -⟩ := id C
  intro H locs ls hR hS hl
  refine lv_iload_n hx hb dX0_suffer_0 rfl (lv_at hl 2 rfl) ?_
  refine lv_bipush (v := 20) hx hb dX0_suffer_1 (by decide) ?_
  refine lv_idiv hx hb dX0_suffer_3 (by decide) ?_
  refine lv_topi (fun x101 ex101 => ?_)
  replace h := h x101 ex101
  refine lv_istore_n (lv' := [(3, .int x101), (0, .ref x0), (1, .int x1), (2, .int x2)]) hx hb dX0_suffer_4 rfl hl (by decide) rfl (fun ls hl => ?_)
  refine lv_iload_n hx hb dX0_suffer_5 rfl (lv_at hl 2 rfl) ?_
  refine lv_iconst (v := 2) hx hb dX0_suffer_6 (by decide) ?_
  refine lv_icmp_ge (tgt := 26) hx hb dX0_suffer_7 (by decide) (fun hc102 => ?_) (fun hc102 => ?_)
  · replace h := h.1 hc102
    refine lv_iload_n hx hb dX0_suffer_26 rfl (lv_at hl 2 rfl) ?_
    refine lv_bipush (v := 20) hx hb dX0_suffer_27 (by decide) ?_
    refine lv_icmp_le (tgt := 45) hx hb dX0_suffer_29 (by decide) (fun hc103 => ?_) (fun hc103 => ?_)
    · replace h := h.1 hc103
      exact t_X0_suffer_b45 C hml hr hlocks  h H locs ls hR hS (lv_sub (l' := [(0, .ref x0), (3, .int x101)]) hl [1, 0] rfl)
    · replace h := h.2 hc103
      refine lv_iload_n hx hb dX0_suffer_32 rfl (lv_at hl 0 rfl) ?_
      refine x_gsN C 5 (by decide) hS (host := "Subakhall") xn_7 dX0_suffer_33 ?_
      refine lv_aload_n hx hb dX0_suffer_36 rfl (lv_at hl 1 rfl) ?_
      obtain ⟨hK_x0, h⟩ := h
      refine x_g_32 C hR hK_x0 q_9_14 dX0_suffer_37 ?_
      refine lv_topi (fun x104 ex104 => ?_)
      replace h := h x104 ex104
      refine x_ki (x_runSN (As := [.ref (gg.2.2.2 5), .int x104]) (rest := [.int x101]) (host := "Subakhall") C hml hR hS (m_X6_inRow l gg 5 x104 S h) b_X6_inRow xm_6 rfl rfl ⟨Nat.le_of_ble_eq_true rfl, Nat.le_of_ble_eq_true rfl⟩ rfl hl.1 (Nat.le_of_ble_eq_true rfl) dX0_suffer_40 ⟨Nat.le_refl _, Nat.le_refl _⟩) hS (fun x106 S105 H locs hn hR hS => ?_)
      replace h := hn
      clear hn
      refine lv_iadd hx hb dX0_suffer_43 ?_
      refine lv_topi (fun x107 ex107 => ?_)
      replace h := h x107 ex107
      refine lv_istore_n (lv' := [(3, .int x107), (0, .ref x0), (1, .int x1), (2, .int x2)]) hx hb dX0_suffer_44 rfl hl (by decide) rfl (fun ls hl => ?_)
      exact t_X0_suffer_b45 C hml hr hlocks  h H locs ls hR hS (lv_sub (l' := [(0, .ref x0), (3, .int x107)]) hl [1, 0] rfl)
  · replace h := h.2 hc102
    refine lv_iload_n hx hb dX0_suffer_10 rfl (lv_at hl 0 rfl) ?_
    refine x_gsN C 4 (by decide) hS (host := "Subakhall") xn_8 dX0_suffer_11 ?_
    refine lv_aload_n hx hb dX0_suffer_14 rfl (lv_at hl 1 rfl) ?_
    obtain ⟨hK_x0, h⟩ := h
    refine x_g_32 C hR hK_x0 q_9_14 dX0_suffer_15 ?_
    refine lv_topi (fun x108 ex108 => ?_)
    replace h := h x108 ex108
    refine x_ki (x_runSN (As := [.ref (gg.2.2.2 4), .int x108]) (rest := [.int x101]) (host := "Subakhall") C hml hR hS (m_X6_inRow l gg 4 x108 S h) b_X6_inRow xm_6 rfl rfl ⟨Nat.le_of_ble_eq_true rfl, Nat.le_of_ble_eq_true rfl⟩ rfl hl.1 (Nat.le_of_ble_eq_true rfl) dX0_suffer_18 ⟨Nat.le_refl _, Nat.le_refl _⟩) hS (fun x110 S109 H locs hn hR hS => ?_)
    replace h := hn
    clear hn
    refine lv_iadd hx hb dX0_suffer_21 ?_
    refine lv_topi (fun x111 ex111 => ?_)
    replace h := h x111 ex111
    refine lv_istore_n (lv' := [(3, .int x111), (0, .ref x0), (1, .int x1), (2, .int x2)]) hx hb dX0_suffer_22 rfl hl (by decide) rfl (fun ls hl => ?_)
    refine lv_goto (tgt := 45) hx hb dX0_suffer_23 (by decide) ?_
    exact t_X0_suffer_b45 C hml hr hlocks  h H locs ls hR hS (lv_sub (l' := [(0, .ref x0), (3, .int x111)]) hl [1, 0] rfl)
theorem m_X0_suffer (l : Launch) (gg : sG) (x0 : Nat) (x1 : Int32) (x2 : Int32) (S : sT) {Q : sT → Prop} (h : w_X0_suffer x0 x1 x2 S Q) : x_Mv l gg yX0_suffer (x_ws yX0_suffer cX0_suffer 4 none) r_X0_suffer [.ref x0, .int x1, .int x2] S Q 0 0 := by
  refine x_ofW (cc := cX0_suffer) (own := RX0) (by decide +kernel) rfl (Nat.le_of_ble_eq_true rfl) ?_
  intro p e s m args below meth c C hml hr hlocks hin ht H locs ls hR hS hl
  exact t_X0_suffer_b0 C hml hr hlocks h H locs ls hR hS (lv_sub (l' := [(0, .ref x0), (1, .int x1), (2, .int x2)]) hl [0, 1, 2] rfl)
def w_X0_ripen_b72  (S : sT)  (Q : sT → Prop) : Prop :=
Q S
def w_X0_ripen_b0 (x0 : Nat) (S : sT)  (Q : sT → Prop) : Prop :=
s_K S x0 = 2 ∧
    ∀ x101 : Int32, x101 = s_I S 34 x0 →
    ∀ x102 : Int32, x102 = s_I S 33 x0 →
    w_X6_inRow 2 x102 S (fun x104 S103 =>
    ((x101 < x104 → s_K S103 x0 = 2 ∧
    ∀ x106 : Int32, x106 = s_I S103 34 x0 →
    ∀ x107 : Int32, x107 = s_I S103 33 x0 →
    w_X6_inRow 1 x107 S103 (fun x109 S108 =>
    ((x106 < x109 → s_K S108 x0 = 2 ∧
    ∀ x111 : Int32, x111 = s_I S108 34 x0 →
    ∀ x112 : Int32, x112 = s_I S108 33 x0 →
    w_X6_inRow 0 x112 S108 (fun x114 S113 =>
    ((x111 < x114 → w_X0_ripen_b72  S113  Q) ∧
    (¬ x111 < x114 → s_K S113 x0 = 2 ∧
    ∀ S116 : sT, S116 = s_sI S113 32 x0 (3 : Int32) →
    w_X0_ripen_b72  S116  Q)))) ∧
    (¬ x106 < x109 → s_K S108 x0 = 2 ∧
    ∀ S117 : sT, S117 = s_sI S108 32 x0 (4 : Int32) →
    w_X0_ripen_b72  S117  Q)))) ∧
    (¬ x101 < x104 → s_K S103 x0 = 2 ∧
    ∀ S118 : sT, S118 = s_sI S103 32 x0 (5 : Int32) →
    w_X0_ripen_b72  S118  Q)))
def w_X0_ripen (x0 : Nat) (S : sT) (Q : sT → Prop) : Prop := w_X0_ripen_b0 x0 S Q
def r_X0_ripen : Room := x_rm 1 21 0 0
theorem b_X0_ripen : x_BV yX0_ripen cX0_ripen 1 none 0 := ⟨q_23_15, q_23_13, q_23_14, q_9_1, by decide +kernel⟩
set_option maxHeartbeats 4000000 in
theorem t_X0_ripen_b72 {Q : sT → Prop} (C : x_C p s m args c cX0_ripen RX0 gg) (hml : c.maxLocals = 1) (hr : meth.sig.returnType = none) (hlocks : meth.locks = false)   {S : sT}  (h : w_X0_ripen_b72  S  Q) : x_X p l e r_X0_ripen s m args below meth c gg 1 0 0 (MQ below (va_Qv Q (fun S1 t => s_Rep gg S1 t.heap) (s_A gg)) args s 0 0 (s_A gg)) 72 [] [] S := by
  unfold w_X0_ripen_b72 at h
  obtain ⟨hx, hb, -⟩ := id C
  intro H locs ls hR hS hl
  exact W.vret hx hb hr (fun t ht hW => ⟨⟨S, rfl, h, x_rt ht hR⟩, hS.F ht⟩) hS.2.2 dX0_ripen_72
set_option maxHeartbeats 4000000 in
theorem t_X0_ripen_b0 {Q : sT → Prop} (C : x_C p s m args c cX0_ripen RX0 gg) (hml : c.maxLocals = 1) (hr : meth.sig.returnType = none) (hlocks : meth.locks = false) {x0 : Nat}  {S : sT}  (h : w_X0_ripen_b0 x0 S  Q) : x_X p l e r_X0_ripen s m args below meth c gg 1 0 0 (MQ below (va_Qv Q (fun S1 t => s_Rep gg S1 t.heap) (s_A gg)) args s 0 0 (s_A gg)) 0 [(0, .ref x0)] [] S := by
  unfold w_X0_ripen_b0 at h
  obtain ⟨hx, hb, -⟩ := id C
  intro H locs ls hR hS hl
  refine lv_aload_n hx hb dX0_ripen_0 rfl (lv_at hl 0 rfl) ?_
  obtain ⟨hK_x0, h⟩ := h
  refine x_g_34 C hR hK_x0 q_18_8 dX0_ripen_1 ?_
  refine lv_topi (fun x101 ex101 => ?_)
  replace h := h x101 ex101
  refine x_gsN C 2 (by decide) hS (host := "Subakhall") xn_6 dX0_ripen_4 ?_
  refine lv_aload_n hx hb dX0_ripen_7 rfl (lv_at hl 0 rfl) ?_
  refine x_g_33 C hR hK_x0 q_9_15 dX0_ripen_8 ?_
  refine lv_topi (fun x102 ex102 => ?_)
  replace h := h x102 ex102
  refine x_ki (x_runSN (As := [.ref (gg.2.2.2 2), .int x102]) (rest := [.int x101]) (host := "Subakhall") C hml hR hS (m_X6_inRow l gg 2 x102 S h) b_X6_inRow xm_6 rfl rfl ⟨Nat.le_of_ble_eq_true rfl, Nat.le_of_ble_eq_true rfl⟩ rfl hl.1 (Nat.le_of_ble_eq_true rfl) dX0_ripen_11 ⟨Nat.le_refl _, Nat.le_refl _⟩) hS (fun x104 S103 H locs hn hR hS => ?_)
  replace h := hn
  clear hn
  refine lv_icmp_lt (tgt := 25) hx hb dX0_ripen_14 (by decide) (fun hc105 => ?_) (fun hc105 => ?_)
  · replace h := h.1 hc105
    refine lv_aload_n hx hb dX0_ripen_25 rfl (lv_at hl 0 rfl) ?_
    obtain ⟨hK_x0, h⟩ := h
    refine x_g_34 C hR hK_x0 q_18_8 dX0_ripen_26 ?_
    refine lv_topi (fun x106 ex106 => ?_)
    replace h := h x106 ex106
    refine x_gsN C 1 (by decide) hS (host := "Subakhall") xn_5 dX0_ripen_29 ?_
    refine lv_aload_n hx hb dX0_ripen_32 rfl (lv_at hl 0 rfl) ?_
    refine x_g_33 C hR hK_x0 q_9_15 dX0_ripen_33 ?_
    refine lv_topi (fun x107 ex107 => ?_)
    replace h := h x107 ex107
    refine x_ki (x_runSN (As := [.ref (gg.2.2.2 1), .int x107]) (rest := [.int x106]) (host := "Subakhall") C hml hR hS (m_X6_inRow l gg 1 x107 S103 h) b_X6_inRow xm_6 rfl rfl ⟨Nat.le_of_ble_eq_true rfl, Nat.le_of_ble_eq_true rfl⟩ rfl hl.1 (Nat.le_of_ble_eq_true rfl) dX0_ripen_36 ⟨Nat.le_refl _, Nat.le_refl _⟩) hS (fun x109 S108 H locs hn hR hS => ?_)
    replace h := hn
    clear hn
    refine lv_icmp_lt (tgt := 50) hx hb dX0_ripen_39 (by decide) (fun hc110 => ?_) (fun hc110 => ?_)
    · replace h := h.1 hc110
      refine lv_aload_n hx hb dX0_ripen_50 rfl (lv_at hl 0 rfl) ?_
      obtain ⟨hK_x0, h⟩ := h
      refine x_g_34 C hR hK_x0 q_18_8 dX0_ripen_51 ?_
      refine lv_topi (fun x111 ex111 => ?_)
      replace h := h x111 ex111
      refine x_gsN C 0 (by decide) hS (host := "Subakhall") xn_4 dX0_ripen_54 ?_
      refine lv_aload_n hx hb dX0_ripen_57 rfl (lv_at hl 0 rfl) ?_
      refine x_g_33 C hR hK_x0 q_9_15 dX0_ripen_58 ?_
      refine lv_topi (fun x112 ex112 => ?_)
      replace h := h x112 ex112
      refine x_ki (x_runSN (As := [.ref (gg.2.2.2 0), .int x112]) (rest := [.int x111]) (host := "Subakhall") C hml hR hS (m_X6_inRow l gg 0 x112 S108 h) b_X6_inRow xm_6 rfl rfl ⟨Nat.le_of_ble_eq_true rfl, Nat.le_of_ble_eq_true rfl⟩ rfl hl.1 (Nat.le_of_ble_eq_true rfl) dX0_ripen_61 ⟨Nat.le_refl _, Nat.le_refl _⟩) hS (fun x114 S113 H locs hn hR hS => ?_)
      replace h := hn
      clear hn
      refine lv_icmp_lt (tgt := 72) hx hb dX0_ripen_64 (by decide) (fun hc115 => ?_) (fun hc115 => ?_)
      · replace h := h.1 hc115
        exact t_X0_ripen_b72 C hml hr hlocks  h H locs ls hR hS (lv_sub (l' := []) hl [] rfl)
      · replace h := h.2 hc115
        refine lv_aload_n hx hb dX0_ripen_67 rfl (lv_at hl 0 rfl) ?_
        refine lv_iconst (v := 3) hx hb dX0_ripen_68 (by decide) ?_
        obtain ⟨hK_x0, h⟩ := h
        refine x_p_32 (v := (3 : Int32)) C hR hK_x0 hS q_9_14 dX0_ripen_69 (fun H locs hR hS => ?_)
        obtain ⟨S116, eS116⟩ : ∃ z : sT, z = s_sI S113 32 x0 (3 : Int32) := ⟨_, rfl⟩
        rw [← eS116] at hR
        replace h := h S116 eS116
        have hK_x0 : s_K S116 x0 = 2 := by rw [eS116]; exact hK_x0
        exact t_X0_ripen_b72 C hml hr hlocks  h H locs ls hR hS (lv_sub (l' := []) hl [] rfl)
    · replace h := h.2 hc110
      refine lv_aload_n hx hb dX0_ripen_42 rfl (lv_at hl 0 rfl) ?_
      refine lv_iconst (v := 4) hx hb dX0_ripen_43 (by decide) ?_
      obtain ⟨hK_x0, h⟩ := h
      refine x_p_32 (v := (4 : Int32)) C hR hK_x0 hS q_9_14 dX0_ripen_44 (fun H locs hR hS => ?_)
      obtain ⟨S117, eS117⟩ : ∃ z : sT, z = s_sI S108 32 x0 (4 : Int32) := ⟨_, rfl⟩
      rw [← eS117] at hR
      replace h := h S117 eS117
      have hK_x0 : s_K S117 x0 = 2 := by rw [eS117]; exact hK_x0
      refine lv_goto (tgt := 72) hx hb dX0_ripen_47 (by decide) ?_
      exact t_X0_ripen_b72 C hml hr hlocks  h H locs ls hR hS (lv_sub (l' := []) hl [] rfl)
  · replace h := h.2 hc105
    refine lv_aload_n hx hb dX0_ripen_17 rfl (lv_at hl 0 rfl) ?_
    refine lv_iconst (v := 5) hx hb dX0_ripen_18 (by decide) ?_
    obtain ⟨hK_x0, h⟩ := h
    refine x_p_32 (v := (5 : Int32)) C hR hK_x0 hS q_9_14 dX0_ripen_19 (fun H locs hR hS => ?_)
    obtain ⟨S118, eS118⟩ : ∃ z : sT, z = s_sI S103 32 x0 (5 : Int32) := ⟨_, rfl⟩
    rw [← eS118] at hR
    replace h := h S118 eS118
    have hK_x0 : s_K S118 x0 = 2 := by rw [eS118]; exact hK_x0
    refine lv_goto (tgt := 72) hx hb dX0_ripen_22 (by decide) ?_
    exact t_X0_ripen_b72 C hml hr hlocks  h H locs ls hR hS (lv_sub (l' := []) hl [] rfl)
theorem m_X0_ripen (l : Launch) (gg : sG) (x0 : Nat) (S : sT) {Q : sT → Prop} (h : w_X0_ripen x0 S Q) : x_Mv l gg yX0_ripen (x_ws yX0_ripen cX0_ripen 1 none) r_X0_ripen [.ref x0] S Q 0 0 := by
  refine x_ofW (cc := cX0_ripen) (own := RX0) (by decide +kernel) rfl (Nat.le_of_ble_eq_true rfl) ?_
  intro p e s m args below meth c C hml hr hlocks hin ht H locs ls hR hS hl
  exact t_X0_ripen_b0 C hml hr hlocks h H locs ls hR hS (lv_sub (l' := [(0, .ref x0)]) hl [0] rfl)
def w_X0_grow_b58  (S : sT)  (Q : sT → Prop) : Prop :=
Q S
def w_X0_grow_b0 (x0 : Nat) (x1 : Int32) (x2 : Int32) (x3 : Int32) (S : sT)  (Q : sT → Prop) : Prop :=
s_K S x0 = 2 ∧
    ∀ x101 : Int32, x101 = s_I S 32 x0 →
    w_X6_isOnTheStalk x101 S (fun x103 S102 =>
    ((¬ x103 = 0 → s_K S102 x0 = 2 ∧
    w_X0_suffer x0 x1 x2 S102 (fun S105 =>
    s_K S105 x0 = 2 ∧
    ∀ x106 : Int32, x106 = s_I S105 34 x0 →
    ∀ x107 : Int32, x107 = x106 + x3 →
    ∀ S108 : sT, S108 = s_sI S105 34 x0 x107 →
    w_X0_ripen x0 S108 (fun S109 =>
    s_K S109 x0 = 2 ∧
    ∀ x110 : Int32, x110 = s_I S109 32 x0 →
    w_X6_isOnTheStalk x110 S109 (fun x112 S111 =>
    ((x112 = 0 → w_X0_grow_b58  S111  Q) ∧
    (¬ x112 = 0 → s_K S111 x0 = 2 ∧
    ∀ x114 : Int32, x114 = s_I S111 36 x0 →
    ((x114 ≤ 0 → w_X0_grow_b58  S111  Q) ∧
    (¬ x114 ≤ 0 → ∀ x116 : Int32, x116 = s_I S111 36 x0 →
    ∀ x117 : Int32, x117 = x116 - (1 : Int32) →
    ∀ S118 : sT, S118 = s_sI S111 36 x0 x117 →
    w_X0_grow_b58  S118  Q)))))))) ∧
    (x103 = 0 → Q S102)))
def w_X0_grow (x0 : Nat) (x1 : Int32) (x2 : Int32) (x3 : Int32) (S : sT) (Q : sT → Prop) : Prop := w_X0_grow_b0 x0 x1 x2 x3 S Q
def r_X0_grow : Room := x_rm 2 63 0 0
theorem b_X0_grow : x_BV yX0_grow cX0_grow 4 none 3 := ⟨q_23_7, q_23_5, q_23_6, q_9_1, by decide +kernel⟩
set_option maxHeartbeats 4000000 in
theorem t_X0_grow_b58 {Q : sT → Prop} (C : x_C p s m args c cX0_grow RX0 gg) (hml : c.maxLocals = 4) (hr : meth.sig.returnType = none) (hlocks : meth.locks = false)   {S : sT}  (h : w_X0_grow_b58  S  Q) : x_X p l e r_X0_grow s m args below meth c gg 4 0 0 (MQ below (va_Qv Q (fun S1 t => s_Rep gg S1 t.heap) (s_A gg)) args s 0 0 (s_A gg)) 58 [] [] S := by
  unfold w_X0_grow_b58 at h
  obtain ⟨hx, hb, -⟩ := id C
  intro H locs ls hR hS hl
  exact W.vret hx hb hr (fun t ht hW => ⟨⟨S, rfl, h, x_rt ht hR⟩, hS.F ht⟩) hS.2.2 dX0_grow_58
set_option maxHeartbeats 4000000 in
theorem t_X0_grow_b0 {Q : sT → Prop} (C : x_C p s m args c cX0_grow RX0 gg) (hml : c.maxLocals = 4) (hr : meth.sig.returnType = none) (hlocks : meth.locks = false) {x0 : Nat} {x1 : Int32} {x2 : Int32} {x3 : Int32}  {S : sT}  (h : w_X0_grow_b0 x0 x1 x2 x3 S  Q) : x_X p l e r_X0_grow s m args below meth c gg 4 0 0 (MQ below (va_Qv Q (fun S1 t => s_Rep gg S1 t.heap) (s_A gg)) args s 0 0 (s_A gg)) 0 [(0, .ref x0), (1, .int x1), (2, .int x2), (3, .int x3)] [] S := by
  unfold w_X0_grow_b0 at h
  obtain ⟨hx, hb, -⟩ := id C
  intro H locs ls hR hS hl
  refine lv_aload_n hx hb dX0_grow_0 rfl (lv_at hl 0 rfl) ?_
  obtain ⟨hK_x0, h⟩ := h
  refine x_g_32 C hR hK_x0 q_9_14 dX0_grow_1 ?_
  refine lv_topi (fun x101 ex101 => ?_)
  replace h := h x101 ex101
  refine x_ki (x_runSN (As := [.int x101]) (rest := []) (host := "Subakhall") C hml hR hS (m_X6_isOnTheStalk l gg x101 S h) b_X6_isOnTheStalk xm_7 rfl rfl ⟨Nat.le_of_ble_eq_true rfl, Nat.le_of_ble_eq_true rfl⟩ rfl hl.1 (Nat.le_of_ble_eq_true rfl) dX0_grow_4 ⟨Nat.le_refl _, Nat.le_refl _⟩) hS (fun x103 S102 H locs hn hR hS => ?_)
  replace h := hn
  clear hn
  refine lv_if_ne (tgt := 11) hx hb dX0_grow_7 (by decide) (fun hc104 => ?_) (fun hc104 => ?_)
  · replace h := h.1 hc104
    refine lv_aload_n hx hb dX0_grow_11 rfl (lv_at hl 0 rfl) ?_
    refine lv_iload_n hx hb dX0_grow_12 rfl (lv_at hl 1 rfl) ?_
    refine lv_iload_n hx hb dX0_grow_13 rfl (lv_at hl 2 rfl) ?_
    obtain ⟨hK_x0, h⟩ := h
    refine x_kv (x_runV (As := [.int x1, .int x2]) (rest := []) C hml hR hS (m_X0_suffer l gg x0 x1 x2 S102 h) b_X0_suffer q_23_8 (by rw [hK_x0]; decide) (s_E_1 hK_x0) rfl rfl rfl rfl ⟨Nat.le_of_ble_eq_true rfl, Nat.le_of_ble_eq_true rfl⟩ rfl hl.1 (Nat.le_of_ble_eq_true rfl) dX0_grow_14 ⟨Nat.le_refl _, Nat.le_refl _⟩) hS (fun S105 H locs hn hR hS => ?_)
    replace h := hn
    clear hn
    refine lv_aload_n hx hb dX0_grow_17 rfl (lv_at hl 0 rfl) ?_
    refine lv_dup hx hb dX0_grow_18 rfl ?_
    obtain ⟨hK_x0, h⟩ := h
    refine x_g_34 C hR hK_x0 q_18_8 dX0_grow_19 ?_
    refine lv_topi (fun x106 ex106 => ?_)
    replace h := h x106 ex106
    refine lv_iload_n hx hb dX0_grow_22 rfl (lv_at hl 3 rfl) ?_
    refine lv_iadd hx hb dX0_grow_23 ?_
    refine lv_topi (fun x107 ex107 => ?_)
    replace h := h x107 ex107
    refine x_p_34 (v := x107) C hR hK_x0 hS q_18_8 dX0_grow_24 (fun H locs hR hS => ?_)
    obtain ⟨S108, eS108⟩ : ∃ z : sT, z = s_sI S105 34 x0 x107 := ⟨_, rfl⟩
    rw [← eS108] at hR
    replace h := h S108 eS108
    have hK_x0 : s_K S108 x0 = 2 := by rw [eS108]; exact hK_x0
    refine lv_aload_n hx hb dX0_grow_27 rfl (lv_at hl 0 rfl) ?_
    refine x_kv (x_runV (As := []) (rest := []) C hml hR hS (m_X0_ripen l gg x0 S108 h) b_X0_ripen q_23_12 (by rw [hK_x0]; decide) (s_E_1 hK_x0) rfl rfl rfl rfl ⟨Nat.le_of_ble_eq_true rfl, Nat.le_of_ble_eq_true rfl⟩ rfl hl.1 (Nat.le_of_ble_eq_true rfl) dX0_grow_28 ⟨Nat.le_refl _, Nat.le_refl _⟩) hS (fun S109 H locs hn hR hS => ?_)
    replace h := hn
    clear hn
    refine lv_aload_n hx hb dX0_grow_31 rfl (lv_at hl 0 rfl) ?_
    obtain ⟨hK_x0, h⟩ := h
    refine x_g_32 C hR hK_x0 q_9_14 dX0_grow_32 ?_
    refine lv_topi (fun x110 ex110 => ?_)
    replace h := h x110 ex110
    refine x_ki (x_runSN (As := [.int x110]) (rest := []) (host := "Subakhall") C hml hR hS (m_X6_isOnTheStalk l gg x110 S109 h) b_X6_isOnTheStalk xm_7 rfl rfl ⟨Nat.le_of_ble_eq_true rfl, Nat.le_of_ble_eq_true rfl⟩ rfl hl.1 (Nat.le_of_ble_eq_true rfl) dX0_grow_35 ⟨Nat.le_refl _, Nat.le_refl _⟩) hS (fun x112 S111 H locs hn hR hS => ?_)
    replace h := hn
    clear hn
    refine lv_if_eq (tgt := 58) hx hb dX0_grow_38 (by decide) (fun hc113 => ?_) (fun hc113 => ?_)
    · replace h := h.1 hc113
      exact t_X0_grow_b58 C hml hr hlocks  h H locs ls hR hS (lv_sub (l' := []) hl [] rfl)
    · replace h := h.2 hc113
      refine lv_aload_n hx hb dX0_grow_41 rfl (lv_at hl 0 rfl) ?_
      obtain ⟨hK_x0, h⟩ := h
      refine x_g_36 C hR hK_x0 q_9_16 dX0_grow_42 ?_
      refine lv_topi (fun x114 ex114 => ?_)
      replace h := h x114 ex114
      refine lv_if_le (tgt := 58) hx hb dX0_grow_45 (by decide) (fun hc115 => ?_) (fun hc115 => ?_)
      · replace h := h.1 hc115
        exact t_X0_grow_b58 C hml hr hlocks  h H locs ls hR hS (lv_sub (l' := []) hl [] rfl)
      · replace h := h.2 hc115
        refine lv_aload_n hx hb dX0_grow_48 rfl (lv_at hl 0 rfl) ?_
        refine lv_dup hx hb dX0_grow_49 rfl ?_
        refine x_g_36 C hR hK_x0 q_9_16 dX0_grow_50 ?_
        refine lv_topi (fun x116 ex116 => ?_)
        replace h := h x116 ex116
        refine lv_iconst (v := 1) hx hb dX0_grow_53 (by decide) ?_
        refine lv_isub hx hb dX0_grow_54 ?_
        refine lv_topi (fun x117 ex117 => ?_)
        replace h := h x117 ex117
        refine x_p_36 (v := x117) C hR hK_x0 hS q_9_16 dX0_grow_55 (fun H locs hR hS => ?_)
        obtain ⟨S118, eS118⟩ : ∃ z : sT, z = s_sI S111 36 x0 x117 := ⟨_, rfl⟩
        rw [← eS118] at hR
        replace h := h S118 eS118
        have hK_x0 : s_K S118 x0 = 2 := by rw [eS118]; exact hK_x0
        exact t_X0_grow_b58 C hml hr hlocks  h H locs ls hR hS (lv_sub (l' := []) hl [] rfl)
  · replace h := h.2 hc104
    exact W.vret hx hb hr (fun t ht hW => ⟨⟨S102, rfl, h, x_rt ht hR⟩, hS.F ht⟩) hS.2.2 dX0_grow_10
theorem m_X0_grow (l : Launch) (gg : sG) (x0 : Nat) (x1 : Int32) (x2 : Int32) (x3 : Int32) (S : sT) {Q : sT → Prop} (h : w_X0_grow x0 x1 x2 x3 S Q) : x_Mv l gg yX0_grow (x_ws yX0_grow cX0_grow 4 none) r_X0_grow [.ref x0, .int x1, .int x2, .int x3] S Q 0 0 := by
  refine x_ofW (cc := cX0_grow) (own := RX0) (by decide +kernel) rfl (Nat.le_of_ble_eq_true rfl) ?_
  intro p e s m args below meth c C hml hr hlocks hin ht H locs ls hR hS hl
  exact t_X0_grow_b0 C hml hr hlocks h H locs ls hR hS (lv_sub (l' := [(0, .ref x0), (1, .int x1), (2, .int x2), (3, .int x3)]) hl [0, 1, 2, 3] rfl)
def w_X0_ripeYield_b0 (x0 : Nat) (S : sT)  (Q : Int32 → sT → Prop) : Prop :=
s_K S x0 = 2 ∧
    ∀ x101 : Int32, x101 = s_I S 32 x0 →
    ((x101 = (5 : Int32) → ∀ x103 : Int32, x103 = s_I S 33 x0 →
    w_X6_inRow 3 x103 S (fun x105 S104 =>
    s_K S104 x0 = 2 ∧
    ∀ x106 : Int32, x106 = s_I S104 35 x0 →
    ∀ x107 : Int32, x107 = x105 * x106 →
    ∀ x108 : Int32, x108 = x107 / (100 : Int32) →
    ∀ x109 : Int32, x109 = s_I S104 36 x0 →
    ∀ x110 : Int32, x110 = (50 : Int32) + x109 →
    ∀ x111 : Int32, x111 = x108 * x110 →
    ∀ x112 : Int32, x112 = x111 / (100 : Int32) →
    Q x112 S104)) ∧
    (¬ x101 = (5 : Int32) → Q (0 : Int32) S))
def w_X0_ripeYield (x0 : Nat) (S : sT) (Q : Int32 → sT → Prop) : Prop := w_X0_ripeYield_b0 x0 S Q
def r_X0_ripeYield : Room := x_rm 1 21 0 0
theorem b_X0_ripeYield : x_BV yX0_ripeYield cX0_ripeYield 2 (some .int) 0 := ⟨q_11_14, q_11_12, q_11_13, q_9_1, by decide +kernel⟩
set_option maxHeartbeats 4000000 in
theorem t_X0_ripeYield_b0 {Q : Int32 → sT → Prop} (C : x_C p s m args c cX0_ripeYield RX0 gg) (hml : c.maxLocals = 2) (hr : meth.sig.returnType = (some .int)) (hlocks : meth.locks = false) {x0 : Nat}  {S : sT}  (h : w_X0_ripeYield_b0 x0 S  Q) : x_X p l e r_X0_ripeYield s m args below meth c gg 2 0 0 (MQ below (va_Qi Q (fun S1 t => s_Rep gg S1 t.heap) (s_A gg)) args s 0 0 (s_A gg)) 0 [(0, .ref x0)] [] S := by
  unfold w_X0_ripeYield_b0 at h
  obtain ⟨hx, hb, -⟩ := id C
  intro H locs ls hR hS hl
  refine lv_aload_n hx hb dX0_ripeYield_0 rfl (lv_at hl 0 rfl) ?_
  obtain ⟨hK_x0, h⟩ := h
  refine x_g_32 C hR hK_x0 q_9_14 dX0_ripeYield_1 ?_
  refine lv_topi (fun x101 ex101 => ?_)
  replace h := h x101 ex101
  refine lv_iconst (v := 5) hx hb dX0_ripeYield_4 (by decide) ?_
  refine lv_icmp_eq (tgt := 10) hx hb dX0_ripeYield_5 (by decide) (fun hc102 => ?_) (fun hc102 => ?_)
  · replace h := h.1 hc102
    refine x_gsN C 3 (by decide) hS (host := "Subakhall") xn_3 dX0_ripeYield_10 ?_
    refine lv_aload_n hx hb dX0_ripeYield_13 rfl (lv_at hl 0 rfl) ?_
    refine x_g_33 C hR hK_x0 q_9_15 dX0_ripeYield_14 ?_
    refine lv_topi (fun x103 ex103 => ?_)
    replace h := h x103 ex103
    refine x_ki (x_runSN (As := [.ref (gg.2.2.2 3), .int x103]) (rest := []) (host := "Subakhall") C hml hR hS (m_X6_inRow l gg 3 x103 S h) b_X6_inRow xm_6 rfl rfl ⟨Nat.le_of_ble_eq_true rfl, Nat.le_of_ble_eq_true rfl⟩ rfl hl.1 (Nat.le_of_ble_eq_true rfl) dX0_ripeYield_17 ⟨Nat.le_refl _, Nat.le_refl _⟩) hS (fun x105 S104 H locs hn hR hS => ?_)
    replace h := hn
    clear hn
    refine lv_aload_n hx hb dX0_ripeYield_20 rfl (lv_at hl 0 rfl) ?_
    obtain ⟨hK_x0, h⟩ := h
    refine x_g_35 C hR hK_x0 q_11_15 dX0_ripeYield_21 ?_
    refine lv_topi (fun x106 ex106 => ?_)
    replace h := h x106 ex106
    refine lv_imul hx hb dX0_ripeYield_24 ?_
    refine lv_topi (fun x107 ex107 => ?_)
    replace h := h x107 ex107
    refine lv_bipush (v := 100) hx hb dX0_ripeYield_25 (by decide) ?_
    refine lv_idiv hx hb dX0_ripeYield_27 (by decide) ?_
    refine lv_topi (fun x108 ex108 => ?_)
    replace h := h x108 ex108
    refine lv_istore_n (lv' := [(1, .int x108), (0, .ref x0)]) hx hb dX0_ripeYield_28 rfl hl (by decide) rfl (fun ls hl => ?_)
    refine lv_iload_n hx hb dX0_ripeYield_29 rfl (lv_at hl 0 rfl) ?_
    refine lv_bipush (v := 50) hx hb dX0_ripeYield_30 (by decide) ?_
    refine lv_aload_n hx hb dX0_ripeYield_32 rfl (lv_at hl 1 rfl) ?_
    refine x_g_36 C hR hK_x0 q_9_16 dX0_ripeYield_33 ?_
    refine lv_topi (fun x109 ex109 => ?_)
    replace h := h x109 ex109
    refine lv_iadd hx hb dX0_ripeYield_36 ?_
    refine lv_topi (fun x110 ex110 => ?_)
    replace h := h x110 ex110
    refine lv_imul hx hb dX0_ripeYield_37 ?_
    refine lv_topi (fun x111 ex111 => ?_)
    replace h := h x111 ex111
    refine lv_bipush (v := 100) hx hb dX0_ripeYield_38 (by decide) ?_
    refine lv_idiv hx hb dX0_ripeYield_40 (by decide) ?_
    refine lv_topi (fun x112 ex112 => ?_)
    replace h := h x112 ex112
    exact W.iret (v := x112) hx hb hr (fun t ht hW => ⟨⟨x112, S104, rfl, h, x_rt ht hR⟩, hS.F ht⟩) hS.2.2 dX0_ripeYield_41
  · replace h := h.2 hc102
    refine lv_iconst (v := 0) hx hb dX0_ripeYield_8 (by decide) ?_
    exact W.iret (v := (0 : Int32)) hx hb hr (fun t ht hW => ⟨⟨(0 : Int32), S, rfl, h, x_rt ht hR⟩, hS.F ht⟩) hS.2.2 dX0_ripeYield_9
theorem m_X0_ripeYield (l : Launch) (gg : sG) (x0 : Nat) (S : sT) {Q : Int32 → sT → Prop} (h : w_X0_ripeYield x0 S Q) : x_Mi l gg yX0_ripeYield (x_ws yX0_ripeYield cX0_ripeYield 2 (some .int)) r_X0_ripeYield [.ref x0] S Q 0 0 := by
  refine x_ofW (cc := cX0_ripeYield) (own := RX0) (by decide +kernel) rfl (Nat.le_of_ble_eq_true rfl) ?_
  intro p e s m args below meth c C hml hr hlocks hin ht H locs ls hR hS hl
  exact t_X0_ripeYield_b0 C hml hr hlocks h H locs ls hR hS (lv_sub (l' := [(0, .ref x0)]) hl [0] rfl)
def w_X0_learn_b0 (x0 : Nat) (x1 : Int32) (S : sT)  (Q : sT → Prop) : Prop :=
∀ x101 : Int32, x101 = (100 : Int32) * x1 →
    ∀ x102 : Int32, x102 = x101 + (109 : Int32) →
    ∀ x103 : Int32, x103 = x102 / (110 : Int32) →
    ∀ x104 : Int32, x104 = x1 + (1 : Int32) →
    ∀ x105 : Int32, x105 = (100 : Int32) * x104 →
    ∀ x106 : Int32, x106 = x105 - (1 : Int32) →
    ∀ x107 : Int32, x107 = x106 / (90 : Int32) →
    s_K S x0 = 2 ∧
    ∀ x108 : Int32, x108 = s_I S 38 x0 →
    ∀ x109 : Int32, x109 = s_max x108 x103 →
    ∀ S110 : sT, S110 = s_sI S 38 x0 x109 →
    ∀ x111 : Int32, x111 = s_I S110 39 x0 →
    ∀ x112 : Int32, x112 = s_min x111 x107 →
    ∀ S113 : sT, S113 = s_sI S110 39 x0 x112 →
    Q S113
def w_X0_learn (x0 : Nat) (x1 : Int32) (S : sT) (Q : sT → Prop) : Prop := w_X0_learn_b0 x0 x1 S Q
def r_X0_learn : Room := x_rm 1 40 0 0
theorem b_X0_learn : x_BV yX0_learn cX0_learn 4 none 1 := ⟨q_18_23, q_18_21, q_18_22, q_9_1, by decide +kernel⟩
set_option maxHeartbeats 4000000 in
theorem t_X0_learn_b0 {Q : sT → Prop} (C : x_C p s m args c cX0_learn RX0 gg) (hml : c.maxLocals = 4) (hr : meth.sig.returnType = none) (hlocks : meth.locks = false) {x0 : Nat} {x1 : Int32}  {S : sT}  (h : w_X0_learn_b0 x0 x1 S  Q) : x_X p l e r_X0_learn s m args below meth c gg 4 0 0 (MQ below (va_Qv Q (fun S1 t => s_Rep gg S1 t.heap) (s_A gg)) args s 0 0 (s_A gg)) 0 [(0, .ref x0), (1, .int x1)] [] S := by
  unfold w_X0_learn_b0 at h
  obtain ⟨hx, hb, -⟩ := id C
  intro H locs ls hR hS hl
  refine lv_bipush (v := 100) hx hb dX0_learn_0 (by decide) ?_
  refine lv_iload_n hx hb dX0_learn_2 rfl (lv_at hl 1 rfl) ?_
  refine lv_imul hx hb dX0_learn_3 ?_
  refine lv_topi (fun x101 ex101 => ?_)
  replace h := h x101 ex101
  refine lv_bipush (v := 109) hx hb dX0_learn_4 (by decide) ?_
  refine lv_iadd hx hb dX0_learn_6 ?_
  refine lv_topi (fun x102 ex102 => ?_)
  replace h := h x102 ex102
  refine lv_bipush (v := 110) hx hb dX0_learn_7 (by decide) ?_
  refine lv_idiv hx hb dX0_learn_9 (by decide) ?_
  refine lv_topi (fun x103 ex103 => ?_)
  replace h := h x103 ex103
  refine lv_istore_n (lv' := [(2, .int x103), (0, .ref x0), (1, .int x1)]) hx hb dX0_learn_10 rfl hl (by decide) rfl (fun ls hl => ?_)
  refine lv_bipush (v := 100) hx hb dX0_learn_11 (by decide) ?_
  refine lv_iload_n hx hb dX0_learn_13 rfl (lv_at hl 2 rfl) ?_
  refine lv_iconst (v := 1) hx hb dX0_learn_14 (by decide) ?_
  refine lv_iadd hx hb dX0_learn_15 ?_
  refine lv_topi (fun x104 ex104 => ?_)
  replace h := h x104 ex104
  refine lv_imul hx hb dX0_learn_16 ?_
  refine lv_topi (fun x105 ex105 => ?_)
  replace h := h x105 ex105
  refine lv_iconst (v := 1) hx hb dX0_learn_17 (by decide) ?_
  refine lv_isub hx hb dX0_learn_18 ?_
  refine lv_topi (fun x106 ex106 => ?_)
  replace h := h x106 ex106
  refine lv_bipush (v := 90) hx hb dX0_learn_19 (by decide) ?_
  refine lv_idiv hx hb dX0_learn_21 (by decide) ?_
  refine lv_topi (fun x107 ex107 => ?_)
  replace h := h x107 ex107
  refine lv_istore_n (lv' := [(3, .int x107), (2, .int x103), (0, .ref x0), (1, .int x1)]) hx hb dX0_learn_22 rfl hl (by decide) rfl (fun ls hl => ?_)
  refine lv_aload_n hx hb dX0_learn_23 rfl (lv_at hl 2 rfl) ?_
  refine lv_aload_n hx hb dX0_learn_24 rfl (lv_at hl 2 rfl) ?_
  obtain ⟨hK_x0, h⟩ := h
  refine x_g_38 C hR hK_x0 q_18_10 dX0_learn_25 ?_
  refine lv_topi (fun x108 ex108 => ?_)
  replace h := h x108 ex108
  refine lv_iload_n hx hb dX0_learn_28 rfl (lv_at hl 1 rfl) ?_
  refine va_mmax hx hb (by rw [hml]; exact hl.1.symm) C.2.2.2.1 (C.2.2.1 _ q_19_0) (C.2.2.1 _ q_5_16) (C.2.2.1 _ q_5_17) (C.2.2.1 _ q_5_18) (Nat.le_of_ble_eq_true rfl) (Nat.le_of_ble_eq_true rfl) (Nat.zero_le _) (Nat.zero_le _) dX0_learn_29 ?_
  refine lv_topi (fun x109 ex109 => ?_)
  replace h := h x109 ex109
  refine x_p_38 (v := x109) C hR hK_x0 hS q_18_10 dX0_learn_32 (fun H locs hR hS => ?_)
  obtain ⟨S110, eS110⟩ : ∃ z : sT, z = s_sI S 38 x0 x109 := ⟨_, rfl⟩
  rw [← eS110] at hR
  replace h := h S110 eS110
  have hK_x0 : s_K S110 x0 = 2 := by rw [eS110]; exact hK_x0
  refine lv_aload_n hx hb dX0_learn_35 rfl (lv_at hl 2 rfl) ?_
  refine lv_aload_n hx hb dX0_learn_36 rfl (lv_at hl 2 rfl) ?_
  refine x_g_39 C hR hK_x0 q_9_17 dX0_learn_37 ?_
  refine lv_topi (fun x111 ex111 => ?_)
  replace h := h x111 ex111
  refine lv_iload_n hx hb dX0_learn_40 rfl (lv_at hl 0 rfl) ?_
  refine va_mmin hx hb (by rw [hml]; exact hl.1.symm) C.2.2.2.1 (C.2.2.1 _ q_19_1) (C.2.2.1 _ q_6_19) (C.2.2.1 _ q_5_17) (C.2.2.1 _ q_6_20) (Nat.le_of_ble_eq_true rfl) (Nat.le_of_ble_eq_true rfl) (Nat.zero_le _) (Nat.zero_le _) dX0_learn_41 ?_
  refine lv_topi (fun x112 ex112 => ?_)
  replace h := h x112 ex112
  refine x_p_39 (v := x112) C hR hK_x0 hS q_9_17 dX0_learn_44 (fun H locs hR hS => ?_)
  obtain ⟨S113, eS113⟩ : ∃ z : sT, z = s_sI S110 39 x0 x112 := ⟨_, rfl⟩
  rw [← eS113] at hR
  replace h := h S113 eS113
  have hK_x0 : s_K S113 x0 = 2 := by rw [eS113]; exact hK_x0
  exact W.vret hx hb hr (fun t ht hW => ⟨⟨S113, rfl, h, x_rt ht hR⟩, hS.F ht⟩) hS.2.2 dX0_learn_47
theorem m_X0_learn (l : Launch) (gg : sG) (x0 : Nat) (x1 : Int32) (S : sT) {Q : sT → Prop} (h : w_X0_learn x0 x1 S Q) : x_Mv l gg yX0_learn (x_ws yX0_learn cX0_learn 4 none) r_X0_learn [.ref x0, .int x1] S Q 0 0 := by
  refine x_ofW (cc := cX0_learn) (own := RX0) (by decide +kernel) rfl (Nat.le_of_ble_eq_true rfl) ?_
  intro p e s m args below meth c C hml hr hlocks hin ht H locs ls hR hS hl
  exact t_X0_learn_b0 C hml hr hlocks h H locs ls hR hS (lv_sub (l' := [(0, .ref x0), (1, .int x1)]) hl [0, 1] rfl)
def w_X0_copyFrom_b0 (x0 : Nat) (x1 : Nat) (S : sT)  (Q : sT → Prop) : Prop :=
s_K S x1 = 2 ∧
    ∀ x101 : Int32, x101 = s_I S 32 x1 →
    s_K S x0 = 2 ∧
    ∀ S102 : sT, S102 = s_sI S 32 x0 x101 →
    ∀ x103 : Int32, x103 = s_I S102 33 x1 →
    ∀ S104 : sT, S104 = s_sI S102 33 x0 x103 →
    ∀ x105 : Int32, x105 = s_I S104 34 x1 →
    ∀ S106 : sT, S106 = s_sI S104 34 x0 x105 →
    ∀ x107 : Int32, x107 = s_I S106 35 x1 →
    ∀ S108 : sT, S108 = s_sI S106 35 x0 x107 →
    ∀ x109 : Int32, x109 = s_I S108 36 x1 →
    ∀ S110 : sT, S110 = s_sI S108 36 x0 x109 →
    Q S110
def w_X0_copyFrom (x0 : Nat) (x1 : Nat) (S : sT) (Q : sT → Prop) : Prop := w_X0_copyFrom_b0 x0 x1 S Q
def r_X0_copyFrom : Room := x_rm 0 0 0 0
theorem b_X0_copyFrom : x_BV yX0_copyFrom cX0_copyFrom 2 none 1 := ⟨q_27_17, q_27_15, q_27_16, q_9_1, by decide +kernel⟩
set_option maxHeartbeats 4000000 in
theorem t_X0_copyFrom_b0 {Q : sT → Prop} (C : x_C p s m args c cX0_copyFrom RX0 gg) (hml : c.maxLocals = 2) (hr : meth.sig.returnType = none) (hlocks : meth.locks = false) {x0 : Nat} {x1 : Nat}  {S : sT}  (h : w_X0_copyFrom_b0 x0 x1 S  Q) : x_X p l e r_X0_copyFrom s m args below meth c gg 2 0 0 (MQ below (va_Qv Q (fun S1 t => s_Rep gg S1 t.heap) (s_A gg)) args s 0 0 (s_A gg)) 0 [(0, .ref x0), (1, .ref x1)] [] S := by
  unfold w_X0_copyFrom_b0 at h
  obtain ⟨hx, hb, -⟩ := id C
  intro H locs ls hR hS hl
  refine lv_aload_n hx hb dX0_copyFrom_0 rfl (lv_at hl 0 rfl) ?_
  refine lv_aload_n hx hb dX0_copyFrom_1 rfl (lv_at hl 1 rfl) ?_
  obtain ⟨hK_x1, h⟩ := h
  refine x_g_32 C hR hK_x1 q_9_14 dX0_copyFrom_2 ?_
  refine lv_topi (fun x101 ex101 => ?_)
  replace h := h x101 ex101
  obtain ⟨hK_x0, h⟩ := h
  refine x_p_32 (v := x101) C hR hK_x0 hS q_9_14 dX0_copyFrom_5 (fun H locs hR hS => ?_)
  obtain ⟨S102, eS102⟩ : ∃ z : sT, z = s_sI S 32 x0 x101 := ⟨_, rfl⟩
  rw [← eS102] at hR
  replace h := h S102 eS102
  have hK_x1 : s_K S102 x1 = 2 := by rw [eS102]; exact hK_x1
  have hK_x0 : s_K S102 x0 = 2 := by rw [eS102]; exact hK_x0
  refine lv_aload_n hx hb dX0_copyFrom_8 rfl (lv_at hl 0 rfl) ?_
  refine lv_aload_n hx hb dX0_copyFrom_9 rfl (lv_at hl 1 rfl) ?_
  refine x_g_33 C hR hK_x1 q_9_15 dX0_copyFrom_10 ?_
  refine lv_topi (fun x103 ex103 => ?_)
  replace h := h x103 ex103
  refine x_p_33 (v := x103) C hR hK_x0 hS q_9_15 dX0_copyFrom_13 (fun H locs hR hS => ?_)
  obtain ⟨S104, eS104⟩ : ∃ z : sT, z = s_sI S102 33 x0 x103 := ⟨_, rfl⟩
  rw [← eS104] at hR
  replace h := h S104 eS104
  have hK_x1 : s_K S104 x1 = 2 := by rw [eS104]; exact hK_x1
  have hK_x0 : s_K S104 x0 = 2 := by rw [eS104]; exact hK_x0
  refine lv_aload_n hx hb dX0_copyFrom_16 rfl (lv_at hl 0 rfl) ?_
  refine lv_aload_n hx hb dX0_copyFrom_17 rfl (lv_at hl 1 rfl) ?_
  refine x_g_34 C hR hK_x1 q_18_8 dX0_copyFrom_18 ?_
  refine lv_topi (fun x105 ex105 => ?_)
  replace h := h x105 ex105
  refine x_p_34 (v := x105) C hR hK_x0 hS q_18_8 dX0_copyFrom_21 (fun H locs hR hS => ?_)
  obtain ⟨S106, eS106⟩ : ∃ z : sT, z = s_sI S104 34 x0 x105 := ⟨_, rfl⟩
  rw [← eS106] at hR
  replace h := h S106 eS106
  have hK_x1 : s_K S106 x1 = 2 := by rw [eS106]; exact hK_x1
  have hK_x0 : s_K S106 x0 = 2 := by rw [eS106]; exact hK_x0
  refine lv_aload_n hx hb dX0_copyFrom_24 rfl (lv_at hl 0 rfl) ?_
  refine lv_aload_n hx hb dX0_copyFrom_25 rfl (lv_at hl 1 rfl) ?_
  refine x_g_35 C hR hK_x1 q_11_15 dX0_copyFrom_26 ?_
  refine lv_topi (fun x107 ex107 => ?_)
  replace h := h x107 ex107
  refine x_p_35 (v := x107) C hR hK_x0 hS q_11_15 dX0_copyFrom_29 (fun H locs hR hS => ?_)
  obtain ⟨S108, eS108⟩ : ∃ z : sT, z = s_sI S106 35 x0 x107 := ⟨_, rfl⟩
  rw [← eS108] at hR
  replace h := h S108 eS108
  have hK_x1 : s_K S108 x1 = 2 := by rw [eS108]; exact hK_x1
  have hK_x0 : s_K S108 x0 = 2 := by rw [eS108]; exact hK_x0
  refine lv_aload_n hx hb dX0_copyFrom_32 rfl (lv_at hl 0 rfl) ?_
  refine lv_aload_n hx hb dX0_copyFrom_33 rfl (lv_at hl 1 rfl) ?_
  refine x_g_36 C hR hK_x1 q_9_16 dX0_copyFrom_34 ?_
  refine lv_topi (fun x109 ex109 => ?_)
  replace h := h x109 ex109
  refine x_p_36 (v := x109) C hR hK_x0 hS q_9_16 dX0_copyFrom_37 (fun H locs hR hS => ?_)
  obtain ⟨S110, eS110⟩ : ∃ z : sT, z = s_sI S108 36 x0 x109 := ⟨_, rfl⟩
  rw [← eS110] at hR
  replace h := h S110 eS110
  have hK_x1 : s_K S110 x1 = 2 := by rw [eS110]; exact hK_x1
  have hK_x0 : s_K S110 x0 = 2 := by rw [eS110]; exact hK_x0
  exact W.vret hx hb hr (fun t ht hW => ⟨⟨S110, rfl, h, x_rt ht hR⟩, hS.F ht⟩) hS.2.2 dX0_copyFrom_40
theorem m_X0_copyFrom (l : Launch) (gg : sG) (x0 : Nat) (x1 : Nat) (S : sT) {Q : sT → Prop} (h : w_X0_copyFrom x0 x1 S Q) : x_Mv l gg yX0_copyFrom (x_ws yX0_copyFrom cX0_copyFrom 2 none) r_X0_copyFrom [.ref x0, .ref x1] S Q 0 0 := by
  refine x_ofW (cc := cX0_copyFrom) (own := RX0) (by decide +kernel) rfl (Nat.le_of_ble_eq_true rfl) ?_
  intro p e s m args below meth c C hml hr hlocks hin ht H locs ls hR hS hl
  exact t_X0_copyFrom_b0 C hml hr hlocks h H locs ls hR hS (lv_sub (l' := [(0, .ref x0), (1, .ref x1)]) hl [0, 1] rfl)
def w_X1_takesWater_b22 (y0 : Int32) (S : sT)  (Q : Int32 → sT → Prop) : Prop :=
(y0 = 0 ∨ y0 = 1) ∧
    Q y0 S
def w_X1_takesWater_b21  (S : sT)  (Q : Int32 → sT → Prop) : Prop :=
w_X1_takesWater_b22 (0 : Int32) S  Q
def w_X1_takesWater_b0 (x0 : Nat) (S : sT)  (Q : Int32 → sT → Prop) : Prop :=
s_K S x0 = 3 ∧
    ∀ x101 : Int32, x101 = s_I S 72 x0 →
    ((x101 = 0 → w_X1_takesWater_b21  S  Q) ∧
    (¬ x101 = 0 → ∃ a103 : Nat, s_R S 68 x0 = some a103 ∧
    s_K S a103 = 6 ∧
    ∀ x104 : Int32, x104 = s_I S 160 a103 →
    ((x104 < 0 → w_X1_takesWater_b21  S  Q) ∧
    (¬ x104 < 0 → w_X1_takesWater_b22 (1 : Int32) S  Q))))
def w_X1_takesWater (x0 : Nat) (S : sT) (Q : Int32 → sT → Prop) : Prop := w_X1_takesWater_b0 x0 S Q
def r_X1_takesWater : Room := x_rm 0 0 0 0
theorem b_X1_takesWater : x_BV yX1_takesWater cX1_takesWater 1 (some .boolean) 0 := ⟨q_15_8, q_15_6, q_15_7, q_8_12, by decide +kernel⟩
set_option maxHeartbeats 4000000 in
theorem t_X1_takesWater_b22 {Q : Int32 → sT → Prop} (C : x_C p s m args c cX1_takesWater RX1 gg) (hml : c.maxLocals = 1) (hr : meth.sig.returnType = (some .boolean)) (hlocks : meth.locks = false) {y0 : Int32}  {S : sT}  (h : w_X1_takesWater_b22 y0 S  Q) : x_X p l e r_X1_takesWater s m args below meth c gg 1 0 0 (MQ below (va_Qi Q (fun S1 t => s_Rep gg S1 t.heap) (s_A gg)) args s 0 0 (s_A gg)) 22 [] [.int y0] S := by
  unfold w_X1_takesWater_b22 at h
  obtain ⟨hx, hb, -⟩ := id C
  intro H locs ls hR hS hl
  obtain ⟨hz101, h⟩ := h
  exact W.zret (v := y0) hx hb hr (zb_n hz101) (fun t ht hW => ⟨⟨y0, S, rfl, h, x_rt ht hR⟩, hS.F ht⟩) hS.2.2 dX1_takesWater_22
set_option maxHeartbeats 4000000 in
theorem t_X1_takesWater_b21 {Q : Int32 → sT → Prop} (C : x_C p s m args c cX1_takesWater RX1 gg) (hml : c.maxLocals = 1) (hr : meth.sig.returnType = (some .boolean)) (hlocks : meth.locks = false)   {S : sT}  (h : w_X1_takesWater_b21  S  Q) : x_X p l e r_X1_takesWater s m args below meth c gg 1 0 0 (MQ below (va_Qi Q (fun S1 t => s_Rep gg S1 t.heap) (s_A gg)) args s 0 0 (s_A gg)) 21 [] [] S := by
  unfold w_X1_takesWater_b21 at h
  obtain ⟨hx, hb, -⟩ := id C
  intro H locs ls hR hS hl
  refine lv_iconst (v := 0) hx hb dX1_takesWater_21 (by decide) ?_
  exact t_X1_takesWater_b22 C hml hr hlocks  h H locs ls hR hS (lv_sub (l' := []) hl [] rfl)
set_option maxHeartbeats 4000000 in
theorem t_X1_takesWater_b0 {Q : Int32 → sT → Prop} (C : x_C p s m args c cX1_takesWater RX1 gg) (hml : c.maxLocals = 1) (hr : meth.sig.returnType = (some .boolean)) (hlocks : meth.locks = false) {x0 : Nat}  {S : sT}  (h : w_X1_takesWater_b0 x0 S  Q) : x_X p l e r_X1_takesWater s m args below meth c gg 1 0 0 (MQ below (va_Qi Q (fun S1 t => s_Rep gg S1 t.heap) (s_A gg)) args s 0 0 (s_A gg)) 0 [(0, .ref x0)] [] S := by
  unfold w_X1_takesWater_b0 at h
  obtain ⟨hx, hb, -⟩ := id C
  intro H locs ls hR hS hl
  refine lv_aload_n hx hb dX1_takesWater_0 rfl (lv_at hl 0 rfl) ?_
  obtain ⟨hK_x0, h⟩ := h
  refine x_g_72 C hR hK_x0 q_15_9 dX1_takesWater_1 ?_
  refine lv_topi (fun x101 ex101 => ?_)
  replace h := h x101 ex101
  refine lv_if_eq (tgt := 21) hx hb dX1_takesWater_4 (by decide) (fun hc102 => ?_) (fun hc102 => ?_)
  · replace h := h.1 hc102
    exact t_X1_takesWater_b21 C hml hr hlocks  h H locs ls hR hS (lv_sub (l' := []) hl [] rfl)
  · replace h := h.2 hc102
    refine lv_aload_n hx hb dX1_takesWater_7 rfl (lv_at hl 0 rfl) ?_
    refine x_g_68 C hR hK_x0 q_8_22 dX1_takesWater_8 ?_
    obtain ⟨a103, ea103, h⟩ := h
    refine x_some ea103 ?_
    obtain ⟨hK_a103, h⟩ := h
    refine x_g_160 C hR hK_a103 q_15_10 dX1_takesWater_11 ?_
    refine lv_topi (fun x104 ex104 => ?_)
    replace h := h x104 ex104
    refine lv_if_lt (tgt := 21) hx hb dX1_takesWater_14 (by decide) (fun hc105 => ?_) (fun hc105 => ?_)
    · replace h := h.1 hc105
      exact t_X1_takesWater_b21 C hml hr hlocks  h H locs ls hR hS (lv_sub (l' := []) hl [] rfl)
    · replace h := h.2 hc105
      refine lv_iconst (v := 1) hx hb dX1_takesWater_17 (by decide) ?_
      refine lv_goto (tgt := 22) hx hb dX1_takesWater_18 (by decide) ?_
      exact t_X1_takesWater_b22 C hml hr hlocks  h H locs ls hR hS (lv_sub (l' := []) hl [] rfl)
theorem m_X1_takesWater (l : Launch) (gg : sG) (x0 : Nat) (S : sT) {Q : Int32 → sT → Prop} (h : w_X1_takesWater x0 S Q) : x_Mi l gg yX1_takesWater (x_ws yX1_takesWater cX1_takesWater 1 (some .boolean)) r_X1_takesWater [.ref x0] S Q 0 0 := by
  refine x_ofW (cc := cX1_takesWater) (own := RX1) (by decide +kernel) rfl (Nat.le_of_ble_eq_true rfl) ?_
  intro p e s m args below meth c C hml hr hlocks hin ht H locs ls hR hS hl
  exact t_X1_takesWater_b0 C hml hr hlocks h H locs ls hR hS (lv_sub (l' := [(0, .ref x0)]) hl [0] rfl)
def w_X1_part_b0 (x0 : Nat) (S : sT)  (Q : Int32 → sT → Prop) : Prop :=
s_K S x0 = 3 ∧
    ∀ x101 : Int32, x101 = s_I S 66 x0 →
    ∀ x102 : Int32, x102 = s_I S 71 x0 →
    ∀ x103 : Int32, x103 = x101 + x102 →
    Q x103 S
def w_X1_part (x0 : Nat) (S : sT) (Q : Int32 → sT → Prop) : Prop := w_X1_part_b0 x0 S Q
def r_X1_part : Room := x_rm 0 0 0 0
theorem b_X1_part : x_BV yX1_part cX1_part 1 (some .int) 0 := ⟨q_21_22, q_21_20, q_21_21, q_8_12, by decide +kernel⟩
set_option maxHeartbeats 4000000 in
theorem t_X1_part_b0 {Q : Int32 → sT → Prop} (C : x_C p s m args c cX1_part RX1 gg) (hml : c.maxLocals = 1) (hr : meth.sig.returnType = (some .int)) (hlocks : meth.locks = false) {x0 : Nat}  {S : sT}  (h : w_X1_part_b0 x0 S  Q) : x_X p l e r_X1_part s m args below meth c gg 1 0 0 (MQ below (va_Qi Q (fun S1 t => s_Rep gg S1 t.heap) (s_A gg)) args s 0 0 (s_A gg)) 0 [(0, .ref x0)] [] S := by
  unfold w_X1_part_b0 at h
  obtain ⟨hx, hb, -⟩ := id C
  intro H locs ls hR hS hl
  refine lv_aload_n hx hb dX1_part_0 rfl (lv_at hl 0 rfl) ?_
  obtain ⟨hK_x0, h⟩ := h
  refine x_g_66 C hR hK_x0 q_9_5 dX1_part_1 ?_
  refine lv_topi (fun x101 ex101 => ?_)
  replace h := h x101 ex101
  refine lv_aload_n hx hb dX1_part_4 rfl (lv_at hl 0 rfl) ?_
  refine x_g_71 C hR hK_x0 q_21_23 dX1_part_5 ?_
  refine lv_topi (fun x102 ex102 => ?_)
  replace h := h x102 ex102
  refine lv_iadd hx hb dX1_part_8 ?_
  refine lv_topi (fun x103 ex103 => ?_)
  replace h := h x103 ex103
  exact W.iret (v := x103) hx hb hr (fun t ht hW => ⟨⟨x103, S, rfl, h, x_rt ht hR⟩, hS.F ht⟩) hS.2.2 dX1_part_9
theorem m_X1_part (l : Launch) (gg : sG) (x0 : Nat) (S : sT) {Q : Int32 → sT → Prop} (h : w_X1_part x0 S Q) : x_Mi l gg yX1_part (x_ws yX1_part cX1_part 1 (some .int)) r_X1_part [.ref x0] S Q 0 0 := by
  refine x_ofW (cc := cX1_part) (own := RX1) (by decide +kernel) rfl (Nat.le_of_ble_eq_true rfl) ?_
  intro p e s m args below meth c C hml hr hlocks hin ht H locs ls hR hS hl
  exact t_X1_part_b0 C hml hr hlocks h H locs ls hR hS (lv_sub (l' := [(0, .ref x0)]) hl [0] rfl)
def w_X1_clear_b46  (S : sT)  (Q : sT → Prop) : Prop :=
Q S
def w_X1_clear_b0 (x0 : Nat) (x1 : Int32) (S : sT)  (Q : sT → Prop) : Prop :=
s_K S x0 = 3 ∧
    ∃ a101 : Nat, s_R S 69 x0 = some a101 ∧
    s_K S a101 = 2 ∧
    w_X0_end a101 S (fun S102 =>
    ((x1 = 0 → s_K S102 x0 = 3 ∧
    ∃ a104 : Nat, s_R S102 69 x0 = some a104 ∧
    ∃ a105 : Nat, s_R S102 69 x0 = some a105 ∧
    s_K S102 a105 = 2 ∧
    ∀ x106 : Int32, x106 = s_I S102 36 a105 →
    ∀ x107 : Int32, x107 = x106 + (10 : Int32) →
    ∀ x108 : Int32, x108 = s_min (50 : Int32) x107 →
    s_K S102 a104 = 2 ∧
    ∀ S109 : sT, S109 = s_sI S102 36 a104 x108 →
    w_X1_clear_b46  S109  Q) ∧
    (¬ x1 = 0 → s_K S102 x0 = 3 ∧
    ∀ x110 : Int32, x110 = s_I S102 76 x0 →
    ∀ x111 : Int32, x111 = x110 / (2 : Int32) →
    ∀ S112 : sT, S112 = s_sI S102 76 x0 x111 →
    w_X1_clear_b46  S112  Q)))
def w_X1_clear (x0 : Nat) (x1 : Int32) (S : sT) (Q : sT → Prop) : Prop := w_X1_clear_b0 x0 x1 S Q
def r_X1_clear : Room := x_rm 1 40 0 0
theorem b_X1_clear : x_BV yX1_clear cX1_clear 2 none 1 := ⟨q_19_15, q_19_13, q_19_14, q_8_12, by decide +kernel⟩
set_option maxHeartbeats 4000000 in
theorem t_X1_clear_b46 {Q : sT → Prop} (C : x_C p s m args c cX1_clear RX1 gg) (hml : c.maxLocals = 2) (hr : meth.sig.returnType = none) (hlocks : meth.locks = false)   {S : sT}  (h : w_X1_clear_b46  S  Q) : x_X p l e r_X1_clear s m args below meth c gg 2 0 0 (MQ below (va_Qv Q (fun S1 t => s_Rep gg S1 t.heap) (s_A gg)) args s 0 0 (s_A gg)) 46 [] [] S := by
  unfold w_X1_clear_b46 at h
  obtain ⟨hx, hb, -⟩ := id C
  intro H locs ls hR hS hl
  exact W.vret hx hb hr (fun t ht hW => ⟨⟨S, rfl, h, x_rt ht hR⟩, hS.F ht⟩) hS.2.2 dX1_clear_46
set_option maxHeartbeats 4000000 in
theorem t_X1_clear_b0 {Q : sT → Prop} (C : x_C p s m args c cX1_clear RX1 gg) (hml : c.maxLocals = 2) (hr : meth.sig.returnType = none) (hlocks : meth.locks = false) {x0 : Nat} {x1 : Int32}  {S : sT}  (h : w_X1_clear_b0 x0 x1 S  Q) : x_X p l e r_X1_clear s m args below meth c gg 2 0 0 (MQ below (va_Qv Q (fun S1 t => s_Rep gg S1 t.heap) (s_A gg)) args s 0 0 (s_A gg)) 0 [(0, .ref x0), (1, .int x1)] [] S := by
  unfold w_X1_clear_b0 at h
  obtain ⟨hx, hb, -⟩ := id C
  intro H locs ls hR hS hl
  refine lv_aload_n hx hb dX1_clear_0 rfl (lv_at hl 0 rfl) ?_
  obtain ⟨hK_x0, h⟩ := h
  refine x_g_69 C hR hK_x0 q_9_2 dX1_clear_1 ?_
  obtain ⟨a101, ea101, h⟩ := h
  refine x_some ea101 ?_
  obtain ⟨hK_a101, h⟩ := h
  refine x_kv (x_runV (As := []) (rest := []) C hml hR hS (m_X0_end l gg a101 S h) b_X0_end q_19_19 (by rw [hK_a101]; decide) (s_E_1 hK_a101) rfl rfl rfl rfl ⟨Nat.le_of_ble_eq_true rfl, Nat.le_of_ble_eq_true rfl⟩ rfl hl.1 (Nat.le_of_ble_eq_true rfl) dX1_clear_4 ⟨Nat.le_refl _, Nat.le_refl _⟩) hS (fun S102 H locs hn hR hS => ?_)
  replace h := hn
  clear hn
  refine lv_iload_n hx hb dX1_clear_7 rfl (lv_at hl 1 rfl) ?_
  refine lv_if_eq (tgt := 24) hx hb dX1_clear_8 (by decide) (fun hc103 => ?_) (fun hc103 => ?_)
  · replace h := h.1 hc103
    refine lv_aload_n hx hb dX1_clear_24 rfl (lv_at hl 0 rfl) ?_
    obtain ⟨hK_x0, h⟩ := h
    refine x_g_69 C hR hK_x0 q_9_2 dX1_clear_25 ?_
    obtain ⟨a104, ea104, h⟩ := h
    refine x_some ea104 ?_
    refine lv_bipush (v := 50) hx hb dX1_clear_28 (by decide) ?_
    refine lv_aload_n hx hb dX1_clear_30 rfl (lv_at hl 0 rfl) ?_
    refine x_g_69 C hR hK_x0 q_9_2 dX1_clear_31 ?_
    obtain ⟨a105, ea105, h⟩ := h
    refine x_some ea105 ?_
    obtain ⟨hK_a105, h⟩ := h
    refine x_g_36 C hR hK_a105 q_19_17 dX1_clear_34 ?_
    refine lv_topi (fun x106 ex106 => ?_)
    replace h := h x106 ex106
    refine lv_bipush (v := 10) hx hb dX1_clear_37 (by decide) ?_
    refine lv_iadd hx hb dX1_clear_39 ?_
    refine lv_topi (fun x107 ex107 => ?_)
    replace h := h x107 ex107
    refine va_mmin hx hb (by rw [hml]; exact hl.1.symm) C.2.2.2.1 (C.2.2.1 _ q_19_18) (C.2.2.1 _ q_6_19) (C.2.2.1 _ q_5_17) (C.2.2.1 _ q_6_20) (Nat.le_of_ble_eq_true rfl) (Nat.le_of_ble_eq_true rfl) (Nat.zero_le _) (Nat.zero_le _) dX1_clear_40 ?_
    refine lv_topi (fun x108 ex108 => ?_)
    replace h := h x108 ex108
    obtain ⟨hK_a104, h⟩ := h
    refine x_p_36 (v := x108) C hR hK_a104 hS q_19_17 dX1_clear_43 (fun H locs hR hS => ?_)
    obtain ⟨S109, eS109⟩ : ∃ z : sT, z = s_sI S102 36 a104 x108 := ⟨_, rfl⟩
    rw [← eS109] at hR
    replace h := h S109 eS109
    have hK_x0 : s_K S109 x0 = 3 := by rw [eS109]; exact hK_x0
    have hK_a105 : s_K S109 a105 = 2 := by rw [eS109]; exact hK_a105
    have hK_a104 : s_K S109 a104 = 2 := by rw [eS109]; exact hK_a104
    exact t_X1_clear_b46 C hml hr hlocks  h H locs ls hR hS (lv_sub (l' := []) hl [] rfl)
  · replace h := h.2 hc103
    refine lv_aload_n hx hb dX1_clear_11 rfl (lv_at hl 0 rfl) ?_
    refine lv_dup hx hb dX1_clear_12 rfl ?_
    obtain ⟨hK_x0, h⟩ := h
    refine x_g_76 C hR hK_x0 q_19_16 dX1_clear_13 ?_
    refine lv_topi (fun x110 ex110 => ?_)
    replace h := h x110 ex110
    refine lv_iconst (v := 2) hx hb dX1_clear_16 (by decide) ?_
    refine lv_idiv hx hb dX1_clear_17 (by decide) ?_
    refine lv_topi (fun x111 ex111 => ?_)
    replace h := h x111 ex111
    refine x_p_76 (v := x111) C hR hK_x0 hS q_19_16 dX1_clear_18 (fun H locs hR hS => ?_)
    obtain ⟨S112, eS112⟩ : ∃ z : sT, z = s_sI S102 76 x0 x111 := ⟨_, rfl⟩
    rw [← eS112] at hR
    replace h := h S112 eS112
    have hK_x0 : s_K S112 x0 = 3 := by rw [eS112]; exact hK_x0
    refine lv_goto (tgt := 46) hx hb dX1_clear_21 (by decide) ?_
    exact t_X1_clear_b46 C hml hr hlocks  h H locs ls hR hS (lv_sub (l' := []) hl [] rfl)
theorem m_X1_clear (l : Launch) (gg : sG) (x0 : Nat) (x1 : Int32) (S : sT) {Q : sT → Prop} (h : w_X1_clear x0 x1 S Q) : x_Mv l gg yX1_clear (x_ws yX1_clear cX1_clear 2 none) r_X1_clear [.ref x0, .int x1] S Q 0 0 := by
  refine x_ofW (cc := cX1_clear) (own := RX1) (by decide +kernel) rfl (Nat.le_of_ble_eq_true rfl) ?_
  intro p e s m args below meth c C hml hr hlocks hin ht H locs ls hR hS hl
  exact t_X1_clear_b0 C hml hr hlocks h H locs ls hR hS (lv_sub (l' := [(0, .ref x0), (1, .int x1)]) hl [0, 1] rfl)
def w_X1_sendBelow_b33  (S : sT)  (Q : sT → Prop) : Prop :=
Q S
def w_X1_sendBelow_b0 (x0 : Nat) (x1 : Int32) (x2 : Nat) (S : sT)  (Q : sT → Prop) : Prop :=
s_K S x0 = 3 ∧
    ∀ r101 : Option Nat, r101 = s_R S 70 x0 →
    ((r101 = none → s_K S x2 = 5 ∧
    ∀ x104 : Int32, x104 = s_I S 131 x2 →
    ∀ x105 : Int32, x105 = x104 + x1 →
    ∀ S106 : sT, S106 = s_sI S 131 x2 x105 →
    w_X1_sendBelow_b33  S106  Q) ∧
    (∀ a102 : Nat, r101 = some a102 → ∀ r107 : Option Nat, r107 = s_R S 70 x0 →
    ∃ a108 : Nat, r107 = some a108 ∧
    s_K S a108 = 3 ∧
    ∀ x109 : Int32, x109 = s_I S 79 a108 →
    ∀ x110 : Int32, x110 = x109 + x1 →
    ∀ S111 : sT, S111 = s_sI S 79 a108 x110 →
    w_X1_sendBelow_b33  S111  Q))
def w_X1_sendBelow (x0 : Nat) (x1 : Int32) (x2 : Nat) (S : sT) (Q : sT → Prop) : Prop := w_X1_sendBelow_b0 x0 x1 x2 S Q
def r_X1_sendBelow : Room := x_rm 0 0 0 0
theorem b_X1_sendBelow : x_BV yX1_sendBelow cX1_sendBelow 3 none 2 := ⟨q_22_14, q_22_12, q_22_13, q_8_12, by decide +kernel⟩
set_option maxHeartbeats 4000000 in
theorem t_X1_sendBelow_b33 {Q : sT → Prop} (C : x_C p s m args c cX1_sendBelow RX1 gg) (hml : c.maxLocals = 3) (hr : meth.sig.returnType = none) (hlocks : meth.locks = false)   {S : sT}  (h : w_X1_sendBelow_b33  S  Q) : x_X p l e r_X1_sendBelow s m args below meth c gg 3 0 0 (MQ below (va_Qv Q (fun S1 t => s_Rep gg S1 t.heap) (s_A gg)) args s 0 0 (s_A gg)) 33 [] [] S := by
  unfold w_X1_sendBelow_b33 at h
  obtain ⟨hx, hb, -⟩ := id C
  intro H locs ls hR hS hl
  exact W.vret hx hb hr (fun t ht hW => ⟨⟨S, rfl, h, x_rt ht hR⟩, hS.F ht⟩) hS.2.2 dX1_sendBelow_33
set_option maxHeartbeats 4000000 in
theorem t_X1_sendBelow_b0 {Q : sT → Prop} (C : x_C p s m args c cX1_sendBelow RX1 gg) (hml : c.maxLocals = 3) (hr : meth.sig.returnType = none) (hlocks : meth.locks = false) {x0 : Nat} {x1 : Int32} {x2 : Nat}  {S : sT}  (h : w_X1_sendBelow_b0 x0 x1 x2 S  Q) : x_X p l e r_X1_sendBelow s m args below meth c gg 3 0 0 (MQ below (va_Qv Q (fun S1 t => s_Rep gg S1 t.heap) (s_A gg)) args s 0 0 (s_A gg)) 0 [(0, .ref x0), (1, .int x1), (2, .ref x2)] [] S := by
  unfold w_X1_sendBelow_b0 at h
  obtain ⟨hx, hb, -⟩ := id C
  intro H locs ls hR hS hl
  refine lv_aload_n hx hb dX1_sendBelow_0 rfl (lv_at hl 0 rfl) ?_
  obtain ⟨hK_x0, h⟩ := h
  refine x_g_70 C hR hK_x0 q_22_15 dX1_sendBelow_1 ?_
  refine x_topq (fun r101 er101 => ?_)
  replace h := h r101 er101
  refine x_ifnonnull (tgt := 20) hx hb dX1_sendBelow_4 (by decide) (fun a102 hc103 => ?_) (fun hc103 => ?_)
  · replace h := h.2 a102 hc103
    refine lv_aload_n hx hb dX1_sendBelow_20 rfl (lv_at hl 0 rfl) ?_
    refine x_g_70 C hR hK_x0 q_22_15 dX1_sendBelow_21 ?_
    refine x_topq (fun r107 er107 => ?_)
    replace h := h r107 er107
    refine lv_dup hx hb dX1_sendBelow_24 (va_rf_cat _) ?_
    obtain ⟨a108, za108, h⟩ := h
    have z2a108 : va_rf r107 = Value.ref a108 := by rw [za108]; rfl
    rw [z2a108]
    obtain ⟨hK_a108, h⟩ := h
    refine x_g_79 C hR hK_a108 q_22_6 dX1_sendBelow_25 ?_
    refine lv_topi (fun x109 ex109 => ?_)
    replace h := h x109 ex109
    refine lv_iload_n hx hb dX1_sendBelow_28 rfl (lv_at hl 1 rfl) ?_
    refine lv_iadd hx hb dX1_sendBelow_29 ?_
    refine lv_topi (fun x110 ex110 => ?_)
    replace h := h x110 ex110
    refine x_p_79 (v := x110) C hR hK_a108 hS q_22_6 dX1_sendBelow_30 (fun H locs hR hS => ?_)
    obtain ⟨S111, eS111⟩ : ∃ z : sT, z = s_sI S 79 a108 x110 := ⟨_, rfl⟩
    rw [← eS111] at hR
    replace h := h S111 eS111
    have hK_x0 : s_K S111 x0 = 3 := by rw [eS111]; exact hK_x0
    have hK_a108 : s_K S111 a108 = 3 := by rw [eS111]; exact hK_a108
    exact t_X1_sendBelow_b33 C hml hr hlocks  h H locs ls hR hS (lv_sub (l' := []) hl [] rfl)
  · replace h := h.1 hc103
    refine lv_aload_n hx hb dX1_sendBelow_7 rfl (lv_at hl 2 rfl) ?_
    refine lv_dup hx hb dX1_sendBelow_8 rfl ?_
    obtain ⟨hK_x2, h⟩ := h
    refine x_g_131 C hR hK_x2 q_22_16 dX1_sendBelow_9 ?_
    refine lv_topi (fun x104 ex104 => ?_)
    replace h := h x104 ex104
    refine lv_iload_n hx hb dX1_sendBelow_12 rfl (lv_at hl 1 rfl) ?_
    refine lv_iadd hx hb dX1_sendBelow_13 ?_
    refine lv_topi (fun x105 ex105 => ?_)
    replace h := h x105 ex105
    refine x_p_131 (v := x105) C hR hK_x2 hS q_22_16 dX1_sendBelow_14 (fun H locs hR hS => ?_)
    obtain ⟨S106, eS106⟩ : ∃ z : sT, z = s_sI S 131 x2 x105 := ⟨_, rfl⟩
    rw [← eS106] at hR
    replace h := h S106 eS106
    have hK_x0 : s_K S106 x0 = 3 := by rw [eS106]; exact hK_x0
    have hK_x2 : s_K S106 x2 = 5 := by rw [eS106]; exact hK_x2
    refine lv_goto (tgt := 33) hx hb dX1_sendBelow_17 (by decide) ?_
    exact t_X1_sendBelow_b33 C hml hr hlocks  h H locs ls hR hS (lv_sub (l' := []) hl [] rfl)
theorem m_X1_sendBelow (l : Launch) (gg : sG) (x0 : Nat) (x1 : Int32) (x2 : Nat) (S : sT) {Q : sT → Prop} (h : w_X1_sendBelow x0 x1 x2 S Q) : x_Mv l gg yX1_sendBelow (x_ws yX1_sendBelow cX1_sendBelow 3 none) r_X1_sendBelow [.ref x0, .int x1, .ref x2] S Q 0 0 := by
  refine x_ofW (cc := cX1_sendBelow) (own := RX1) (by decide +kernel) rfl (Nat.le_of_ble_eq_true rfl) ?_
  intro p e s m args below meth c C hml hr hlocks hin ht H locs ls hR hS hl
  exact t_X1_sendBelow_b0 C hml hr hlocks h H locs ls hR hS (lv_sub (l' := [(0, .ref x0), (1, .int x1), (2, .ref x2)]) hl [0, 1, 2] rfl)
def w_X1_passWater_b0 (x0 : Nat) (x1 : Int32) (x2 : Nat) (S : sT)  (Q : sT → Prop) : Prop :=
s_K S x0 = 3 ∧
    ∀ x101 : Int32, x101 = s_I S 73 x0 →
    ∀ x102 : Int32, x102 = s_I S 78 x0 →
    ∀ x103 : Int32, x103 = x102 + x1 →
    ∀ x104 : Int32, x104 = s_I S 79 x0 →
    ∀ x105 : Int32, x105 = x103 + x104 →
    ∀ x106 : Int32, x106 = x101 + x105 →
    ∀ S107 : sT, S107 = s_sI S 73 x0 x106 →
    ∀ S108 : sT, S108 = s_sI S107 79 x0 (0 : Int32) →
    ∀ x109 : Int32, x109 = s_I S108 73 x0 →
    ∀ x110 : Int32, x110 = s_I S108 67 x0 →
    ∀ x111 : Int32, x111 = x109 - x110 →
    ∀ x112 : Int32, x112 = s_max (0 : Int32) x111 →
    ∀ x113 : Int32, x113 = s_I S108 73 x0 →
    ∀ x114 : Int32, x114 = x113 - x112 →
    ∀ S115 : sT, S115 = s_sI S108 73 x0 x114 →
    ∀ x116 : Int32, x116 = s_I S115 74 x0 →
    ∀ x117 : Int32, x117 = (1 : Int32) + x116 →
    ∀ x118 : Int32, x118 = s_I S115 73 x0 →
    ∀ x119 : Int32, x119 = s_min x117 x118 →
    ∀ x120 : Int32, x120 = s_I S115 73 x0 →
    ∀ x121 : Int32, x121 = x120 - x119 →
    ∀ S122 : sT, S122 = s_sI S115 73 x0 x121 →
    ∀ x123 : Int32, x123 = x119 / (2 : Int32) →
    s_K S122 x2 = 5 ∧
    ∀ x124 : Int32, x124 = s_I S122 129 x2 →
    ∀ x125 : Int32, x125 = x119 - x123 →
    ∀ x126 : Int32, x126 = x124 + x125 →
    ∀ S127 : sT, S127 = s_sI S122 129 x2 x126 →
    ∀ x128 : Int32, x128 = x112 + x123 →
    w_X1_sendBelow x0 x128 x2 S127 (fun S129 =>
    s_K S129 x0 = 3 ∧
    ∃ a130 : Nat, s_R S129 69 x0 = some a130 ∧
    s_K S129 a130 = 2 ∧
    w_X0_thirst a130 S129 (fun x132 S131 =>
    s_K S131 x0 = 3 ∧
    ∀ x133 : Int32, x133 = s_I S131 73 x0 →
    ∀ x134 : Int32, x134 = s_min x132 x133 →
    ∀ x135 : Int32, x135 = s_I S131 73 x0 →
    ∀ x136 : Int32, x136 = x135 - x134 →
    ∀ S137 : sT, S137 = s_sI S131 73 x0 x136 →
    s_K S137 x2 = 5 ∧
    ∀ x138 : Int32, x138 = s_I S137 130 x2 →
    ∀ x139 : Int32, x139 = x138 + x134 →
    ∀ S140 : sT, S140 = s_sI S137 130 x2 x139 →
    Q S140))
def w_X1_passWater (x0 : Nat) (x1 : Int32) (x2 : Nat) (S : sT) (Q : sT → Prop) : Prop := w_X1_passWater_b0 x0 x1 x2 S Q
def r_X1_passWater : Room := x_rm 2 40 0 0
theorem b_X1_passWater : x_BV yX1_passWater cX1_passWater 7 none 2 := ⟨q_22_3, q_22_1, q_22_2, q_8_12, by decide +kernel⟩
set_option maxHeartbeats 4000000 in
theorem t_X1_passWater_b0 {Q : sT → Prop} (C : x_C p s m args c cX1_passWater RX1 gg) (hml : c.maxLocals = 7) (hr : meth.sig.returnType = none) (hlocks : meth.locks = false) {x0 : Nat} {x1 : Int32} {x2 : Nat}  {S : sT}  (h : w_X1_passWater_b0 x0 x1 x2 S  Q) : x_X p l e r_X1_passWater s m args below meth c gg 7 0 0 (MQ below (va_Qv Q (fun S1 t => s_Rep gg S1 t.heap) (s_A gg)) args s 0 0 (s_A gg)) 0 [(0, .ref x0), (1, .int x1), (2, .ref x2)] [] S := by
  unfold w_X1_passWater_b0 at h
  obtain ⟨hx, hb, -⟩ := id C
  intro H locs ls hR hS hl
  refine lv_aload_n hx hb dX1_passWater_0 rfl (lv_at hl 0 rfl) ?_
  refine lv_dup hx hb dX1_passWater_1 rfl ?_
  obtain ⟨hK_x0, h⟩ := h
  refine x_g_73 C hR hK_x0 q_22_4 dX1_passWater_2 ?_
  refine lv_topi (fun x101 ex101 => ?_)
  replace h := h x101 ex101
  refine lv_aload_n hx hb dX1_passWater_5 rfl (lv_at hl 0 rfl) ?_
  refine x_g_78 C hR hK_x0 q_22_5 dX1_passWater_6 ?_
  refine lv_topi (fun x102 ex102 => ?_)
  replace h := h x102 ex102
  refine lv_iload_n hx hb dX1_passWater_9 rfl (lv_at hl 1 rfl) ?_
  refine lv_iadd hx hb dX1_passWater_10 ?_
  refine lv_topi (fun x103 ex103 => ?_)
  replace h := h x103 ex103
  refine lv_aload_n hx hb dX1_passWater_11 rfl (lv_at hl 0 rfl) ?_
  refine x_g_79 C hR hK_x0 q_22_6 dX1_passWater_12 ?_
  refine lv_topi (fun x104 ex104 => ?_)
  replace h := h x104 ex104
  refine lv_iadd hx hb dX1_passWater_15 ?_
  refine lv_topi (fun x105 ex105 => ?_)
  replace h := h x105 ex105
  refine lv_iadd hx hb dX1_passWater_16 ?_
  refine lv_topi (fun x106 ex106 => ?_)
  replace h := h x106 ex106
  refine x_p_73 (v := x106) C hR hK_x0 hS q_22_4 dX1_passWater_17 (fun H locs hR hS => ?_)
  obtain ⟨S107, eS107⟩ : ∃ z : sT, z = s_sI S 73 x0 x106 := ⟨_, rfl⟩
  rw [← eS107] at hR
  replace h := h S107 eS107
  have hK_x0 : s_K S107 x0 = 3 := by rw [eS107]; exact hK_x0
  refine lv_aload_n hx hb dX1_passWater_20 rfl (lv_at hl 0 rfl) ?_
  refine lv_iconst (v := 0) hx hb dX1_passWater_21 (by decide) ?_
  refine x_p_79 (v := (0 : Int32)) C hR hK_x0 hS q_22_6 dX1_passWater_22 (fun H locs hR hS => ?_)
  obtain ⟨S108, eS108⟩ : ∃ z : sT, z = s_sI S107 79 x0 (0 : Int32) := ⟨_, rfl⟩
  rw [← eS108] at hR
  replace h := h S108 eS108
  have hK_x0 : s_K S108 x0 = 3 := by rw [eS108]; exact hK_x0
  refine lv_iconst (v := 0) hx hb dX1_passWater_25 (by decide) ?_
  refine lv_aload_n hx hb dX1_passWater_26 rfl (lv_at hl 0 rfl) ?_
  refine x_g_73 C hR hK_x0 q_22_4 dX1_passWater_27 ?_
  refine lv_topi (fun x109 ex109 => ?_)
  replace h := h x109 ex109
  refine lv_aload_n hx hb dX1_passWater_30 rfl (lv_at hl 0 rfl) ?_
  refine x_g_67 C hR hK_x0 q_9_6 dX1_passWater_31 ?_
  refine lv_topi (fun x110 ex110 => ?_)
  replace h := h x110 ex110
  refine lv_isub hx hb dX1_passWater_34 ?_
  refine lv_topi (fun x111 ex111 => ?_)
  replace h := h x111 ex111
  refine va_mmax hx hb (by rw [hml]; exact hl.1.symm) C.2.2.2.1 (C.2.2.1 _ q_22_7) (C.2.2.1 _ q_5_16) (C.2.2.1 _ q_5_17) (C.2.2.1 _ q_5_18) (Nat.le_of_ble_eq_true rfl) (Nat.le_of_ble_eq_true rfl) (Nat.zero_le _) (Nat.zero_le _) dX1_passWater_35 ?_
  refine lv_topi (fun x112 ex112 => ?_)
  replace h := h x112 ex112
  refine lv_istore_n (lv' := [(3, .int x112), (0, .ref x0), (1, .int x1), (2, .ref x2)]) hx hb dX1_passWater_38 rfl hl (by decide) rfl (fun ls hl => ?_)
  refine lv_aload_n hx hb dX1_passWater_39 rfl (lv_at hl 1 rfl) ?_
  refine lv_dup hx hb dX1_passWater_40 rfl ?_
  refine x_g_73 C hR hK_x0 q_22_4 dX1_passWater_41 ?_
  refine lv_topi (fun x113 ex113 => ?_)
  replace h := h x113 ex113
  refine lv_iload_n hx hb dX1_passWater_44 rfl (lv_at hl 0 rfl) ?_
  refine lv_isub hx hb dX1_passWater_45 ?_
  refine lv_topi (fun x114 ex114 => ?_)
  replace h := h x114 ex114
  refine x_p_73 (v := x114) C hR hK_x0 hS q_22_4 dX1_passWater_46 (fun H locs hR hS => ?_)
  obtain ⟨S115, eS115⟩ : ∃ z : sT, z = s_sI S108 73 x0 x114 := ⟨_, rfl⟩
  rw [← eS115] at hR
  replace h := h S115 eS115
  have hK_x0 : s_K S115 x0 = 3 := by rw [eS115]; exact hK_x0
  refine lv_iconst (v := 1) hx hb dX1_passWater_49 (by decide) ?_
  refine lv_aload_n hx hb dX1_passWater_50 rfl (lv_at hl 1 rfl) ?_
  refine x_g_74 C hR hK_x0 q_22_8 dX1_passWater_51 ?_
  refine lv_topi (fun x116 ex116 => ?_)
  replace h := h x116 ex116
  refine lv_iadd hx hb dX1_passWater_54 ?_
  refine lv_topi (fun x117 ex117 => ?_)
  replace h := h x117 ex117
  refine lv_aload_n hx hb dX1_passWater_55 rfl (lv_at hl 1 rfl) ?_
  refine x_g_73 C hR hK_x0 q_22_4 dX1_passWater_56 ?_
  refine lv_topi (fun x118 ex118 => ?_)
  replace h := h x118 ex118
  refine va_mmin hx hb (by rw [hml]; exact hl.1.symm) C.2.2.2.1 (C.2.2.1 _ q_19_18) (C.2.2.1 _ q_6_19) (C.2.2.1 _ q_5_17) (C.2.2.1 _ q_6_20) (Nat.le_of_ble_eq_true rfl) (Nat.le_of_ble_eq_true rfl) (Nat.zero_le _) (Nat.zero_le _) dX1_passWater_59 ?_
  refine lv_topi (fun x119 ex119 => ?_)
  replace h := h x119 ex119
  refine lv_istore (lv' := [(4, .int x119), (3, .int x112), (0, .ref x0), (1, .int x1), (2, .ref x2)]) hx hb dX1_passWater_62 hl (by decide) rfl (fun ls hl => ?_)
  refine lv_aload_n hx hb dX1_passWater_64 rfl (lv_at hl 2 rfl) ?_
  refine lv_dup hx hb dX1_passWater_65 rfl ?_
  refine x_g_73 C hR hK_x0 q_22_4 dX1_passWater_66 ?_
  refine lv_topi (fun x120 ex120 => ?_)
  replace h := h x120 ex120
  refine lv_iload hx hb dX1_passWater_69 (lv_at hl 0 rfl) ?_
  refine lv_isub hx hb dX1_passWater_71 ?_
  refine lv_topi (fun x121 ex121 => ?_)
  replace h := h x121 ex121
  refine x_p_73 (v := x121) C hR hK_x0 hS q_22_4 dX1_passWater_72 (fun H locs hR hS => ?_)
  obtain ⟨S122, eS122⟩ : ∃ z : sT, z = s_sI S115 73 x0 x121 := ⟨_, rfl⟩
  rw [← eS122] at hR
  replace h := h S122 eS122
  have hK_x0 : s_K S122 x0 = 3 := by rw [eS122]; exact hK_x0
  refine lv_iload hx hb dX1_passWater_75 (lv_at hl 0 rfl) ?_
  refine lv_iconst (v := 2) hx hb dX1_passWater_77 (by decide) ?_
  refine lv_idiv hx hb dX1_passWater_78 (by decide) ?_
  refine lv_topi (fun x123 ex123 => ?_)
  replace h := h x123 ex123
  refine lv_istore (lv' := [(5, .int x123), (4, .int x119), (3, .int x112), (0, .ref x0), (1, .int x1), (2, .ref x2)]) hx hb dX1_passWater_79 hl (by decide) rfl (fun ls hl => ?_)
  refine lv_aload_n hx hb dX1_passWater_81 rfl (lv_at hl 5 rfl) ?_
  refine lv_dup hx hb dX1_passWater_82 rfl ?_
  obtain ⟨hK_x2, h⟩ := h
  refine x_g_129 C hR hK_x2 q_22_9 dX1_passWater_83 ?_
  refine lv_topi (fun x124 ex124 => ?_)
  replace h := h x124 ex124
  refine lv_iload hx hb dX1_passWater_86 (lv_at hl 1 rfl) ?_
  refine lv_iload hx hb dX1_passWater_88 (lv_at hl 0 rfl) ?_
  refine lv_isub hx hb dX1_passWater_90 ?_
  refine lv_topi (fun x125 ex125 => ?_)
  replace h := h x125 ex125
  refine lv_iadd hx hb dX1_passWater_91 ?_
  refine lv_topi (fun x126 ex126 => ?_)
  replace h := h x126 ex126
  refine x_p_129 (v := x126) C hR hK_x2 hS q_22_9 dX1_passWater_92 (fun H locs hR hS => ?_)
  obtain ⟨S127, eS127⟩ : ∃ z : sT, z = s_sI S122 129 x2 x126 := ⟨_, rfl⟩
  rw [← eS127] at hR
  replace h := h S127 eS127
  have hK_x0 : s_K S127 x0 = 3 := by rw [eS127]; exact hK_x0
  have hK_x2 : s_K S127 x2 = 5 := by rw [eS127]; exact hK_x2
  refine lv_aload_n hx hb dX1_passWater_95 rfl (lv_at hl 3 rfl) ?_
  refine lv_iload_n hx hb dX1_passWater_96 rfl (lv_at hl 2 rfl) ?_
  refine lv_iload hx hb dX1_passWater_97 (lv_at hl 0 rfl) ?_
  refine lv_iadd hx hb dX1_passWater_99 ?_
  refine lv_topi (fun x128 ex128 => ?_)
  replace h := h x128 ex128
  refine lv_aload_n hx hb dX1_passWater_100 rfl (lv_at hl 5 rfl) ?_
  refine x_kv (x_runV (As := [.int x128, .ref x2]) (rest := []) C hml hR hS (m_X1_sendBelow l gg x0 x128 x2 S127 h) b_X1_sendBelow q_22_11 (by rw [hK_x0]; decide) (s_E_2 hK_x0) rfl rfl rfl rfl ⟨Nat.le_of_ble_eq_true rfl, Nat.le_of_ble_eq_true rfl⟩ rfl hl.1 (Nat.le_of_ble_eq_true rfl) dX1_passWater_101 ⟨Nat.le_refl _, Nat.le_refl _⟩) hS (fun S129 H locs hn hR hS => ?_)
  replace h := hn
  clear hn
  refine lv_aload_n hx hb dX1_passWater_104 rfl (lv_at hl 3 rfl) ?_
  obtain ⟨hK_x0, h⟩ := h
  refine x_g_69 C hR hK_x0 q_9_2 dX1_passWater_105 ?_
  obtain ⟨a130, ea130, h⟩ := h
  refine x_some ea130 ?_
  obtain ⟨hK_a130, h⟩ := h
  refine x_ki (x_runV (As := []) (rest := []) C hml hR hS (m_X0_thirst l gg a130 S129 h) b_X0_thirst q_22_17 (by rw [hK_a130]; decide) (s_E_1 hK_a130) rfl rfl rfl rfl ⟨Nat.le_of_ble_eq_true rfl, Nat.le_of_ble_eq_true rfl⟩ rfl hl.1 (Nat.le_of_ble_eq_true rfl) dX1_passWater_108 ⟨Nat.le_refl _, Nat.le_refl _⟩) hS (fun x132 S131 H locs hn hR hS => ?_)
  replace h := hn
  clear hn
  refine lv_aload_n hx hb dX1_passWater_111 rfl (lv_at hl 3 rfl) ?_
  obtain ⟨hK_x0, h⟩ := h
  refine x_g_73 C hR hK_x0 q_22_4 dX1_passWater_112 ?_
  refine lv_topi (fun x133 ex133 => ?_)
  replace h := h x133 ex133
  refine va_mmin hx hb (by rw [hml]; exact hl.1.symm) C.2.2.2.1 (C.2.2.1 _ q_19_18) (C.2.2.1 _ q_6_19) (C.2.2.1 _ q_5_17) (C.2.2.1 _ q_6_20) (Nat.le_of_ble_eq_true rfl) (Nat.le_of_ble_eq_true rfl) (Nat.zero_le _) (Nat.zero_le _) dX1_passWater_115 ?_
  refine lv_topi (fun x134 ex134 => ?_)
  replace h := h x134 ex134
  refine lv_istore (lv' := [(6, .int x134), (5, .int x123), (4, .int x119), (3, .int x112), (0, .ref x0), (1, .int x1), (2, .ref x2)]) hx hb dX1_passWater_118 hl (by decide) rfl (fun ls hl => ?_)
  refine lv_aload_n hx hb dX1_passWater_120 rfl (lv_at hl 4 rfl) ?_
  refine lv_dup hx hb dX1_passWater_121 rfl ?_
  refine x_g_73 C hR hK_x0 q_22_4 dX1_passWater_122 ?_
  refine lv_topi (fun x135 ex135 => ?_)
  replace h := h x135 ex135
  refine lv_iload hx hb dX1_passWater_125 (lv_at hl 0 rfl) ?_
  refine lv_isub hx hb dX1_passWater_127 ?_
  refine lv_topi (fun x136 ex136 => ?_)
  replace h := h x136 ex136
  refine x_p_73 (v := x136) C hR hK_x0 hS q_22_4 dX1_passWater_128 (fun H locs hR hS => ?_)
  obtain ⟨S137, eS137⟩ : ∃ z : sT, z = s_sI S131 73 x0 x136 := ⟨_, rfl⟩
  rw [← eS137] at hR
  replace h := h S137 eS137
  have hK_x0 : s_K S137 x0 = 3 := by rw [eS137]; exact hK_x0
  refine lv_aload_n hx hb dX1_passWater_131 rfl (lv_at hl 6 rfl) ?_
  refine lv_dup hx hb dX1_passWater_132 rfl ?_
  obtain ⟨hK_x2, h⟩ := h
  refine x_g_130 C hR hK_x2 q_22_10 dX1_passWater_133 ?_
  refine lv_topi (fun x138 ex138 => ?_)
  replace h := h x138 ex138
  refine lv_iload hx hb dX1_passWater_136 (lv_at hl 0 rfl) ?_
  refine lv_iadd hx hb dX1_passWater_138 ?_
  refine lv_topi (fun x139 ex139 => ?_)
  replace h := h x139 ex139
  refine x_p_130 (v := x139) C hR hK_x2 hS q_22_10 dX1_passWater_139 (fun H locs hR hS => ?_)
  obtain ⟨S140, eS140⟩ : ∃ z : sT, z = s_sI S137 130 x2 x139 := ⟨_, rfl⟩
  rw [← eS140] at hR
  replace h := h S140 eS140
  have hK_x0 : s_K S140 x0 = 3 := by rw [eS140]; exact hK_x0
  have hK_x2 : s_K S140 x2 = 5 := by rw [eS140]; exact hK_x2
  exact W.vret hx hb hr (fun t ht hW => ⟨⟨S140, rfl, h, x_rt ht hR⟩, hS.F ht⟩) hS.2.2 dX1_passWater_142
theorem m_X1_passWater (l : Launch) (gg : sG) (x0 : Nat) (x1 : Int32) (x2 : Nat) (S : sT) {Q : sT → Prop} (h : w_X1_passWater x0 x1 x2 S Q) : x_Mv l gg yX1_passWater (x_ws yX1_passWater cX1_passWater 7 none) r_X1_passWater [.ref x0, .int x1, .ref x2] S Q 0 0 := by
  refine x_ofW (cc := cX1_passWater) (own := RX1) (by decide +kernel) rfl (Nat.le_of_ble_eq_true rfl) ?_
  intro p e s m args below meth c C hml hr hlocks hin ht H locs ls hR hS hl
  exact t_X1_passWater_b0 C hml hr hlocks h H locs ls hR hS (lv_sub (l' := [(0, .ref x0), (1, .int x1), (2, .ref x2)]) hl [0, 1, 2] rfl)
def w_X1_dryOut_b46  (S : sT)  (Q : sT → Prop) : Prop :=
Q S
def w_X1_dryOut_b0 (x0 : Nat) (S : sT)  (Q : sT → Prop) : Prop :=
s_K S x0 = 3 ∧
    ∀ x101 : Int32, x101 = s_I S 73 x0 →
    ((x101 ≤ 0 → ∀ x103 : Int32, x103 = s_I S 75 x0 →
    ∀ x104 : Int32, x104 = x103 + (1 : Int32) →
    ∀ S105 : sT, S105 = s_sI S 75 x0 x104 →
    ∀ x106 : Int32, x106 = s_I S105 75 x0 →
    ∀ x107 : Int32, x107 = x106 - x106 / (3 : Int32) * (3 : Int32) →
    ((¬ x107 = 0 → w_X1_dryOut_b46  S105  Q) ∧
    (x107 = 0 → ∀ x109 : Int32, x109 = s_I S105 74 x0 →
    ∀ x110 : Int32, x110 = x109 + (1 : Int32) →
    ∀ x111 : Int32, x111 = s_min (3 : Int32) x110 →
    ∀ S112 : sT, S112 = s_sI S105 74 x0 x111 →
    w_X1_dryOut_b46  S112  Q))) ∧
    (¬ x101 ≤ 0 → ∀ S113 : sT, S113 = s_sI S 75 x0 (0 : Int32) →
    Q S113))
def w_X1_dryOut (x0 : Nat) (S : sT) (Q : sT → Prop) : Prop := w_X1_dryOut_b0 x0 S Q
def r_X1_dryOut : Room := x_rm 1 40 0 0
theorem b_X1_dryOut : x_BV yX1_dryOut cX1_dryOut 1 none 0 := ⟨q_23_2, q_23_0, q_23_1, q_8_12, by decide +kernel⟩
set_option maxHeartbeats 4000000 in
theorem t_X1_dryOut_b46 {Q : sT → Prop} (C : x_C p s m args c cX1_dryOut RX1 gg) (hml : c.maxLocals = 1) (hr : meth.sig.returnType = none) (hlocks : meth.locks = false)   {S : sT}  (h : w_X1_dryOut_b46  S  Q) : x_X p l e r_X1_dryOut s m args below meth c gg 1 0 0 (MQ below (va_Qv Q (fun S1 t => s_Rep gg S1 t.heap) (s_A gg)) args s 0 0 (s_A gg)) 46 [] [] S := by
  unfold w_X1_dryOut_b46 at h
  obtain ⟨hx, hb, -⟩ := id C
  intro H locs ls hR hS hl
  exact W.vret hx hb hr (fun t ht hW => ⟨⟨S, rfl, h, x_rt ht hR⟩, hS.F ht⟩) hS.2.2 dX1_dryOut_46
set_option maxHeartbeats 4000000 in
theorem t_X1_dryOut_b0 {Q : sT → Prop} (C : x_C p s m args c cX1_dryOut RX1 gg) (hml : c.maxLocals = 1) (hr : meth.sig.returnType = none) (hlocks : meth.locks = false) {x0 : Nat}  {S : sT}  (h : w_X1_dryOut_b0 x0 S  Q) : x_X p l e r_X1_dryOut s m args below meth c gg 1 0 0 (MQ below (va_Qv Q (fun S1 t => s_Rep gg S1 t.heap) (s_A gg)) args s 0 0 (s_A gg)) 0 [(0, .ref x0)] [] S := by
  unfold w_X1_dryOut_b0 at h
  obtain ⟨hx, hb, -⟩ := id C
  intro H locs ls hR hS hl
  refine lv_aload_n hx hb dX1_dryOut_0 rfl (lv_at hl 0 rfl) ?_
  obtain ⟨hK_x0, h⟩ := h
  refine x_g_73 C hR hK_x0 q_22_4 dX1_dryOut_1 ?_
  refine lv_topi (fun x101 ex101 => ?_)
  replace h := h x101 ex101
  refine lv_if_le (tgt := 13) hx hb dX1_dryOut_4 (by decide) (fun hc102 => ?_) (fun hc102 => ?_)
  · replace h := h.1 hc102
    refine lv_aload_n hx hb dX1_dryOut_13 rfl (lv_at hl 0 rfl) ?_
    refine lv_dup hx hb dX1_dryOut_14 rfl ?_
    refine x_g_75 C hR hK_x0 q_23_3 dX1_dryOut_15 ?_
    refine lv_topi (fun x103 ex103 => ?_)
    replace h := h x103 ex103
    refine lv_iconst (v := 1) hx hb dX1_dryOut_18 (by decide) ?_
    refine lv_iadd hx hb dX1_dryOut_19 ?_
    refine lv_topi (fun x104 ex104 => ?_)
    replace h := h x104 ex104
    refine x_p_75 (v := x104) C hR hK_x0 hS q_23_3 dX1_dryOut_20 (fun H locs hR hS => ?_)
    obtain ⟨S105, eS105⟩ : ∃ z : sT, z = s_sI S 75 x0 x104 := ⟨_, rfl⟩
    rw [← eS105] at hR
    replace h := h S105 eS105
    have hK_x0 : s_K S105 x0 = 3 := by rw [eS105]; exact hK_x0
    refine lv_aload_n hx hb dX1_dryOut_23 rfl (lv_at hl 0 rfl) ?_
    refine x_g_75 C hR hK_x0 q_23_3 dX1_dryOut_24 ?_
    refine lv_topi (fun x106 ex106 => ?_)
    replace h := h x106 ex106
    refine lv_iconst (v := 3) hx hb dX1_dryOut_27 (by decide) ?_
    refine lv_irem hx hb dX1_dryOut_28 (by decide) ?_
    refine lv_topi (fun x107 ex107 => ?_)
    replace h := h x107 ex107
    refine lv_if_ne (tgt := 46) hx hb dX1_dryOut_29 (by decide) (fun hc108 => ?_) (fun hc108 => ?_)
    · replace h := h.1 hc108
      exact t_X1_dryOut_b46 C hml hr hlocks  h H locs ls hR hS (lv_sub (l' := []) hl [] rfl)
    · replace h := h.2 hc108
      refine lv_aload_n hx hb dX1_dryOut_32 rfl (lv_at hl 0 rfl) ?_
      refine lv_iconst (v := 3) hx hb dX1_dryOut_33 (by decide) ?_
      refine lv_aload_n hx hb dX1_dryOut_34 rfl (lv_at hl 0 rfl) ?_
      refine x_g_74 C hR hK_x0 q_22_8 dX1_dryOut_35 ?_
      refine lv_topi (fun x109 ex109 => ?_)
      replace h := h x109 ex109
      refine lv_iconst (v := 1) hx hb dX1_dryOut_38 (by decide) ?_
      refine lv_iadd hx hb dX1_dryOut_39 ?_
      refine lv_topi (fun x110 ex110 => ?_)
      replace h := h x110 ex110
      refine va_mmin hx hb (by rw [hml]; exact hl.1.symm) C.2.2.2.1 (C.2.2.1 _ q_19_18) (C.2.2.1 _ q_6_19) (C.2.2.1 _ q_5_17) (C.2.2.1 _ q_6_20) (Nat.le_of_ble_eq_true rfl) (Nat.le_of_ble_eq_true rfl) (Nat.zero_le _) (Nat.zero_le _) dX1_dryOut_40 ?_
      refine lv_topi (fun x111 ex111 => ?_)
      replace h := h x111 ex111
      refine x_p_74 (v := x111) C hR hK_x0 hS q_22_8 dX1_dryOut_43 (fun H locs hR hS => ?_)
      obtain ⟨S112, eS112⟩ : ∃ z : sT, z = s_sI S105 74 x0 x111 := ⟨_, rfl⟩
      rw [← eS112] at hR
      replace h := h S112 eS112
      have hK_x0 : s_K S112 x0 = 3 := by rw [eS112]; exact hK_x0
      exact t_X1_dryOut_b46 C hml hr hlocks  h H locs ls hR hS (lv_sub (l' := []) hl [] rfl)
  · replace h := h.2 hc102
    refine lv_aload_n hx hb dX1_dryOut_7 rfl (lv_at hl 0 rfl) ?_
    refine lv_iconst (v := 0) hx hb dX1_dryOut_8 (by decide) ?_
    refine x_p_75 (v := (0 : Int32)) C hR hK_x0 hS q_23_3 dX1_dryOut_9 (fun H locs hR hS => ?_)
    obtain ⟨S113, eS113⟩ : ∃ z : sT, z = s_sI S 75 x0 (0 : Int32) := ⟨_, rfl⟩
    rw [← eS113] at hR
    replace h := h S113 eS113
    have hK_x0 : s_K S113 x0 = 3 := by rw [eS113]; exact hK_x0
    exact W.vret hx hb hr (fun t ht hW => ⟨⟨S113, rfl, h, x_rt ht hR⟩, hS.F ht⟩) hS.2.2 dX1_dryOut_12
theorem m_X1_dryOut (l : Launch) (gg : sG) (x0 : Nat) (S : sT) {Q : sT → Prop} (h : w_X1_dryOut x0 S Q) : x_Mv l gg yX1_dryOut (x_ws yX1_dryOut cX1_dryOut 1 none) r_X1_dryOut [.ref x0] S Q 0 0 := by
  refine x_ofW (cc := cX1_dryOut) (own := RX1) (by decide +kernel) rfl (Nat.le_of_ble_eq_true rfl) ?_
  intro p e s m args below meth c C hml hr hlocks hin ht H locs ls hR hS hl
  exact t_X1_dryOut_b0 C hml hr hlocks h H locs ls hR hS (lv_sub (l' := [(0, .ref x0)]) hl [0] rfl)
def w_X1_breedPests_b71 (x0 : Nat) (S : sT)  (Q : sT → Prop) : Prop :=
s_K S x0 = 3 ∧
    ∀ x101 : Int32, x101 = s_I S 76 x0 →
    ∀ x102 : Int32, x102 = s_min (99 : Int32) x101 →
    ∀ x103 : Int32, x103 = s_max (0 : Int32) x102 →
    ∀ S104 : sT, S104 = s_sI S 76 x0 x103 →
    Q S104
def w_X1_breedPests_b54 (x0 : Nat) (S : sT)  (Q : sT → Prop) : Prop :=
s_K S x0 = 3 ∧
    ∀ x101 : Int32, x101 = s_I S 77 x0 →
    ((x101 = 0 → w_X1_breedPests_b71 x0 S  Q) ∧
    (¬ x101 = 0 → ∀ x103 : Int32, x103 = s_I S 76 x0 →
    ∀ x104 : Int32, x104 = x103 - (4 : Int32) →
    ∀ S105 : sT, S105 = s_sI S 76 x0 x104 →
    w_X1_breedPests_b71 x0 S105  Q))
def w_X1_breedPests_b0 (x0 : Nat) (S : sT)  (Q : sT → Prop) : Prop :=
s_K S x0 = 3 ∧
    ∃ a101 : Nat, s_R S 69 x0 = some a101 ∧
    s_K S a101 = 2 ∧
    ∀ x102 : Int32, x102 = s_I S 32 a101 →
    w_X6_isOnTheStalk x102 S (fun x104 S103 =>
    ((x104 = 0 → s_K S103 x0 = 3 ∧
    ∃ a106 : Nat, s_R S103 69 x0 = some a106 ∧
    s_K S103 a106 = 2 ∧
    ∀ x107 : Int32, x107 = s_I S103 32 a106 →
    ((x107 = (5 : Int32) → w_X1_breedPests_b54 x0 S103  Q) ∧
    (¬ x107 = (5 : Int32) → ∀ x109 : Int32, x109 = s_I S103 76 x0 →
    ∀ x110 : Int32, x110 = x109 / (2 : Int32) →
    ∀ S111 : sT, S111 = s_sI S103 76 x0 x110 →
    w_X1_breedPests_b54 x0 S111  Q))) ∧
    (¬ x104 = 0 → s_K S103 x0 = 3 ∧
    ∀ x112 : Int32, x112 = s_I S103 76 x0 →
    ∀ x113 : Int32, x113 = s_I S103 76 x0 →
    ∀ x114 : Int32, x114 = x113 / (4 : Int32) →
    ∀ x115 : Int32, x115 = (1 : Int32) + x114 →
    ∀ x116 : Int32, x116 = x112 + x115 →
    ∀ S117 : sT, S117 = s_sI S103 76 x0 x116 →
    w_X1_breedPests_b54 x0 S117  Q)))
def w_X1_breedPests (x0 : Nat) (S : sT) (Q : sT → Prop) : Prop := w_X1_breedPests_b0 x0 S Q
def r_X1_breedPests : Room := x_rm 1 40 0 0
theorem b_X1_breedPests : x_BV yX1_breedPests cX1_breedPests 1 none 0 := ⟨q_23_19, q_23_17, q_23_18, q_8_12, by decide +kernel⟩
set_option maxHeartbeats 4000000 in
theorem t_X1_breedPests_b71 {Q : sT → Prop} (C : x_C p s m args c cX1_breedPests RX1 gg) (hml : c.maxLocals = 1) (hr : meth.sig.returnType = none) (hlocks : meth.locks = false) {x0 : Nat}  {S : sT}  (h : w_X1_breedPests_b71 x0 S  Q) : x_X p l e r_X1_breedPests s m args below meth c gg 1 0 0 (MQ below (va_Qv Q (fun S1 t => s_Rep gg S1 t.heap) (s_A gg)) args s 0 0 (s_A gg)) 71 [(0, .ref x0)] [] S := by
  unfold w_X1_breedPests_b71 at h
  obtain ⟨hx, hb, -⟩ := id C
  intro H locs ls hR hS hl
  refine lv_aload_n hx hb dX1_breedPests_71 rfl (lv_at hl 0 rfl) ?_
  refine lv_iconst (v := 0) hx hb dX1_breedPests_72 (by decide) ?_
  refine lv_bipush (v := 99) hx hb dX1_breedPests_73 (by decide) ?_
  refine lv_aload_n hx hb dX1_breedPests_75 rfl (lv_at hl 0 rfl) ?_
  obtain ⟨hK_x0, h⟩ := h
  refine x_g_76 C hR hK_x0 q_19_16 dX1_breedPests_76 ?_
  refine lv_topi (fun x101 ex101 => ?_)
  replace h := h x101 ex101
  refine va_mmin hx hb (by rw [hml]; exact hl.1.symm) C.2.2.2.1 (C.2.2.1 _ q_19_18) (C.2.2.1 _ q_6_19) (C.2.2.1 _ q_5_17) (C.2.2.1 _ q_6_20) (Nat.le_of_ble_eq_true rfl) (Nat.le_of_ble_eq_true rfl) (Nat.zero_le _) (Nat.zero_le _) dX1_breedPests_79 ?_
  refine lv_topi (fun x102 ex102 => ?_)
  replace h := h x102 ex102
  refine va_mmax hx hb (by rw [hml]; exact hl.1.symm) C.2.2.2.1 (C.2.2.1 _ q_22_7) (C.2.2.1 _ q_5_16) (C.2.2.1 _ q_5_17) (C.2.2.1 _ q_5_18) (Nat.le_of_ble_eq_true rfl) (Nat.le_of_ble_eq_true rfl) (Nat.zero_le _) (Nat.zero_le _) dX1_breedPests_82 ?_
  refine lv_topi (fun x103 ex103 => ?_)
  replace h := h x103 ex103
  refine x_p_76 (v := x103) C hR hK_x0 hS q_19_16 dX1_breedPests_85 (fun H locs hR hS => ?_)
  obtain ⟨S104, eS104⟩ : ∃ z : sT, z = s_sI S 76 x0 x103 := ⟨_, rfl⟩
  rw [← eS104] at hR
  replace h := h S104 eS104
  have hK_x0 : s_K S104 x0 = 3 := by rw [eS104]; exact hK_x0
  exact W.vret hx hb hr (fun t ht hW => ⟨⟨S104, rfl, h, x_rt ht hR⟩, hS.F ht⟩) hS.2.2 dX1_breedPests_88
set_option maxHeartbeats 4000000 in
theorem t_X1_breedPests_b54 {Q : sT → Prop} (C : x_C p s m args c cX1_breedPests RX1 gg) (hml : c.maxLocals = 1) (hr : meth.sig.returnType = none) (hlocks : meth.locks = false) {x0 : Nat}  {S : sT}  (h : w_X1_breedPests_b54 x0 S  Q) : x_X p l e r_X1_breedPests s m args below meth c gg 1 0 0 (MQ below (va_Qv Q (fun S1 t => s_Rep gg S1 t.heap) (s_A gg)) args s 0 0 (s_A gg)) 54 [(0, .ref x0)] [] S := by
  unfold w_X1_breedPests_b54 at h
  obtain ⟨hx, hb, -⟩ := id C
  intro H locs ls hR hS hl
  refine lv_aload_n hx hb dX1_breedPests_54 rfl (lv_at hl 0 rfl) ?_
  obtain ⟨hK_x0, h⟩ := h
  refine x_g_77 C hR hK_x0 q_23_21 dX1_breedPests_55 ?_
  refine lv_topi (fun x101 ex101 => ?_)
  replace h := h x101 ex101
  refine lv_if_eq (tgt := 71) hx hb dX1_breedPests_58 (by decide) (fun hc102 => ?_) (fun hc102 => ?_)
  · replace h := h.1 hc102
    exact t_X1_breedPests_b71 C hml hr hlocks  h H locs ls hR hS (lv_sub (l' := [(0, .ref x0)]) hl [0] rfl)
  · replace h := h.2 hc102
    refine lv_aload_n hx hb dX1_breedPests_61 rfl (lv_at hl 0 rfl) ?_
    refine lv_dup hx hb dX1_breedPests_62 rfl ?_
    refine x_g_76 C hR hK_x0 q_19_16 dX1_breedPests_63 ?_
    refine lv_topi (fun x103 ex103 => ?_)
    replace h := h x103 ex103
    refine lv_iconst (v := 4) hx hb dX1_breedPests_66 (by decide) ?_
    refine lv_isub hx hb dX1_breedPests_67 ?_
    refine lv_topi (fun x104 ex104 => ?_)
    replace h := h x104 ex104
    refine x_p_76 (v := x104) C hR hK_x0 hS q_19_16 dX1_breedPests_68 (fun H locs hR hS => ?_)
    obtain ⟨S105, eS105⟩ : ∃ z : sT, z = s_sI S 76 x0 x104 := ⟨_, rfl⟩
    rw [← eS105] at hR
    replace h := h S105 eS105
    have hK_x0 : s_K S105 x0 = 3 := by rw [eS105]; exact hK_x0
    exact t_X1_breedPests_b71 C hml hr hlocks  h H locs ls hR hS (lv_sub (l' := [(0, .ref x0)]) hl [0] rfl)
set_option maxHeartbeats 4000000 in
theorem t_X1_breedPests_b0 {Q : sT → Prop} (C : x_C p s m args c cX1_breedPests RX1 gg) (hml : c.maxLocals = 1) (hr : meth.sig.returnType = none) (hlocks : meth.locks = false) {x0 : Nat}  {S : sT}  (h : w_X1_breedPests_b0 x0 S  Q) : x_X p l e r_X1_breedPests s m args below meth c gg 1 0 0 (MQ below (va_Qv Q (fun S1 t => s_Rep gg S1 t.heap) (s_A gg)) args s 0 0 (s_A gg)) 0 [(0, .ref x0)] [] S := by
  unfold w_X1_breedPests_b0 at h
  obtain ⟨hx, hb, -⟩ := id C
  intro H locs ls hR hS hl
  refine lv_aload_n hx hb dX1_breedPests_0 rfl (lv_at hl 0 rfl) ?_
  obtain ⟨hK_x0, h⟩ := h
  refine x_g_69 C hR hK_x0 q_9_2 dX1_breedPests_1 ?_
  obtain ⟨a101, ea101, h⟩ := h
  refine x_some ea101 ?_
  obtain ⟨hK_a101, h⟩ := h
  refine x_g_32 C hR hK_a101 q_23_20 dX1_breedPests_4 ?_
  refine lv_topi (fun x102 ex102 => ?_)
  replace h := h x102 ex102
  refine x_ki (x_runSN (As := [.int x102]) (rest := []) (host := "Subakhall") C hml hR hS (m_X6_isOnTheStalk l gg x102 S h) b_X6_isOnTheStalk xm_5 rfl rfl ⟨Nat.le_of_ble_eq_true rfl, Nat.le_of_ble_eq_true rfl⟩ rfl hl.1 (Nat.le_of_ble_eq_true rfl) dX1_breedPests_7 ⟨Nat.le_refl _, Nat.le_refl _⟩) hS (fun x104 S103 H locs hn hR hS => ?_)
  replace h := hn
  clear hn
  refine lv_if_eq (tgt := 33) hx hb dX1_breedPests_10 (by decide) (fun hc105 => ?_) (fun hc105 => ?_)
  · replace h := h.1 hc105
    refine lv_aload_n hx hb dX1_breedPests_33 rfl (lv_at hl 0 rfl) ?_
    obtain ⟨hK_x0, h⟩ := h
    refine x_g_69 C hR hK_x0 q_9_2 dX1_breedPests_34 ?_
    obtain ⟨a106, ea106, h⟩ := h
    refine x_some ea106 ?_
    obtain ⟨hK_a106, h⟩ := h
    refine x_g_32 C hR hK_a106 q_23_20 dX1_breedPests_37 ?_
    refine lv_topi (fun x107 ex107 => ?_)
    replace h := h x107 ex107
    refine lv_iconst (v := 5) hx hb dX1_breedPests_40 (by decide) ?_
    refine lv_icmp_eq (tgt := 54) hx hb dX1_breedPests_41 (by decide) (fun hc108 => ?_) (fun hc108 => ?_)
    · replace h := h.1 hc108
      exact t_X1_breedPests_b54 C hml hr hlocks  h H locs ls hR hS (lv_sub (l' := [(0, .ref x0)]) hl [0] rfl)
    · replace h := h.2 hc108
      refine lv_aload_n hx hb dX1_breedPests_44 rfl (lv_at hl 0 rfl) ?_
      refine lv_dup hx hb dX1_breedPests_45 rfl ?_
      refine x_g_76 C hR hK_x0 q_19_16 dX1_breedPests_46 ?_
      refine lv_topi (fun x109 ex109 => ?_)
      replace h := h x109 ex109
      refine lv_iconst (v := 2) hx hb dX1_breedPests_49 (by decide) ?_
      refine lv_idiv hx hb dX1_breedPests_50 (by decide) ?_
      refine lv_topi (fun x110 ex110 => ?_)
      replace h := h x110 ex110
      refine x_p_76 (v := x110) C hR hK_x0 hS q_19_16 dX1_breedPests_51 (fun H locs hR hS => ?_)
      obtain ⟨S111, eS111⟩ : ∃ z : sT, z = s_sI S103 76 x0 x110 := ⟨_, rfl⟩
      rw [← eS111] at hR
      replace h := h S111 eS111
      have hK_x0 : s_K S111 x0 = 3 := by rw [eS111]; exact hK_x0
      have hK_a106 : s_K S111 a106 = 2 := by rw [eS111]; exact hK_a106
      exact t_X1_breedPests_b54 C hml hr hlocks  h H locs ls hR hS (lv_sub (l' := [(0, .ref x0)]) hl [0] rfl)
  · replace h := h.2 hc105
    refine lv_aload_n hx hb dX1_breedPests_13 rfl (lv_at hl 0 rfl) ?_
    refine lv_dup hx hb dX1_breedPests_14 rfl ?_
    obtain ⟨hK_x0, h⟩ := h
    refine x_g_76 C hR hK_x0 q_19_16 dX1_breedPests_15 ?_
    refine lv_topi (fun x112 ex112 => ?_)
    replace h := h x112 ex112
    refine lv_iconst (v := 1) hx hb dX1_breedPests_18 (by decide) ?_
    refine lv_aload_n hx hb dX1_breedPests_19 rfl (lv_at hl 0 rfl) ?_
    refine x_g_76 C hR hK_x0 q_19_16 dX1_breedPests_20 ?_
    refine lv_topi (fun x113 ex113 => ?_)
    replace h := h x113 ex113
    refine lv_iconst (v := 4) hx hb dX1_breedPests_23 (by decide) ?_
    refine lv_idiv hx hb dX1_breedPests_24 (by decide) ?_
    refine lv_topi (fun x114 ex114 => ?_)
    replace h := h x114 ex114
    refine lv_iadd hx hb dX1_breedPests_25 ?_
    refine lv_topi (fun x115 ex115 => ?_)
    replace h := h x115 ex115
    refine lv_iadd hx hb dX1_breedPests_26 ?_
    refine lv_topi (fun x116 ex116 => ?_)
    replace h := h x116 ex116
    refine x_p_76 (v := x116) C hR hK_x0 hS q_19_16 dX1_breedPests_27 (fun H locs hR hS => ?_)
    obtain ⟨S117, eS117⟩ : ∃ z : sT, z = s_sI S103 76 x0 x116 := ⟨_, rfl⟩
    rw [← eS117] at hR
    replace h := h S117 eS117
    have hK_x0 : s_K S117 x0 = 3 := by rw [eS117]; exact hK_x0
    refine lv_goto (tgt := 54) hx hb dX1_breedPests_30 (by decide) ?_
    exact t_X1_breedPests_b54 C hml hr hlocks  h H locs ls hR hS (lv_sub (l' := [(0, .ref x0)]) hl [0] rfl)
theorem m_X1_breedPests (l : Launch) (gg : sG) (x0 : Nat) (S : sT) {Q : sT → Prop} (h : w_X1_breedPests x0 S Q) : x_Mv l gg yX1_breedPests (x_ws yX1_breedPests cX1_breedPests 1 none) r_X1_breedPests [.ref x0] S Q 0 0 := by
  refine x_ofW (cc := cX1_breedPests) (own := RX1) (by decide +kernel) rfl (Nat.le_of_ble_eq_true rfl) ?_
  intro p e s m args below meth c C hml hr hlocks hin ht H locs ls hR hS hl
  exact t_X1_breedPests_b0 C hml hr hlocks h H locs ls hR hS (lv_sub (l' := [(0, .ref x0)]) hl [0] rfl)
def w_X1_settlePests_b0 (x0 : Nat) (S : sT)  (Q : sT → Prop) : Prop :=
s_K S x0 = 3 ∧
    ∀ x101 : Int32, x101 = s_I S 76 x0 →
    ∀ x102 : Int32, x102 = s_I S 80 x0 →
    ∀ x103 : Int32, x103 = x101 + x102 →
    ∀ x104 : Int32, x104 = s_min (99 : Int32) x103 →
    ∀ S105 : sT, S105 = s_sI S 76 x0 x104 →
    ∀ S106 : sT, S106 = s_sI S105 80 x0 (0 : Int32) →
    Q S106
def w_X1_settlePests (x0 : Nat) (S : sT) (Q : sT → Prop) : Prop := w_X1_settlePests_b0 x0 S Q
def r_X1_settlePests : Room := x_rm 1 40 0 0
theorem b_X1_settlePests : x_BV yX1_settlePests cX1_settlePests 1 none 0 := ⟨q_24_15, q_24_13, q_24_14, q_8_12, by decide +kernel⟩
set_option maxHeartbeats 4000000 in
theorem t_X1_settlePests_b0 {Q : sT → Prop} (C : x_C p s m args c cX1_settlePests RX1 gg) (hml : c.maxLocals = 1) (hr : meth.sig.returnType = none) (hlocks : meth.locks = false) {x0 : Nat}  {S : sT}  (h : w_X1_settlePests_b0 x0 S  Q) : x_X p l e r_X1_settlePests s m args below meth c gg 1 0 0 (MQ below (va_Qv Q (fun S1 t => s_Rep gg S1 t.heap) (s_A gg)) args s 0 0 (s_A gg)) 0 [(0, .ref x0)] [] S := by
  unfold w_X1_settlePests_b0 at h
  obtain ⟨hx, hb, -⟩ := id C
  intro H locs ls hR hS hl
  refine lv_aload_n hx hb dX1_settlePests_0 rfl (lv_at hl 0 rfl) ?_
  refine lv_bipush (v := 99) hx hb dX1_settlePests_1 (by decide) ?_
  refine lv_aload_n hx hb dX1_settlePests_3 rfl (lv_at hl 0 rfl) ?_
  obtain ⟨hK_x0, h⟩ := h
  refine x_g_76 C hR hK_x0 q_19_16 dX1_settlePests_4 ?_
  refine lv_topi (fun x101 ex101 => ?_)
  replace h := h x101 ex101
  refine lv_aload_n hx hb dX1_settlePests_7 rfl (lv_at hl 0 rfl) ?_
  refine x_g_80 C hR hK_x0 q_24_16 dX1_settlePests_8 ?_
  refine lv_topi (fun x102 ex102 => ?_)
  replace h := h x102 ex102
  refine lv_iadd hx hb dX1_settlePests_11 ?_
  refine lv_topi (fun x103 ex103 => ?_)
  replace h := h x103 ex103
  refine va_mmin hx hb (by rw [hml]; exact hl.1.symm) C.2.2.2.1 (C.2.2.1 _ q_19_18) (C.2.2.1 _ q_6_19) (C.2.2.1 _ q_5_17) (C.2.2.1 _ q_6_20) (Nat.le_of_ble_eq_true rfl) (Nat.le_of_ble_eq_true rfl) (Nat.zero_le _) (Nat.zero_le _) dX1_settlePests_12 ?_
  refine lv_topi (fun x104 ex104 => ?_)
  replace h := h x104 ex104
  refine x_p_76 (v := x104) C hR hK_x0 hS q_19_16 dX1_settlePests_15 (fun H locs hR hS => ?_)
  obtain ⟨S105, eS105⟩ : ∃ z : sT, z = s_sI S 76 x0 x104 := ⟨_, rfl⟩
  rw [← eS105] at hR
  replace h := h S105 eS105
  have hK_x0 : s_K S105 x0 = 3 := by rw [eS105]; exact hK_x0
  refine lv_aload_n hx hb dX1_settlePests_18 rfl (lv_at hl 0 rfl) ?_
  refine lv_iconst (v := 0) hx hb dX1_settlePests_19 (by decide) ?_
  refine x_p_80 (v := (0 : Int32)) C hR hK_x0 hS q_24_16 dX1_settlePests_20 (fun H locs hR hS => ?_)
  obtain ⟨S106, eS106⟩ : ∃ z : sT, z = s_sI S105 80 x0 (0 : Int32) := ⟨_, rfl⟩
  rw [← eS106] at hR
  replace h := h S106 eS106
  have hK_x0 : s_K S106 x0 = 3 := by rw [eS106]; exact hK_x0
  exact W.vret hx hb hr (fun t ht hW => ⟨⟨S106, rfl, h, x_rt ht hR⟩, hS.F ht⟩) hS.2.2 dX1_settlePests_23
theorem m_X1_settlePests (l : Launch) (gg : sG) (x0 : Nat) (S : sT) {Q : sT → Prop} (h : w_X1_settlePests x0 S Q) : x_Mv l gg yX1_settlePests (x_ws yX1_settlePests cX1_settlePests 1 none) r_X1_settlePests [.ref x0] S Q 0 0 := by
  refine x_ofW (cc := cX1_settlePests) (own := RX1) (by decide +kernel) rfl (Nat.le_of_ble_eq_true rfl) ?_
  intro p e s m args below meth c C hml hr hlocks hin ht H locs ls hR hS hl
  exact t_X1_settlePests_b0 C hml hr hlocks h H locs ls hR hS (lv_sub (l' := [(0, .ref x0)]) hl [0] rfl)
def w_X1_copyFrom_b0 (x0 : Nat) (x1 : Nat) (S : sT)  (Q : sT → Prop) : Prop :=
s_K S x1 = 3 ∧
    ∀ x101 : Int32, x101 = s_I S 71 x1 →
    s_K S x0 = 3 ∧
    ∀ S102 : sT, S102 = s_sI S 71 x0 x101 →
    ∀ x103 : Int32, x103 = s_I S102 72 x1 →
    (x103 = 0 ∨ x103 = 1) ∧
    ∀ S105 : sT, S105 = s_sI S102 72 x0 x103 →
    ∀ x106 : Int32, x106 = s_I S105 73 x1 →
    ∀ S107 : sT, S107 = s_sI S105 73 x0 x106 →
    ∀ x108 : Int32, x108 = s_I S107 74 x1 →
    ∀ S109 : sT, S109 = s_sI S107 74 x0 x108 →
    ∀ x110 : Int32, x110 = s_I S109 75 x1 →
    ∀ S111 : sT, S111 = s_sI S109 75 x0 x110 →
    ∀ x112 : Int32, x112 = s_I S111 76 x1 →
    ∀ S113 : sT, S113 = s_sI S111 76 x0 x112 →
    ∀ x114 : Int32, x114 = s_I S113 77 x1 →
    (x114 = 0 ∨ x114 = 1) ∧
    ∀ S116 : sT, S116 = s_sI S113 77 x0 x114 →
    ∃ a117 : Nat, s_R S116 68 x0 = some a117 ∧
    ∃ a118 : Nat, s_R S116 68 x1 = some a118 ∧
    s_K S116 a118 = 6 ∧
    ∀ x119 : Int32, x119 = s_I S116 160 a118 →
    s_K S116 a117 = 6 ∧
    ∀ S120 : sT, S120 = s_sI S116 160 a117 x119 →
    ∃ a121 : Nat, s_R S120 69 x0 = some a121 ∧
    ∃ a122 : Nat, s_R S120 69 x1 = some a122 ∧
    s_K S120 a121 = 2 ∧
    w_X0_copyFrom a121 a122 S120 (fun S123 =>
    Q S123)
def w_X1_copyFrom (x0 : Nat) (x1 : Nat) (S : sT) (Q : sT → Prop) : Prop := w_X1_copyFrom_b0 x0 x1 S Q
def r_X1_copyFrom : Room := x_rm 1 21 0 0
theorem b_X1_copyFrom : x_BV yX1_copyFrom cX1_copyFrom 2 none 1 := ⟨q_27_13, q_27_11, q_27_12, q_8_12, by decide +kernel⟩
set_option maxHeartbeats 4000000 in
theorem t_X1_copyFrom_b0 {Q : sT → Prop} (C : x_C p s m args c cX1_copyFrom RX1 gg) (hml : c.maxLocals = 2) (hr : meth.sig.returnType = none) (hlocks : meth.locks = false) {x0 : Nat} {x1 : Nat}  {S : sT}  (h : w_X1_copyFrom_b0 x0 x1 S  Q) : x_X p l e r_X1_copyFrom s m args below meth c gg 2 0 0 (MQ below (va_Qv Q (fun S1 t => s_Rep gg S1 t.heap) (s_A gg)) args s 0 0 (s_A gg)) 0 [(0, .ref x0), (1, .ref x1)] [] S := by
  unfold w_X1_copyFrom_b0 at h
  obtain ⟨hx, hb, -⟩ := id C
  intro H locs ls hR hS hl
  refine lv_aload_n hx hb dX1_copyFrom_0 rfl (lv_at hl 0 rfl) ?_
  refine lv_aload_n hx hb dX1_copyFrom_1 rfl (lv_at hl 1 rfl) ?_
  obtain ⟨hK_x1, h⟩ := h
  refine x_g_71 C hR hK_x1 q_21_23 dX1_copyFrom_2 ?_
  refine lv_topi (fun x101 ex101 => ?_)
  replace h := h x101 ex101
  obtain ⟨hK_x0, h⟩ := h
  refine x_p_71 (v := x101) C hR hK_x0 hS q_21_23 dX1_copyFrom_5 (fun H locs hR hS => ?_)
  obtain ⟨S102, eS102⟩ : ∃ z : sT, z = s_sI S 71 x0 x101 := ⟨_, rfl⟩
  rw [← eS102] at hR
  replace h := h S102 eS102
  have hK_x1 : s_K S102 x1 = 3 := by rw [eS102]; exact hK_x1
  have hK_x0 : s_K S102 x0 = 3 := by rw [eS102]; exact hK_x0
  refine lv_aload_n hx hb dX1_copyFrom_8 rfl (lv_at hl 0 rfl) ?_
  refine lv_aload_n hx hb dX1_copyFrom_9 rfl (lv_at hl 1 rfl) ?_
  refine x_g_72 C hR hK_x1 q_15_9 dX1_copyFrom_10 ?_
  refine lv_topi (fun x103 ex103 => ?_)
  replace h := h x103 ex103
  obtain ⟨hz104, h⟩ := h
  refine x_p_72 (v := x103) C hR hK_x0 hS (zb_n hz104) (zb_f hz104) q_15_9 dX1_copyFrom_13 (fun H locs hR hS => ?_)
  obtain ⟨S105, eS105⟩ : ∃ z : sT, z = s_sI S102 72 x0 x103 := ⟨_, rfl⟩
  rw [← eS105] at hR
  replace h := h S105 eS105
  have hK_x1 : s_K S105 x1 = 3 := by rw [eS105]; exact hK_x1
  have hK_x0 : s_K S105 x0 = 3 := by rw [eS105]; exact hK_x0
  refine lv_aload_n hx hb dX1_copyFrom_16 rfl (lv_at hl 0 rfl) ?_
  refine lv_aload_n hx hb dX1_copyFrom_17 rfl (lv_at hl 1 rfl) ?_
  refine x_g_73 C hR hK_x1 q_22_4 dX1_copyFrom_18 ?_
  refine lv_topi (fun x106 ex106 => ?_)
  replace h := h x106 ex106
  refine x_p_73 (v := x106) C hR hK_x0 hS q_22_4 dX1_copyFrom_21 (fun H locs hR hS => ?_)
  obtain ⟨S107, eS107⟩ : ∃ z : sT, z = s_sI S105 73 x0 x106 := ⟨_, rfl⟩
  rw [← eS107] at hR
  replace h := h S107 eS107
  have hK_x1 : s_K S107 x1 = 3 := by rw [eS107]; exact hK_x1
  have hK_x0 : s_K S107 x0 = 3 := by rw [eS107]; exact hK_x0
  refine lv_aload_n hx hb dX1_copyFrom_24 rfl (lv_at hl 0 rfl) ?_
  refine lv_aload_n hx hb dX1_copyFrom_25 rfl (lv_at hl 1 rfl) ?_
  refine x_g_74 C hR hK_x1 q_22_8 dX1_copyFrom_26 ?_
  refine lv_topi (fun x108 ex108 => ?_)
  replace h := h x108 ex108
  refine x_p_74 (v := x108) C hR hK_x0 hS q_22_8 dX1_copyFrom_29 (fun H locs hR hS => ?_)
  obtain ⟨S109, eS109⟩ : ∃ z : sT, z = s_sI S107 74 x0 x108 := ⟨_, rfl⟩
  rw [← eS109] at hR
  replace h := h S109 eS109
  have hK_x1 : s_K S109 x1 = 3 := by rw [eS109]; exact hK_x1
  have hK_x0 : s_K S109 x0 = 3 := by rw [eS109]; exact hK_x0
  refine lv_aload_n hx hb dX1_copyFrom_32 rfl (lv_at hl 0 rfl) ?_
  refine lv_aload_n hx hb dX1_copyFrom_33 rfl (lv_at hl 1 rfl) ?_
  refine x_g_75 C hR hK_x1 q_23_3 dX1_copyFrom_34 ?_
  refine lv_topi (fun x110 ex110 => ?_)
  replace h := h x110 ex110
  refine x_p_75 (v := x110) C hR hK_x0 hS q_23_3 dX1_copyFrom_37 (fun H locs hR hS => ?_)
  obtain ⟨S111, eS111⟩ : ∃ z : sT, z = s_sI S109 75 x0 x110 := ⟨_, rfl⟩
  rw [← eS111] at hR
  replace h := h S111 eS111
  have hK_x1 : s_K S111 x1 = 3 := by rw [eS111]; exact hK_x1
  have hK_x0 : s_K S111 x0 = 3 := by rw [eS111]; exact hK_x0
  refine lv_aload_n hx hb dX1_copyFrom_40 rfl (lv_at hl 0 rfl) ?_
  refine lv_aload_n hx hb dX1_copyFrom_41 rfl (lv_at hl 1 rfl) ?_
  refine x_g_76 C hR hK_x1 q_19_16 dX1_copyFrom_42 ?_
  refine lv_topi (fun x112 ex112 => ?_)
  replace h := h x112 ex112
  refine x_p_76 (v := x112) C hR hK_x0 hS q_19_16 dX1_copyFrom_45 (fun H locs hR hS => ?_)
  obtain ⟨S113, eS113⟩ : ∃ z : sT, z = s_sI S111 76 x0 x112 := ⟨_, rfl⟩
  rw [← eS113] at hR
  replace h := h S113 eS113
  have hK_x1 : s_K S113 x1 = 3 := by rw [eS113]; exact hK_x1
  have hK_x0 : s_K S113 x0 = 3 := by rw [eS113]; exact hK_x0
  refine lv_aload_n hx hb dX1_copyFrom_48 rfl (lv_at hl 0 rfl) ?_
  refine lv_aload_n hx hb dX1_copyFrom_49 rfl (lv_at hl 1 rfl) ?_
  refine x_g_77 C hR hK_x1 q_23_21 dX1_copyFrom_50 ?_
  refine lv_topi (fun x114 ex114 => ?_)
  replace h := h x114 ex114
  obtain ⟨hz115, h⟩ := h
  refine x_p_77 (v := x114) C hR hK_x0 hS (zb_n hz115) (zb_f hz115) q_23_21 dX1_copyFrom_53 (fun H locs hR hS => ?_)
  obtain ⟨S116, eS116⟩ : ∃ z : sT, z = s_sI S113 77 x0 x114 := ⟨_, rfl⟩
  rw [← eS116] at hR
  replace h := h S116 eS116
  have hK_x1 : s_K S116 x1 = 3 := by rw [eS116]; exact hK_x1
  have hK_x0 : s_K S116 x0 = 3 := by rw [eS116]; exact hK_x0
  refine lv_aload_n hx hb dX1_copyFrom_56 rfl (lv_at hl 0 rfl) ?_
  refine x_g_68 C hR hK_x0 q_8_22 dX1_copyFrom_57 ?_
  obtain ⟨a117, ea117, h⟩ := h
  refine x_some ea117 ?_
  refine lv_aload_n hx hb dX1_copyFrom_60 rfl (lv_at hl 1 rfl) ?_
  refine x_g_68 C hR hK_x1 q_8_22 dX1_copyFrom_61 ?_
  obtain ⟨a118, ea118, h⟩ := h
  refine x_some ea118 ?_
  obtain ⟨hK_a118, h⟩ := h
  refine x_g_160 C hR hK_a118 q_15_10 dX1_copyFrom_64 ?_
  refine lv_topi (fun x119 ex119 => ?_)
  replace h := h x119 ex119
  obtain ⟨hK_a117, h⟩ := h
  refine x_p_160 (v := x119) C hR hK_a117 hS q_15_10 dX1_copyFrom_67 (fun H locs hR hS => ?_)
  obtain ⟨S120, eS120⟩ : ∃ z : sT, z = s_sI S116 160 a117 x119 := ⟨_, rfl⟩
  rw [← eS120] at hR
  replace h := h S120 eS120
  have hK_x1 : s_K S120 x1 = 3 := by rw [eS120]; exact hK_x1
  have hK_x0 : s_K S120 x0 = 3 := by rw [eS120]; exact hK_x0
  have hK_a118 : s_K S120 a118 = 6 := by rw [eS120]; exact hK_a118
  have hK_a117 : s_K S120 a117 = 6 := by rw [eS120]; exact hK_a117
  refine lv_aload_n hx hb dX1_copyFrom_70 rfl (lv_at hl 0 rfl) ?_
  refine x_g_69 C hR hK_x0 q_9_2 dX1_copyFrom_71 ?_
  obtain ⟨a121, ea121, h⟩ := h
  refine x_some ea121 ?_
  refine lv_aload_n hx hb dX1_copyFrom_74 rfl (lv_at hl 1 rfl) ?_
  refine x_g_69 C hR hK_x1 q_9_2 dX1_copyFrom_75 ?_
  obtain ⟨a122, ea122, h⟩ := h
  refine x_some ea122 ?_
  obtain ⟨hK_a121, h⟩ := h
  refine x_kv (x_runV (As := [.ref a122]) (rest := []) C hml hR hS (m_X0_copyFrom l gg a121 a122 S120 h) b_X0_copyFrom q_27_14 (by rw [hK_a121]; decide) (s_E_1 hK_a121) rfl rfl rfl rfl ⟨Nat.le_of_ble_eq_true rfl, Nat.le_of_ble_eq_true rfl⟩ rfl hl.1 (Nat.le_of_ble_eq_true rfl) dX1_copyFrom_78 ⟨Nat.le_refl _, Nat.le_refl _⟩) hS (fun S123 H locs hn hR hS => ?_)
  replace h := hn
  clear hn
  exact W.vret hx hb hr (fun t ht hW => ⟨⟨S123, rfl, h, x_rt ht hR⟩, hS.F ht⟩) hS.2.2 dX1_copyFrom_81
theorem m_X1_copyFrom (l : Launch) (gg : sG) (x0 : Nat) (x1 : Nat) (S : sT) {Q : sT → Prop} (h : w_X1_copyFrom x0 x1 S Q) : x_Mv l gg yX1_copyFrom (x_ws yX1_copyFrom cX1_copyFrom 2 none) r_X1_copyFrom [.ref x0, .ref x1] S Q 0 0 := by
  refine x_ofW (cc := cX1_copyFrom) (own := RX1) (by decide +kernel) rfl (Nat.le_of_ble_eq_true rfl) ?_
  intro p e s m args below meth c C hml hr hlocks hin ht H locs ls hR hS hl
  exact t_X1_copyFrom_b0 C hml hr hlocks h H locs ls hR hS (lv_sub (l' := [(0, .ref x0), (1, .ref x1)]) hl [0, 1] rfl)
def w_Jx4a65c_size_8abf5_b0 (x0 : Nat) (S : sT)  (Q : Int32 → sT → Prop) : Prop :=
s_K S x0 = 1 ∧
    ∀ x101 : Int32, x101 = s_I S 2 x0 →
    Q x101 S
def w_Jx4a65c_size_8abf5 (x0 : Nat) (S : sT) (Q : Int32 → sT → Prop) : Prop := w_Jx4a65c_size_8abf5_b0 x0 S Q
def r_Jx4a65c_size_8abf5 : Room := x_rm 0 0 0 0
theorem b_Jx4a65c_size_8abf5 : x_BV yJx4a65c_size_8abf5 cJx4a65c_size_8abf5 1 (some .int) 0 := ⟨q_3_21, q_3_19, q_3_20, q_1_20, by decide +kernel⟩
set_option maxHeartbeats 4000000 in
theorem t_Jx4a65c_size_8abf5_b0 {Q : Int32 → sT → Prop} (C : x_C p s m args c cJx4a65c_size_8abf5 RJx4a65c gg) (hml : c.maxLocals = 1) (hr : meth.sig.returnType = (some .int)) (hlocks : meth.locks = false) {x0 : Nat}  {S : sT}  (h : w_Jx4a65c_size_8abf5_b0 x0 S  Q) : x_X p l e r_Jx4a65c_size_8abf5 s m args below meth c gg 1 0 0 (MQ below (va_Qi Q (fun S1 t => s_Rep gg S1 t.heap) (s_A gg)) args s 0 0 (s_A gg)) 0 [(0, .ref x0)] [] S := by
  unfold w_Jx4a65c_size_8abf5_b0 at h
  obtain ⟨hx, hb, -⟩ := id C
  intro H locs ls hR hS hl
  refine lv_aload_n hx hb dJx4a65c_size_8abf5_0 rfl (lv_at hl 0 rfl) ?_
  obtain ⟨hK_x0, h⟩ := h
  refine x_g_2 C hR hK_x0 q_3_22 dJx4a65c_size_8abf5_1 ?_
  refine lv_topi (fun x101 ex101 => ?_)
  replace h := h x101 ex101
  exact W.iret (v := x101) hx hb hr (fun t ht hW => ⟨⟨x101, S, rfl, h, x_rt ht hR⟩, hS.F ht⟩) hS.2.2 dJx4a65c_size_8abf5_4
theorem m_Jx4a65c_size_8abf5 (l : Launch) (gg : sG) (x0 : Nat) (S : sT) {Q : Int32 → sT → Prop} (h : w_Jx4a65c_size_8abf5 x0 S Q) : x_Mi l gg yJx4a65c_size_8abf5 (x_ws yJx4a65c_size_8abf5 cJx4a65c_size_8abf5 1 (some .int)) r_Jx4a65c_size_8abf5 [.ref x0] S Q 0 0 := by
  refine x_ofW (cc := cJx4a65c_size_8abf5) (own := RJx4a65c) (by decide +kernel) rfl (Nat.le_of_ble_eq_true rfl) ?_
  intro p e s m args below meth c C hml hr hlocks hin ht H locs ls hR hS hl
  exact t_Jx4a65c_size_8abf5_b0 C hml hr hlocks h H locs ls hR hS (lv_sub (l' := [(0, .ref x0)]) hl [0] rfl)
def w_Jx4a65c_isEmpty_aae02_b12 (y0 : Int32) (S : sT)  (Q : Int32 → sT → Prop) : Prop :=
(y0 = 0 ∨ y0 = 1) ∧
    Q y0 S
def w_Jx4a65c_isEmpty_aae02_b0 (x0 : Nat) (S : sT)  (Q : Int32 → sT → Prop) : Prop :=
s_K S x0 = 1 ∧
    ∀ x101 : Int32, x101 = s_I S 2 x0 →
    ((¬ x101 = 0 → w_Jx4a65c_isEmpty_aae02_b12 (0 : Int32) S  Q) ∧
    (x101 = 0 → w_Jx4a65c_isEmpty_aae02_b12 (1 : Int32) S  Q))
def w_Jx4a65c_isEmpty_aae02 (x0 : Nat) (S : sT) (Q : Int32 → sT → Prop) : Prop := w_Jx4a65c_isEmpty_aae02_b0 x0 S Q
def r_Jx4a65c_isEmpty_aae02 : Room := x_rm 0 0 0 0
theorem b_Jx4a65c_isEmpty_aae02 : x_BV yJx4a65c_isEmpty_aae02 cJx4a65c_isEmpty_aae02 1 (some .boolean) 0 := ⟨q_10_3, q_10_1, q_10_2, q_1_20, by decide +kernel⟩
set_option maxHeartbeats 4000000 in
theorem t_Jx4a65c_isEmpty_aae02_b12 {Q : Int32 → sT → Prop} (C : x_C p s m args c cJx4a65c_isEmpty_aae02 RJx4a65c gg) (hml : c.maxLocals = 1) (hr : meth.sig.returnType = (some .boolean)) (hlocks : meth.locks = false) {y0 : Int32}  {S : sT}  (h : w_Jx4a65c_isEmpty_aae02_b12 y0 S  Q) : x_X p l e r_Jx4a65c_isEmpty_aae02 s m args below meth c gg 1 0 0 (MQ below (va_Qi Q (fun S1 t => s_Rep gg S1 t.heap) (s_A gg)) args s 0 0 (s_A gg)) 12 [] [.int y0] S := by
  unfold w_Jx4a65c_isEmpty_aae02_b12 at h
  obtain ⟨hx, hb, -⟩ := id C
  intro H locs ls hR hS hl
  obtain ⟨hz101, h⟩ := h
  exact W.zret (v := y0) hx hb hr (zb_n hz101) (fun t ht hW => ⟨⟨y0, S, rfl, h, x_rt ht hR⟩, hS.F ht⟩) hS.2.2 dJx4a65c_isEmpty_aae02_12
set_option maxHeartbeats 4000000 in
theorem t_Jx4a65c_isEmpty_aae02_b0 {Q : Int32 → sT → Prop} (C : x_C p s m args c cJx4a65c_isEmpty_aae02 RJx4a65c gg) (hml : c.maxLocals = 1) (hr : meth.sig.returnType = (some .boolean)) (hlocks : meth.locks = false) {x0 : Nat}  {S : sT}  (h : w_Jx4a65c_isEmpty_aae02_b0 x0 S  Q) : x_X p l e r_Jx4a65c_isEmpty_aae02 s m args below meth c gg 1 0 0 (MQ below (va_Qi Q (fun S1 t => s_Rep gg S1 t.heap) (s_A gg)) args s 0 0 (s_A gg)) 0 [(0, .ref x0)] [] S := by
  unfold w_Jx4a65c_isEmpty_aae02_b0 at h
  obtain ⟨hx, hb, -⟩ := id C
  intro H locs ls hR hS hl
  refine lv_aload_n hx hb dJx4a65c_isEmpty_aae02_0 rfl (lv_at hl 0 rfl) ?_
  obtain ⟨hK_x0, h⟩ := h
  refine x_g_2 C hR hK_x0 q_3_22 dJx4a65c_isEmpty_aae02_1 ?_
  refine lv_topi (fun x101 ex101 => ?_)
  replace h := h x101 ex101
  refine lv_if_ne (tgt := 11) hx hb dJx4a65c_isEmpty_aae02_4 (by decide) (fun hc102 => ?_) (fun hc102 => ?_)
  · replace h := h.1 hc102
    refine lv_iconst (v := 0) hx hb dJx4a65c_isEmpty_aae02_11 (by decide) ?_
    exact t_Jx4a65c_isEmpty_aae02_b12 C hml hr hlocks  h H locs ls hR hS (lv_sub (l' := []) hl [] rfl)
  · replace h := h.2 hc102
    refine lv_iconst (v := 1) hx hb dJx4a65c_isEmpty_aae02_7 (by decide) ?_
    refine lv_goto (tgt := 12) hx hb dJx4a65c_isEmpty_aae02_8 (by decide) ?_
    exact t_Jx4a65c_isEmpty_aae02_b12 C hml hr hlocks  h H locs ls hR hS (lv_sub (l' := []) hl [] rfl)
theorem m_Jx4a65c_isEmpty_aae02 (l : Launch) (gg : sG) (x0 : Nat) (S : sT) {Q : Int32 → sT → Prop} (h : w_Jx4a65c_isEmpty_aae02 x0 S Q) : x_Mi l gg yJx4a65c_isEmpty_aae02 (x_ws yJx4a65c_isEmpty_aae02 cJx4a65c_isEmpty_aae02 1 (some .boolean)) r_Jx4a65c_isEmpty_aae02 [.ref x0] S Q 0 0 := by
  refine x_ofW (cc := cJx4a65c_isEmpty_aae02) (own := RJx4a65c) (by decide +kernel) rfl (Nat.le_of_ble_eq_true rfl) ?_
  intro p e s m args below meth c C hml hr hlocks hin ht H locs ls hR hS hl
  exact t_Jx4a65c_isEmpty_aae02_b0 C hml hr hlocks h H locs ls hR hS (lv_sub (l' := [(0, .ref x0)]) hl [0] rfl)
def w_J3_checkIndex_8e157_b9 (x0 : Int32) (x1 : Int32) (x2 : Option Nat) (S : sT)  (Q : Int32 → sT → Prop) : Prop :=
False
def w_J3_checkIndex_8e157_b0 (x0 : Int32) (x1 : Int32) (x2 : Option Nat) (S : sT)  (Q : Int32 → sT → Prop) : Prop :=
((x0 < 0 → w_J3_checkIndex_8e157_b9 x0 x1 x2 S  Q) ∧
    (¬ x0 < 0 → ((x0 < x1 → Q x0 S) ∧
    (¬ x0 < x1 → w_J3_checkIndex_8e157_b9 x0 x1 x2 S  Q))))
def w_J3_checkIndex_8e157 (x0 : Int32) (x1 : Int32) (x2 : Option Nat) (S : sT) (Q : Int32 → sT → Prop) : Prop := w_J3_checkIndex_8e157_b0 x0 x1 x2 S Q
def r_J3_checkIndex_8e157 : Room := x_rm 0 0 0 0
theorem b_J3_checkIndex_8e157 : x_BS yJ3_checkIndex_8e157 cJ3_checkIndex_8e157 3 (some .int) 3 := ⟨q_8_0, q_7_22, q_7_23, by decide +kernel⟩
set_option maxHeartbeats 4000000 in
theorem t_J3_checkIndex_8e157_b9 {Q : Int32 → sT → Prop} (C : x_C p s m args c cJ3_checkIndex_8e157 RJ3 gg) (hml : c.maxLocals = 3) (hr : meth.sig.returnType = (some .int)) (hlocks : meth.locks = false) {x0 : Int32} {x1 : Int32} {x2 : Option Nat}  {S : sT}  (h : w_J3_checkIndex_8e157_b9 x0 x1 x2 S  Q) : x_X p l e r_J3_checkIndex_8e157 s m args below meth c gg 3 0 0 (MQ below (va_Qi Q (fun S1 t => s_Rep gg S1 t.heap) (s_A gg)) args s 0 0 (s_A gg)) 9 [(0, .int x0), (1, .int x1), (2, va_rf x2)] [] S := by
  unfold w_J3_checkIndex_8e157_b9 at h
  obtain ⟨hx, hb, -⟩ := id C
  intro H locs ls hR hS hl
  refine x_aload_n hx hb dJ3_checkIndex_8e157_9 rfl (lv_at hl 2 rfl) ?_
  refine lv_iload_n hx hb dJ3_checkIndex_8e157_10 rfl (lv_at hl 0 rfl) ?_
  refine lv_iload_n hx hb dJ3_checkIndex_8e157_11 rfl (lv_at hl 1 rfl) ?_
  exact h.elim
set_option maxHeartbeats 4000000 in
theorem t_J3_checkIndex_8e157_b0 {Q : Int32 → sT → Prop} (C : x_C p s m args c cJ3_checkIndex_8e157 RJ3 gg) (hml : c.maxLocals = 3) (hr : meth.sig.returnType = (some .int)) (hlocks : meth.locks = false) {x0 : Int32} {x1 : Int32} {x2 : Option Nat}  {S : sT}  (h : w_J3_checkIndex_8e157_b0 x0 x1 x2 S  Q) : x_X p l e r_J3_checkIndex_8e157 s m args below meth c gg 3 0 0 (MQ below (va_Qi Q (fun S1 t => s_Rep gg S1 t.heap) (s_A gg)) args s 0 0 (s_A gg)) 0 [(0, .int x0), (1, .int x1), (2, va_rf x2)] [] S := by
  unfold w_J3_checkIndex_8e157_b0 at h
  obtain ⟨hx, hb, -⟩ := id C
  intro H locs ls hR hS hl
  refine lv_iload_n hx hb dJ3_checkIndex_8e157_0 rfl (lv_at hl 0 rfl) ?_
  refine lv_if_lt (tgt := 9) hx hb dJ3_checkIndex_8e157_1 (by decide) (fun hc101 => ?_) (fun hc101 => ?_)
  · replace h := h.1 hc101
    exact t_J3_checkIndex_8e157_b9 C hml hr hlocks  h H locs ls hR hS (lv_sub (l' := [(0, .int x0), (1, .int x1), (2, va_rf x2)]) hl [0, 1, 2] rfl)
  · replace h := h.2 hc101
    refine lv_iload_n hx hb dJ3_checkIndex_8e157_4 rfl (lv_at hl 0 rfl) ?_
    refine lv_iload_n hx hb dJ3_checkIndex_8e157_5 rfl (lv_at hl 1 rfl) ?_
    refine lv_icmp_lt (tgt := 16) hx hb dJ3_checkIndex_8e157_6 (by decide) (fun hc102 => ?_) (fun hc102 => ?_)
    · replace h := h.1 hc102
      refine lv_iload_n hx hb dJ3_checkIndex_8e157_16 rfl (lv_at hl 0 rfl) ?_
      exact W.iret (v := x0) hx hb hr (fun t ht hW => ⟨⟨x0, S, rfl, h, x_rt ht hR⟩, hS.F ht⟩) hS.2.2 dJ3_checkIndex_8e157_17
    · replace h := h.2 hc102
      exact t_J3_checkIndex_8e157_b9 C hml hr hlocks  h H locs ls hR hS (lv_sub (l' := [(0, .int x0), (1, .int x1), (2, va_rf x2)]) hl [0, 1, 2] rfl)
theorem m_J3_checkIndex_8e157 (l : Launch) (gg : sG) (x0 : Int32) (x1 : Int32) (x2 : Option Nat) (S : sT) {Q : Int32 → sT → Prop} (h : w_J3_checkIndex_8e157 x0 x1 x2 S Q) : x_Mi l gg yJ3_checkIndex_8e157 (x_ws yJ3_checkIndex_8e157 cJ3_checkIndex_8e157 3 (some .int)) r_J3_checkIndex_8e157 [.int x0, .int x1, va_rf x2] S Q 0 0 := by
  cases x2 <;> (
  refine x_ofW (cc := cJ3_checkIndex_8e157) (own := RJ3) (by decide +kernel) rfl (Nat.le_of_ble_eq_true rfl) ?_
  intro p e s m args below meth c C hml hr hlocks hin ht H locs ls hR hS hl
  exact t_J3_checkIndex_8e157_b0 C hml hr hlocks h H locs ls hR hS (lv_sub hl [0, 1, 2] rfl))
def w_J15_checkIndex_7cf53_b0 (x0 : Int32) (x1 : Int32) (S : sT)  (Q : Int32 → sT → Prop) : Prop :=
w_J3_checkIndex_8e157 x0 x1 none S (fun x102 S101 =>
    Q x102 S101)
def w_J15_checkIndex_7cf53 (x0 : Int32) (x1 : Int32) (S : sT) (Q : Int32 → sT → Prop) : Prop := w_J15_checkIndex_7cf53_b0 x0 x1 S Q
def r_J15_checkIndex_7cf53 : Room := x_rm 1 22 0 0
theorem b_J15_checkIndex_7cf53 : x_BS yJ15_checkIndex_7cf53 cJ15_checkIndex_7cf53 2 (some .int) 2 := ⟨q_7_20, q_7_18, q_7_19, by decide +kernel⟩
set_option maxHeartbeats 4000000 in
theorem t_J15_checkIndex_7cf53_b0 {Q : Int32 → sT → Prop} (C : x_C p s m args c cJ15_checkIndex_7cf53 RJ15 gg) (hml : c.maxLocals = 2) (hr : meth.sig.returnType = (some .int)) (hlocks : meth.locks = false) {x0 : Int32} {x1 : Int32}  {S : sT}  (h : w_J15_checkIndex_7cf53_b0 x0 x1 S  Q) : x_X p l e r_J15_checkIndex_7cf53 s m args below meth c gg 2 0 0 (MQ below (va_Qi Q (fun S1 t => s_Rep gg S1 t.heap) (s_A gg)) args s 0 0 (s_A gg)) 0 [(0, .int x0), (1, .int x1)] [] S := by
  unfold w_J15_checkIndex_7cf53_b0 at h
  obtain ⟨hx, hb, -⟩ := id C
  intro H locs ls hR hS hl
  refine lv_iload_n hx hb dJ15_checkIndex_7cf53_0 rfl (lv_at hl 0 rfl) ?_
  refine lv_iload_n hx hb dJ15_checkIndex_7cf53_1 rfl (lv_at hl 1 rfl) ?_
  refine lv_null hx hb dJ15_checkIndex_7cf53_2 ?_
  refine x_ki (x_runS (As := [.int x0, .int x1, va_rf none]) (rest := []) C hml hR hS (m_J3_checkIndex_8e157 l gg x0 x1 none S h) b_J3_checkIndex_8e157 q_7_21 rfl rfl ⟨Nat.le_of_ble_eq_true rfl, Nat.le_of_ble_eq_true rfl⟩ rfl hl.1 (Nat.le_of_ble_eq_true rfl) dJ15_checkIndex_7cf53_3 ⟨Nat.le_refl _, Nat.le_refl _⟩) hS (fun x102 S101 H locs hn hR hS => ?_)
  replace h := hn
  clear hn
  exact W.iret (v := x102) hx hb hr (fun t ht hW => ⟨⟨x102, S101, rfl, h, x_rt ht hR⟩, hS.F ht⟩) hS.2.2 dJ15_checkIndex_7cf53_6
theorem m_J15_checkIndex_7cf53 (l : Launch) (gg : sG) (x0 : Int32) (x1 : Int32) (S : sT) {Q : Int32 → sT → Prop} (h : w_J15_checkIndex_7cf53 x0 x1 S Q) : x_Mi l gg yJ15_checkIndex_7cf53 (x_ws yJ15_checkIndex_7cf53 cJ15_checkIndex_7cf53 2 (some .int)) r_J15_checkIndex_7cf53 [.int x0, .int x1] S Q 0 0 := by
  refine x_ofW (cc := cJ15_checkIndex_7cf53) (own := RJ15) (by decide +kernel) rfl (Nat.le_of_ble_eq_true rfl) ?_
  intro p e s m args below meth c C hml hr hlocks hin ht H locs ls hR hS hl
  exact t_J15_checkIndex_7cf53_b0 C hml hr hlocks h H locs ls hR hS (lv_sub (l' := [(0, .int x0), (1, .int x1)]) hl [0, 1] rfl)
def w_Jx4a65c_elementData_915e3_b0 (x0 : Nat) (x1 : Int32) (S : sT)  (Q : Nat → sT → Prop) : Prop :=
s_K S x0 = 1 ∧
    ∃ a101 : Nat, s_R S 1 x0 = some a101 ∧
    s_K S a101 = 12 ∧
    vp_in x1 (s_N S a101) ∧
    ∃ a103 : Nat, s_P S a101 (Int32.toNatClampNeg x1) = some a103 ∧
    Q a103 S
def w_Jx4a65c_elementData_915e3 (x0 : Nat) (x1 : Int32) (S : sT) (Q : Nat → sT → Prop) : Prop := w_Jx4a65c_elementData_915e3_b0 x0 x1 S Q
def r_Jx4a65c_elementData_915e3 : Room := x_rm 0 0 0 0
theorem b_Jx4a65c_elementData_915e3 : x_BV yJx4a65c_elementData_915e3 cJx4a65c_elementData_915e3 2 (some (.object "java/lang/Object")) 1 := ⟨q_8_4, q_8_2, q_8_3, q_1_20, by decide +kernel⟩
set_option maxHeartbeats 4000000 in
theorem t_Jx4a65c_elementData_915e3_b0 {Q : Nat → sT → Prop} (C : x_C p s m args c cJx4a65c_elementData_915e3 RJx4a65c gg) (hml : c.maxLocals = 2) (hr : meth.sig.returnType = (some (.object "java/lang/Object"))) (hlocks : meth.locks = false) {x0 : Nat} {x1 : Int32}  {S : sT}  (h : w_Jx4a65c_elementData_915e3_b0 x0 x1 S  Q) : x_X p l e r_Jx4a65c_elementData_915e3 s m args below meth c gg 2 0 0 (MQ below (va_Qq (fun r S1 => ∃ b : Nat, r = some b ∧ Q b S1) (fun S1 t => s_Rep gg S1 t.heap) (s_A gg)) args s 0 0 (s_A gg)) 0 [(0, .ref x0), (1, .int x1)] [] S := by
  unfold w_Jx4a65c_elementData_915e3_b0 at h
  obtain ⟨hx, hb, -⟩ := id C
  intro H locs ls hR hS hl
  refine lv_aload_n hx hb dJx4a65c_elementData_915e3_0 rfl (lv_at hl 0 rfl) ?_
  obtain ⟨hK_x0, h⟩ := h
  refine x_g_1 C hR hK_x0 q_2_7 dJx4a65c_elementData_915e3_1 ?_
  obtain ⟨a101, ea101, h⟩ := h
  refine x_some ea101 ?_
  refine lv_iload_n hx hb dJx4a65c_elementData_915e3_4 rfl (lv_at hl 1 rfl) ?_
  obtain ⟨hK_a101, h⟩ := h
  obtain ⟨hi102, a103, ea103, h⟩ := h
  refine x_aald12 C hR hK_a101 hi102 dJx4a65c_elementData_915e3_5 ?_
  refine x_some ea103 ?_
  exact W.aret (v := .ref a103) hx hb hr (Or.inl ⟨_, rfl⟩) (Or.inr ⟨_, rfl⟩) (fun t ht hW => ⟨⟨some a103, S, rfl, ⟨_, rfl, h⟩, x_rt ht hR⟩, hS.F ht⟩) hS.2.2 dJx4a65c_elementData_915e3_6
theorem m_Jx4a65c_elementData_915e3 (l : Launch) (gg : sG) (x0 : Nat) (x1 : Int32) (S : sT) {Q : Nat → sT → Prop} (h : w_Jx4a65c_elementData_915e3 x0 x1 S Q) : x_Mq l gg yJx4a65c_elementData_915e3 (x_ws yJx4a65c_elementData_915e3 cJx4a65c_elementData_915e3 2 (some (.object "java/lang/Object"))) r_Jx4a65c_elementData_915e3 [.ref x0, .int x1] S (fun r S1 => ∃ b : Nat, r = some b ∧ Q b S1) 0 0 := by
  refine x_ofW (cc := cJx4a65c_elementData_915e3) (own := RJx4a65c) (by decide +kernel) rfl (Nat.le_of_ble_eq_true rfl) ?_
  intro p e s m args below meth c C hml hr hlocks hin ht H locs ls hR hS hl
  exact t_Jx4a65c_elementData_915e3_b0 C hml hr hlocks h H locs ls hR hS (lv_sub (l' := [(0, .ref x0), (1, .int x1)]) hl [0, 1] rfl)
def w_Jx4a65c_get_915e3_b0 (x0 : Nat) (x1 : Int32) (S : sT)  (Q : Nat → sT → Prop) : Prop :=
s_K S x0 = 1 ∧
    ∀ x101 : Int32, x101 = s_I S 2 x0 →
    w_J15_checkIndex_7cf53 x1 x101 S (fun x103 S102 =>
    s_K S102 x0 = 1 ∧
    w_Jx4a65c_elementData_915e3 x0 x1 S102 (fun a105 S104 =>
    Q a105 S104))
def w_Jx4a65c_get_915e3 (x0 : Nat) (x1 : Int32) (S : sT) (Q : Nat → sT → Prop) : Prop := w_Jx4a65c_get_915e3_b0 x0 x1 S Q
def r_Jx4a65c_get_915e3 : Room := x_rm 2 43 0 0
theorem b_Jx4a65c_get_915e3 : x_BV yJx4a65c_get_915e3 cJx4a65c_get_915e3 2 (some (.object "java/lang/Object")) 1 := ⟨q_7_16, q_7_14, q_7_15, q_1_20, by decide +kernel⟩
set_option maxHeartbeats 4000000 in
theorem t_Jx4a65c_get_915e3_b0 {Q : Nat → sT → Prop} (C : x_C p s m args c cJx4a65c_get_915e3 RJx4a65c gg) (hml : c.maxLocals = 2) (hr : meth.sig.returnType = (some (.object "java/lang/Object"))) (hlocks : meth.locks = false) {x0 : Nat} {x1 : Int32}  {S : sT}  (h : w_Jx4a65c_get_915e3_b0 x0 x1 S  Q) : x_X p l e r_Jx4a65c_get_915e3 s m args below meth c gg 2 0 0 (MQ below (va_Qq (fun r S1 => ∃ b : Nat, r = some b ∧ Q b S1) (fun S1 t => s_Rep gg S1 t.heap) (s_A gg)) args s 0 0 (s_A gg)) 0 [(0, .ref x0), (1, .int x1)] [] S := by
  unfold w_Jx4a65c_get_915e3_b0 at h
  obtain ⟨hx, hb, -⟩ := id C
  intro H locs ls hR hS hl
  refine lv_iload_n hx hb dJx4a65c_get_915e3_0 rfl (lv_at hl 1 rfl) ?_
  refine lv_aload_n hx hb dJx4a65c_get_915e3_1 rfl (lv_at hl 0 rfl) ?_
  obtain ⟨hK_x0, h⟩ := h
  refine x_g_2 C hR hK_x0 q_3_22 dJx4a65c_get_915e3_2 ?_
  refine lv_topi (fun x101 ex101 => ?_)
  replace h := h x101 ex101
  refine x_ki (x_runS (As := [.int x1, .int x101]) (rest := []) C hml hR hS (m_J15_checkIndex_7cf53 l gg x1 x101 S h) b_J15_checkIndex_7cf53 q_7_17 rfl rfl ⟨Nat.le_of_ble_eq_true rfl, Nat.le_of_ble_eq_true rfl⟩ rfl hl.1 (Nat.le_of_ble_eq_true rfl) dJx4a65c_get_915e3_5 ⟨Nat.le_refl _, Nat.le_refl _⟩) hS (fun x103 S102 H locs hn hR hS => ?_)
  replace h := hn
  clear hn
  refine lv_pop hx hb dJx4a65c_get_915e3_8 rfl ?_
  refine lv_aload_n hx hb dJx4a65c_get_915e3_9 rfl (lv_at hl 0 rfl) ?_
  refine lv_iload_n hx hb dJx4a65c_get_915e3_10 rfl (lv_at hl 1 rfl) ?_
  obtain ⟨hK_x0, h⟩ := h
  refine x_kq (x_runV (As := [.int x1]) (rest := []) C hml hR hS (m_Jx4a65c_elementData_915e3 l gg x0 x1 S102 h) b_Jx4a65c_elementData_915e3 q_8_1 (by rw [hK_x0]; decide) (s_E_0 hK_x0) rfl rfl rfl rfl ⟨Nat.le_of_ble_eq_true rfl, Nat.le_of_ble_eq_true rfl⟩ rfl hl.1 (Nat.le_of_ble_eq_true rfl) dJx4a65c_get_915e3_11 ⟨Nat.le_refl _, Nat.le_refl _⟩) hS (fun ra105 S104 H locs hn hR hS => ?_)
  replace h := hn
  clear hn
  obtain ⟨a105, za105, h⟩ := h
  refine x_some za105 ?_
  exact W.aret (v := .ref a105) hx hb hr (Or.inl ⟨_, rfl⟩) (Or.inr ⟨_, rfl⟩) (fun t ht hW => ⟨⟨some a105, S104, rfl, ⟨_, rfl, h⟩, x_rt ht hR⟩, hS.F ht⟩) hS.2.2 dJx4a65c_get_915e3_14
theorem m_Jx4a65c_get_915e3 (l : Launch) (gg : sG) (x0 : Nat) (x1 : Int32) (S : sT) {Q : Nat → sT → Prop} (h : w_Jx4a65c_get_915e3 x0 x1 S Q) : x_Mq l gg yJx4a65c_get_915e3 (x_ws yJx4a65c_get_915e3 cJx4a65c_get_915e3 2 (some (.object "java/lang/Object"))) r_Jx4a65c_get_915e3 [.ref x0, .int x1] S (fun r S1 => ∃ b : Nat, r = some b ∧ Q b S1) 0 0 := by
  refine x_ofW (cc := cJx4a65c_get_915e3) (own := RJx4a65c) (by decide +kernel) rfl (Nat.le_of_ble_eq_true rfl) ?_
  intro p e s m args below meth c C hml hr hlocks hin ht H locs ls hR hS hl
  exact t_Jx4a65c_get_915e3_b0 C hml hr hlocks h H locs ls hR hS (lv_sub (l' := [(0, .ref x0), (1, .int x1)]) hl [0, 1] rfl)
def w_J9_floorMod_7cf53_b18 (x2 : Int32) (S : sT)  (Q : Int32 → sT → Prop) : Prop :=
Q x2 S
def w_J9_floorMod_7cf53_b0 (x0 : Int32) (x1 : Int32) (S : sT)  (Q : Int32 → sT → Prop) : Prop :=
¬ x1 = 0 ∧
    ∀ x102 : Int32, x102 = x0 - x0 / x1 * x1 →
    ∀ x103 : Int32, x103 = x0 ^^^ x1 →
    ((0 ≤ x103 → w_J9_floorMod_7cf53_b18 x102 S  Q) ∧
    (¬ 0 ≤ x103 → ((x102 = 0 → w_J9_floorMod_7cf53_b18 x102 S  Q) ∧
    (¬ x102 = 0 → ∀ x106 : Int32, x106 = x102 + x1 →
    Q x106 S))))
def w_J9_floorMod_7cf53 (x0 : Int32) (x1 : Int32) (S : sT) (Q : Int32 → sT → Prop) : Prop := w_J9_floorMod_7cf53_b0 x0 x1 S Q
def r_J9_floorMod_7cf53 : Room := x_rm 0 0 0 0
theorem b_J9_floorMod_7cf53 : x_BS yJ9_floorMod_7cf53 cJ9_floorMod_7cf53 3 (some .int) 2 := ⟨q_14_18, q_14_16, q_14_17, by decide +kernel⟩
set_option maxHeartbeats 4000000 in
theorem t_J9_floorMod_7cf53_b18 {Q : Int32 → sT → Prop} (C : x_C p s m args c cJ9_floorMod_7cf53 RJ9 gg) (hml : c.maxLocals = 3) (hr : meth.sig.returnType = (some .int)) (hlocks : meth.locks = false) {x2 : Int32}  {S : sT}  (h : w_J9_floorMod_7cf53_b18 x2 S  Q) : x_X p l e r_J9_floorMod_7cf53 s m args below meth c gg 3 0 0 (MQ below (va_Qi Q (fun S1 t => s_Rep gg S1 t.heap) (s_A gg)) args s 0 0 (s_A gg)) 18 [(2, .int x2)] [] S := by
  unfold w_J9_floorMod_7cf53_b18 at h
  obtain ⟨hx, hb, -⟩ := id C
  intro H locs ls hR hS hl
  refine lv_iload_n hx hb dJ9_floorMod_7cf53_18 rfl (lv_at hl 0 rfl) ?_
  exact W.iret (v := x2) hx hb hr (fun t ht hW => ⟨⟨x2, S, rfl, h, x_rt ht hR⟩, hS.F ht⟩) hS.2.2 dJ9_floorMod_7cf53_19
set_option maxHeartbeats 4000000 in
theorem t_J9_floorMod_7cf53_b0 {Q : Int32 → sT → Prop} (C : x_C p s m args c cJ9_floorMod_7cf53 RJ9 gg) (hml : c.maxLocals = 3) (hr : meth.sig.returnType = (some .int)) (hlocks : meth.locks = false) {x0 : Int32} {x1 : Int32}  {S : sT}  (h : w_J9_floorMod_7cf53_b0 x0 x1 S  Q) : x_X p l e r_J9_floorMod_7cf53 s m args below meth c gg 3 0 0 (MQ below (va_Qi Q (fun S1 t => s_Rep gg S1 t.heap) (s_A gg)) args s 0 0 (s_A gg)) 0 [(0, .int x0), (1, .int x1)] [] S := by
  unfold w_J9_floorMod_7cf53_b0 at h
  obtain ⟨hx, hb, -⟩ := id C
  intro H locs ls hR hS hl
  refine lv_iload_n hx hb dJ9_floorMod_7cf53_0 rfl (lv_at hl 0 rfl) ?_
  refine lv_iload_n hx hb dJ9_floorMod_7cf53_1 rfl (lv_at hl 1 rfl) ?_
  obtain ⟨hd101, h⟩ := h
  refine lv_irem hx hb dJ9_floorMod_7cf53_2 hd101 ?_
  refine lv_topi (fun x102 ex102 => ?_)
  replace h := h x102 ex102
  refine lv_istore_n (lv' := [(2, .int x102), (0, .int x0), (1, .int x1)]) hx hb dJ9_floorMod_7cf53_3 rfl hl (by decide) rfl (fun ls hl => ?_)
  refine lv_iload_n hx hb dJ9_floorMod_7cf53_4 rfl (lv_at hl 1 rfl) ?_
  refine lv_iload_n hx hb dJ9_floorMod_7cf53_5 rfl (lv_at hl 2 rfl) ?_
  refine lv_ixor hx hb dJ9_floorMod_7cf53_6 ?_
  refine lv_topi (fun x103 ex103 => ?_)
  replace h := h x103 ex103
  refine lv_if_ge (tgt := 18) hx hb dJ9_floorMod_7cf53_7 (by decide) (fun hc104 => ?_) (fun hc104 => ?_)
  · replace h := h.1 hc104
    exact t_J9_floorMod_7cf53_b18 C hml hr hlocks  h H locs ls hR hS (lv_sub (l' := [(2, .int x102)]) hl [0] rfl)
  · replace h := h.2 hc104
    refine lv_iload_n hx hb dJ9_floorMod_7cf53_10 rfl (lv_at hl 0 rfl) ?_
    refine lv_if_eq (tgt := 18) hx hb dJ9_floorMod_7cf53_11 (by decide) (fun hc105 => ?_) (fun hc105 => ?_)
    · replace h := h.1 hc105
      exact t_J9_floorMod_7cf53_b18 C hml hr hlocks  h H locs ls hR hS (lv_sub (l' := [(2, .int x102)]) hl [0] rfl)
    · replace h := h.2 hc105
      refine lv_iload_n hx hb dJ9_floorMod_7cf53_14 rfl (lv_at hl 0 rfl) ?_
      refine lv_iload_n hx hb dJ9_floorMod_7cf53_15 rfl (lv_at hl 2 rfl) ?_
      refine lv_iadd hx hb dJ9_floorMod_7cf53_16 ?_
      refine lv_topi (fun x106 ex106 => ?_)
      replace h := h x106 ex106
      exact W.iret (v := x106) hx hb hr (fun t ht hW => ⟨⟨x106, S, rfl, h, x_rt ht hR⟩, hS.F ht⟩) hS.2.2 dJ9_floorMod_7cf53_17
theorem m_J9_floorMod_7cf53 (l : Launch) (gg : sG) (x0 : Int32) (x1 : Int32) (S : sT) {Q : Int32 → sT → Prop} (h : w_J9_floorMod_7cf53 x0 x1 S Q) : x_Mi l gg yJ9_floorMod_7cf53 (x_ws yJ9_floorMod_7cf53 cJ9_floorMod_7cf53 3 (some .int)) r_J9_floorMod_7cf53 [.int x0, .int x1] S Q 0 0 := by
  refine x_ofW (cc := cJ9_floorMod_7cf53) (own := RJ9) (by decide +kernel) rfl (Nat.le_of_ble_eq_true rfl) ?_
  intro p e s m args below meth c C hml hr hlocks hin ht H locs ls hR hS hl
  exact t_J9_floorMod_7cf53_b0 C hml hr hlocks h H locs ls hR hS (lv_sub (l' := [(0, .int x0), (1, .int x1)]) hl [0, 1] rfl)
end
