section
variable {p : Program} {l : Launch} {e : Env} {s : State} {m : MethodId} {args : Array Value} {below : List Frame} {meth : Method} {c : Code} {gg : sG}
def w_J8_hugeLength_7cf53_b0 (x0 : Int32) (x1 : Int32) (S : sT)  (Q : Int32 → sT → Prop) : Prop :=
∀ x101 : Int32, x101 = x0 + x1 →
    ((0 ≤ x101 → (((2147483639 : Int32) < x101 → Q x101 S) ∧
    (¬ (2147483639 : Int32) < x101 → Q (2147483639 : Int32) S))) ∧
    (¬ 0 ≤ x101 → False))
def w_J8_hugeLength_7cf53 (x0 : Int32) (x1 : Int32) (S : sT) (Q : Int32 → sT → Prop) : Prop := w_J8_hugeLength_7cf53_b0 x0 x1 S Q
def r_J8_hugeLength_7cf53 : Room := x_rm 0 0 0 0
theorem b_J8_hugeLength_7cf53 : x_BS yJ8_hugeLength_7cf53 cJ8_hugeLength_7cf53 3 (some .int) 2 := ⟨q_6_4, q_6_3, q_5_22, by decide +kernel⟩
set_option maxHeartbeats 4000000 in
theorem t_J8_hugeLength_7cf53_b0 {Q : Int32 → sT → Prop} (C : x_C p s m args c cJ8_hugeLength_7cf53 RJ8 gg) (hml : c.maxLocals = 3) (hr : meth.sig.returnType = (some .int)) (hlocks : meth.locks = false) {x0 : Int32} {x1 : Int32}  {S : sT}  (h : w_J8_hugeLength_7cf53_b0 x0 x1 S  Q) : x_X p l e r_J8_hugeLength_7cf53 s m args below meth c gg 3 0 0 (MQ below (va_Qi Q (fun S1 t => s_Rep gg S1 t.heap) (s_A gg)) args s 0 0 (s_A gg)) 0 [(0, .int x0), (1, .int x1)] [] S := by
  unfold w_J8_hugeLength_7cf53_b0 at h
  obtain ⟨hx, hb, -⟩ := id C
  intro H locs ls hR hS hl
  refine lv_iload_n hx hb dJ8_hugeLength_7cf53_0 rfl (lv_at hl 0 rfl) ?_
  refine lv_iload_n hx hb dJ8_hugeLength_7cf53_1 rfl (lv_at hl 1 rfl) ?_
  refine lv_iadd hx hb dJ8_hugeLength_7cf53_2 ?_
  refine lv_topi (fun x101 ex101 => ?_)
  replace h := h x101 ex101
  refine lv_istore_n (lv' := [(2, .int x101), (0, .int x0), (1, .int x1)]) hx hb dJ8_hugeLength_7cf53_3 rfl hl (by decide) rfl (fun ls hl => ?_)
  refine lv_iload_n hx hb dJ8_hugeLength_7cf53_4 rfl (lv_at hl 0 rfl) ?_
  refine lv_if_ge (tgt := 49) hx hb dJ8_hugeLength_7cf53_5 (by decide) (fun hc102 => ?_) (fun hc102 => ?_)
  · replace h := h.1 hc102
    refine lv_iload_n hx hb dJ8_hugeLength_7cf53_49 rfl (lv_at hl 0 rfl) ?_
    refine lv_ldc hx hb C.2.2.2.1 (C.2.2.1 _ q_6_1) dJ8_hugeLength_7cf53_50 ?_
    refine lv_icmp_gt (tgt := 58) hx hb dJ8_hugeLength_7cf53_52 (by decide) (fun hc103 => ?_) (fun hc103 => ?_)
    · replace h := h.1 hc103
      refine lv_iload_n hx hb dJ8_hugeLength_7cf53_58 rfl (lv_at hl 0 rfl) ?_
      exact W.iret (v := x101) hx hb hr (fun t ht hW => ⟨⟨x101, S, rfl, h, x_rt ht hR⟩, hS.F ht⟩) hS.2.2 dJ8_hugeLength_7cf53_59
    · replace h := h.2 hc103
      refine lv_ldc hx hb C.2.2.2.1 (C.2.2.1 _ q_6_1) dJ8_hugeLength_7cf53_55 ?_
      exact W.iret (v := (2147483639 : Int32)) hx hb hr (fun t ht hW => ⟨⟨(2147483639 : Int32), S, rfl, h, x_rt ht hR⟩, hS.F ht⟩) hS.2.2 dJ8_hugeLength_7cf53_57
  · replace h := h.2 hc102
    exact h.elim
theorem m_J8_hugeLength_7cf53 (l : Launch) (gg : sG) (x0 : Int32) (x1 : Int32) (S : sT) {Q : Int32 → sT → Prop} (h : w_J8_hugeLength_7cf53 x0 x1 S Q) : x_Mi l gg yJ8_hugeLength_7cf53 (x_ws yJ8_hugeLength_7cf53 cJ8_hugeLength_7cf53 3 (some .int)) r_J8_hugeLength_7cf53 [.int x0, .int x1] S Q 0 0 := by
  refine x_ofW (cc := cJ8_hugeLength_7cf53) (own := RJ8) (by decide +kernel) rfl (Nat.le_of_ble_eq_true rfl) ?_
  intro p e s m args below meth c C hml hr hlocks hin ht H locs ls hR hS hl
  exact t_J8_hugeLength_7cf53_b0 C hml hr hlocks h H locs ls hR hS (lv_sub (l' := [(0, .int x0), (1, .int x1)]) hl [0, 1] rfl)
def w_J8_newLength_cabcc_b21 (x0 : Int32) (x1 : Int32) (S : sT)  (Q : Int32 → sT → Prop) : Prop :=
w_J8_hugeLength_7cf53 x0 x1 S (fun x102 S101 =>
    Q x102 S101)
def w_J8_newLength_cabcc_b0 (x0 : Int32) (x1 : Int32) (x2 : Int32) (S : sT)  (Q : Int32 → sT → Prop) : Prop :=
∀ x101 : Int32, x101 = s_max x1 x2 →
    ∀ x102 : Int32, x102 = x0 + x101 →
    ((x102 ≤ (0 : Int32) → w_J8_newLength_cabcc_b21 x0 x1 S  Q) ∧
    (¬ x102 ≤ (0 : Int32) → (((2147483639 : Int32) < x102 → w_J8_newLength_cabcc_b21 x0 x1 S  Q) ∧
    (¬ (2147483639 : Int32) < x102 → Q x102 S))))
def w_J8_newLength_cabcc (x0 : Int32) (x1 : Int32) (x2 : Int32) (S : sT) (Q : Int32 → sT → Prop) : Prop := w_J8_newLength_cabcc_b0 x0 x1 x2 S Q
def r_J8_newLength_cabcc : Room := x_rm 1 40 0 0
theorem b_J8_newLength_cabcc : x_BS yJ8_newLength_cabcc cJ8_newLength_cabcc 4 (some .int) 3 := ⟨q_5_23, q_5_21, q_5_22, by decide +kernel⟩
set_option maxHeartbeats 4000000 in
theorem t_J8_newLength_cabcc_b21 {Q : Int32 → sT → Prop} (C : x_C p s m args c cJ8_newLength_cabcc RJ8 gg) (hml : c.maxLocals = 4) (hr : meth.sig.returnType = (some .int)) (hlocks : meth.locks = false) {x0 : Int32} {x1 : Int32}  {S : sT}  (h : w_J8_newLength_cabcc_b21 x0 x1 S  Q) : x_X p l e r_J8_newLength_cabcc s m args below meth c gg 4 0 0 (MQ below (va_Qi Q (fun S1 t => s_Rep gg S1 t.heap) (s_A gg)) args s 0 0 (s_A gg)) 21 [(0, .int x0), (1, .int x1)] [] S := by
  unfold w_J8_newLength_cabcc_b21 at h
  obtain ⟨hx, hb, -⟩ := id C
  intro H locs ls hR hS hl
  refine lv_iload_n hx hb dJ8_newLength_cabcc_21 rfl (lv_at hl 0 rfl) ?_
  refine lv_iload_n hx hb dJ8_newLength_cabcc_22 rfl (lv_at hl 1 rfl) ?_
  refine x_ki (x_runS (As := [.int x0, .int x1]) (rest := []) C hml hR hS (m_J8_hugeLength_7cf53 l gg x0 x1 S h) b_J8_hugeLength_7cf53 q_6_2 rfl rfl ⟨Nat.le_of_ble_eq_true rfl, Nat.le_of_ble_eq_true rfl⟩ rfl hl.1 (Nat.le_of_ble_eq_true rfl) dJ8_newLength_cabcc_23 ⟨Nat.le_refl _, Nat.le_refl _⟩) hS (fun x102 S101 H locs hn hR hS => ?_)
  replace h := hn
  clear hn
  exact W.iret (v := x102) hx hb hr (fun t ht hW => ⟨⟨x102, S101, rfl, h, x_rt ht hR⟩, hS.F ht⟩) hS.2.2 dJ8_newLength_cabcc_26
set_option maxHeartbeats 4000000 in
theorem t_J8_newLength_cabcc_b0 {Q : Int32 → sT → Prop} (C : x_C p s m args c cJ8_newLength_cabcc RJ8 gg) (hml : c.maxLocals = 4) (hr : meth.sig.returnType = (some .int)) (hlocks : meth.locks = false) {x0 : Int32} {x1 : Int32} {x2 : Int32}  {S : sT}  (h : w_J8_newLength_cabcc_b0 x0 x1 x2 S  Q) : x_X p l e r_J8_newLength_cabcc s m args below meth c gg 4 0 0 (MQ below (va_Qi Q (fun S1 t => s_Rep gg S1 t.heap) (s_A gg)) args s 0 0 (s_A gg)) 0 [(0, .int x0), (1, .int x1), (2, .int x2)] [] S := by
  unfold w_J8_newLength_cabcc_b0 at h
  obtain ⟨hx, hb, -⟩ := id C
  intro H locs ls hR hS hl
  refine lv_iload_n hx hb dJ8_newLength_cabcc_0 rfl (lv_at hl 0 rfl) ?_
  refine lv_iload_n hx hb dJ8_newLength_cabcc_1 rfl (lv_at hl 1 rfl) ?_
  refine lv_iload_n hx hb dJ8_newLength_cabcc_2 rfl (lv_at hl 2 rfl) ?_
  refine va_mmax hx hb (by rw [hml]; exact hl.1.symm) C.2.2.2.1 (C.2.2.1 _ q_6_0) (C.2.2.1 _ q_5_16) (C.2.2.1 _ q_5_17) (C.2.2.1 _ q_5_18) (Nat.le_of_ble_eq_true rfl) (Nat.le_of_ble_eq_true rfl) (Nat.zero_le _) (Nat.zero_le _) dJ8_newLength_cabcc_3 ?_
  refine lv_topi (fun x101 ex101 => ?_)
  replace h := h x101 ex101
  refine lv_iadd hx hb dJ8_newLength_cabcc_6 ?_
  refine lv_topi (fun x102 ex102 => ?_)
  replace h := h x102 ex102
  refine lv_istore_n (lv' := [(3, .int x102), (0, .int x0), (1, .int x1), (2, .int x2)]) hx hb dJ8_newLength_cabcc_7 rfl hl (by decide) rfl (fun ls hl => ?_)
  refine lv_iconst (v := 0) hx hb dJ8_newLength_cabcc_8 (by decide) ?_
  refine lv_iload_n hx hb dJ8_newLength_cabcc_9 rfl (lv_at hl 0 rfl) ?_
  refine lv_icmp_ge (tgt := 21) hx hb dJ8_newLength_cabcc_10 (by decide) (fun hc103 => ?_) (fun hc103 => ?_)
  · replace h := h.1 hc103
    exact t_J8_newLength_cabcc_b21 C hml hr hlocks  h H locs ls hR hS (lv_sub (l' := [(0, .int x0), (1, .int x1)]) hl [1, 2] rfl)
  · replace h := h.2 hc103
    refine lv_iload_n hx hb dJ8_newLength_cabcc_13 rfl (lv_at hl 0 rfl) ?_
    refine lv_ldc hx hb C.2.2.2.1 (C.2.2.1 _ q_6_1) dJ8_newLength_cabcc_14 ?_
    refine lv_icmp_gt (tgt := 21) hx hb dJ8_newLength_cabcc_16 (by decide) (fun hc104 => ?_) (fun hc104 => ?_)
    · replace h := h.1 hc104
      exact t_J8_newLength_cabcc_b21 C hml hr hlocks  h H locs ls hR hS (lv_sub (l' := [(0, .int x0), (1, .int x1)]) hl [1, 2] rfl)
    · replace h := h.2 hc104
      refine lv_iload_n hx hb dJ8_newLength_cabcc_19 rfl (lv_at hl 0 rfl) ?_
      exact W.iret (v := x102) hx hb hr (fun t ht hW => ⟨⟨x102, S, rfl, h, x_rt ht hR⟩, hS.F ht⟩) hS.2.2 dJ8_newLength_cabcc_20
theorem m_J8_newLength_cabcc (l : Launch) (gg : sG) (x0 : Int32) (x1 : Int32) (x2 : Int32) (S : sT) {Q : Int32 → sT → Prop} (h : w_J8_newLength_cabcc x0 x1 x2 S Q) : x_Mi l gg yJ8_newLength_cabcc (x_ws yJ8_newLength_cabcc cJ8_newLength_cabcc 4 (some .int)) r_J8_newLength_cabcc [.int x0, .int x1, .int x2] S Q 0 0 := by
  refine x_ofW (cc := cJ8_newLength_cabcc) (own := RJ8) (by decide +kernel) rfl (Nat.le_of_ble_eq_true rfl) ?_
  intro p e s m args below meth c C hml hr hlocks hin ht H locs ls hR hS hl
  exact t_J8_newLength_cabcc_b0 C hml hr hlocks h H locs ls hR hS (lv_sub (l' := [(0, .int x0), (1, .int x1), (2, .int x2)]) hl [0, 1, 2] rfl)
def wA_J7_copyOf_6403c_b24 (mc ms kc ks : Nat) (x0 : Nat) (x1 : Int32) (y0 : Nat) (S : sT)  (Q : Nat → sT → Prop) : Prop :=
(s_K S x0 = 12 ∨ s_R S 9998 0 = some x0) ∧
    ∀ x102 : Int32, x102 = nI (if s_K S x0 = 12 then s_N S x0 else 0) →
    ∀ x103 : Int32, x103 = s_min x102 x1 →
    s_K S x0 = 12 ∧
    s_K S y0 = 12 ∧
    ¬ (0 : Int32) < 0 ∧ ¬ (0 : Int32) < 0 ∧ ¬ x103 < 0 ∧ Int32.toNatClampNeg (0 : Int32) + Int32.toNatClampNeg x103 ≤ s_N S x0 ∧ Int32.toNatClampNeg (0 : Int32) + Int32.toNatClampNeg x103 ≤ s_N S y0 ∧ (∀ i : Nat, i < Int32.toNatClampNeg x103 → ∀ y : Nat, s_P S x0 (Int32.toNatClampNeg (0 : Int32) + i) = some y → s_K S y = 3) ∧
    ∀ S110 : sT, S110 = s_cP S x0 y0 (Int32.toNatClampNeg (0 : Int32)) (Int32.toNatClampNeg (0 : Int32)) (Int32.toNatClampNeg x103) →
    Q y0 S110
def wA_J7_copyOf_6403c_b0 (mc ms kc ks : Nat) (x0 : Nat) (x1 : Int32) (x2 : Nat) (S : sT)  (Q : Nat → sT → Prop) : Prop :=
∃ a101 : Nat, s_R S 9999 0 = some a101 ∧
    ((¬ some x2 = some a101 → False) ∧
    (some x2 = some a101 → ¬ x1 < 0 ∧ (Int32.toNatClampNeg x1) * 4 ≤ 536870912 ∧
    (kc + 1) ≤ mc ∧ (ks + (Int32.toNatClampNeg x1)) ≤ ms ∧
    ∀ q105 : Nat, s_fr S q105 →
    ∀ S106 : sT, S106 = s_nw S q105 12 (Int32.toNatClampNeg x1) →
    wA_J7_copyOf_6403c_b24 mc ms (kc + 1) (ks + (Int32.toNatClampNeg x1)) x0 x1 q105 S106  Q))
def wA_J7_copyOf_6403c (mc ms : Nat) (x0 : Nat) (x1 : Int32) (x2 : Nat) (S : sT) (Q : Nat → sT → Prop) : Prop := wA_J7_copyOf_6403c_b0 mc ms 0 0 x0 x1 x2 S Q
def rA_J7_copyOf_6403c (mc ms : Nat) : Room := x_rm 1 60 mc ms
theorem b_J7_copyOf_6403c : x_BS yJ7_copyOf_6403c cJ7_copyOf_6403c 4 (some (.array (.object "java/lang/Object"))) 3 := ⟨q_6_15, q_6_14, q_6_7, by decide +kernel⟩
set_option maxHeartbeats 4000000 in
theorem tA_J7_copyOf_6403c_b24 {Q : Nat → sT → Prop} (C : x_C p s m args c cJ7_copyOf_6403c RJ7 gg) (hml : c.maxLocals = 4) (hr : meth.sig.returnType = (some (.array (.object "java/lang/Object")))) (hlocks : meth.locks = false) {mc ms kc ks : Nat} (hk : kc ≤ mc ∧ ks ≤ ms) {x0 : Nat} {x1 : Int32} {y0 : Nat}  {S : sT}  (h : wA_J7_copyOf_6403c_b24 mc ms kc ks x0 x1 y0 S  Q) : x_X p l e (rA_J7_copyOf_6403c mc ms) s m args below meth c gg 4 kc ks (MQ below (va_Qq (fun r S1 => ∃ b : Nat, r = some b ∧ Q b S1) (fun S1 t => s_Rep gg S1 t.heap) (s_A gg)) args s mc ms (s_A gg)) 24 [(0, .ref x0), (1, .int x1)] [.ref y0] S := by
  unfold wA_J7_copyOf_6403c_b24 at h
  obtain ⟨hx, hb, -⟩ := id C
  intro H locs ls hR hS hl
  refine lv_astore_n (lv' := [(3, .ref y0), (0, .ref x0), (1, .int x1)]) hx hb dJ7_copyOf_6403c_24 rfl hl (by decide) rfl (fun ls hl => ?_)
  refine lv_aload_n hx hb dJ7_copyOf_6403c_25 rfl (lv_at hl 1 rfl) ?_
  refine lv_iconst (v := 0) hx hb dJ7_copyOf_6403c_26 (by decide) ?_
  refine lv_aload_n hx hb dJ7_copyOf_6403c_27 rfl (lv_at hl 0 rfl) ?_
  refine lv_iconst (v := 0) hx hb dJ7_copyOf_6403c_28 (by decide) ?_
  refine lv_aload_n hx hb dJ7_copyOf_6403c_29 rfl (lv_at hl 1 rfl) ?_
  obtain ⟨hl101, h⟩ := h
  refine x_alenD C hR hS hl101 dJ7_copyOf_6403c_30 ?_
  refine lv_topi (fun x102 ex102 => ?_)
  replace h := h x102 ex102
  refine lv_iload_n hx hb dJ7_copyOf_6403c_31 rfl (lv_at hl 2 rfl) ?_
  refine va_mmin hx hb (by rw [hml]; exact hl.1.symm) C.2.2.2.1 (C.2.2.1 _ q_6_18) (C.2.2.1 _ q_6_19) (C.2.2.1 _ q_5_17) (C.2.2.1 _ q_6_20) (Nat.le_of_ble_eq_true rfl) (Nat.le_of_ble_eq_true rfl) hk.1 hk.2 dJ7_copyOf_6403c_32 ?_
  refine lv_topi (fun x103 ex103 => ?_)
  replace h := h x103 ex103
  obtain ⟨hK_x0, h⟩ := h
  obtain ⟨hK_y0, h⟩ := h
  obtain ⟨hy104, hy105, hy106, hy107, hy108, hy109, h⟩ := h
  refine x_copyq C (by rw [hml]; exact hl.1.symm) hR hK_x0 hK_y0 hS q_6_21 q_6_22 q_6_23 q_7_0 hy104 hy105 hy106 hy107 hy108 hy109 (Nat.le_of_ble_eq_true rfl) (Nat.le_of_ble_eq_true rfl) dJ7_copyOf_6403c_35 (fun H locs hR hS => ?_)
  obtain ⟨S110, eS110⟩ : ∃ z : sT, z = s_cP S x0 y0 (Int32.toNatClampNeg (0 : Int32)) (Int32.toNatClampNeg (0 : Int32)) (Int32.toNatClampNeg x103) := ⟨_, rfl⟩
  rw [← eS110] at hR
  replace h := h S110 eS110
  have hK_x0 : s_K S110 x0 = 12 := by rw [eS110]; exact hK_x0
  have hK_y0 : s_K S110 y0 = 12 := by rw [eS110]; exact hK_y0
  refine lv_aload_n hx hb dJ7_copyOf_6403c_38 rfl (lv_at hl 0 rfl) ?_
  refine W.widen (k := mc) (n := ms) hk.1 hk.2 ?_
  exact W.aret (v := .ref y0) hx hb hr (Or.inr ⟨_, rfl⟩) (Or.inr ⟨_, rfl⟩) (fun t ht hW => ⟨⟨some y0, S110, rfl, ⟨_, rfl, h⟩, x_rt ht hR⟩, hS.F ht⟩) hS.2.2 dJ7_copyOf_6403c_39
set_option maxHeartbeats 4000000 in
theorem tA_J7_copyOf_6403c_b0 {Q : Nat → sT → Prop} (C : x_C p s m args c cJ7_copyOf_6403c RJ7 gg) (hml : c.maxLocals = 4) (hr : meth.sig.returnType = (some (.array (.object "java/lang/Object")))) (hlocks : meth.locks = false) {mc ms kc ks : Nat} (hk : kc ≤ mc ∧ ks ≤ ms) {x0 : Nat} {x1 : Int32} {x2 : Nat}  {S : sT}  (h : wA_J7_copyOf_6403c_b0 mc ms kc ks x0 x1 x2 S  Q) : x_X p l e (rA_J7_copyOf_6403c mc ms) s m args below meth c gg 4 kc ks (MQ below (va_Qq (fun r S1 => ∃ b : Nat, r = some b ∧ Q b S1) (fun S1 t => s_Rep gg S1 t.heap) (s_A gg)) args s mc ms (s_A gg)) 0 [(0, .ref x0), (1, .int x1), (2, .ref x2)] [] S := by
  unfold wA_J7_copyOf_6403c_b0 at h
  obtain ⟨hx, hb, -⟩ := id C
  intro H locs ls hR hS hl
  refine lv_aload_n hx hb dJ7_copyOf_6403c_0 rfl (lv_at hl 2 rfl) ?_
  obtain ⟨a101, ea101, h⟩ := h
  refine x_ldcM C hR ea101 q_6_16 dJ7_copyOf_6403c_1 ?_
  refine lv_acmp_ne (rx := some x2) (ry := some a101) (tgt := 13) hx hb dJ7_copyOf_6403c_3 (by decide) (fun hc102 => ?_) (fun hc102 => ?_)
  · replace h := h.1 hc102
    refine lv_aload_n hx hb dJ7_copyOf_6403c_13 rfl (lv_at hl 2 rfl) ?_
    exact h.elim
  · replace h := h.2 hc102
    refine lv_iload_n hx hb dJ7_copyOf_6403c_6 rfl (lv_at hl 1 rfl) ?_
    obtain ⟨hn103, hn104, h⟩ := h
    obtain ⟨hk1, hk2, h⟩ := h
    refine x_newq (N1 := (Int32.toNatClampNeg x1)) C hR hS q_6_17 hn103 rfl hn104 hk1 hk2 dJ7_copyOf_6403c_7 (fun q105 H hq9 hq hR hS => ?_)
    replace h := h q105 hq
    have hk : (kc + 1) ≤ mc ∧ (ks + (Int32.toNatClampNeg x1)) ≤ ms := ⟨hk1, hk2⟩
    obtain ⟨S106, eS106⟩ : ∃ z : sT, z = s_nw S q105 12 (Int32.toNatClampNeg x1) := ⟨_, rfl⟩
    rw [← eS106] at hR
    replace h := h S106 eS106
    have hK_q105 : s_K S106 q105 = 12 := by rw [eS106]; exact s_nw_K
    refine lv_goto (tgt := 24) hx hb dJ7_copyOf_6403c_10 (by decide) ?_
    exact tA_J7_copyOf_6403c_b24 C hml hr hlocks hk  h H locs ls hR hS (lv_sub (l' := [(0, .ref x0), (1, .int x1)]) hl [0, 1] rfl)
theorem mA_J7_copyOf_6403c (l : Launch) (gg : sG) (mc ms : Nat) (x0 : Nat) (x1 : Int32) (x2 : Nat) (S : sT) {Q : Nat → sT → Prop} (h : wA_J7_copyOf_6403c mc ms x0 x1 x2 S Q) : x_Mq l gg yJ7_copyOf_6403c (x_ws yJ7_copyOf_6403c cJ7_copyOf_6403c 4 (some (.array (.object "java/lang/Object")))) (rA_J7_copyOf_6403c mc ms) [.ref x0, .int x1, .ref x2] S (fun r S1 => ∃ b : Nat, r = some b ∧ Q b S1) mc ms := by
  refine x_ofW (cc := cJ7_copyOf_6403c) (own := RJ7) (by decide +kernel) rfl (Nat.le_of_ble_eq_true rfl) ?_
  intro p e s m args below meth c C hml hr hlocks hin ht H locs ls hR hS hl
  exact tA_J7_copyOf_6403c_b0 C hml hr hlocks ⟨Nat.zero_le _, Nat.zero_le _⟩ h H locs ls hR hS (lv_sub (l' := [(0, .ref x0), (1, .int x1), (2, .ref x2)]) hl [0, 1, 2] rfl)
def wA_J7_copyOf_1904c_b0 (mc ms kc ks : Nat) (x0 : Nat) (x1 : Int32) (S : sT)  (Q : Nat → sT → Prop) : Prop :=
s_K S x0 = 12 ∧
    ∃ a101 : Nat, s_R S 9999 0 = some a101 ∧
    ∃ c102 d103 : Nat, kc + c102 ≤ mc ∧ ks + d103 ≤ ms ∧
    wA_J7_copyOf_6403c c102 d103 x0 x1 a101 S (fun a105 S104 =>
    Q a105 S104)
def wA_J7_copyOf_1904c (mc ms : Nat) (x0 : Nat) (x1 : Int32) (S : sT) (Q : Nat → sT → Prop) : Prop := wA_J7_copyOf_1904c_b0 mc ms 0 0 x0 x1 S Q
def rA_J7_copyOf_1904c (mc ms : Nat) : Room := x_rm 2 83 mc ms
theorem b_J7_copyOf_1904c : x_BS yJ7_copyOf_1904c cJ7_copyOf_1904c 2 (some (.array (.object "java/lang/Object"))) 2 := ⟨q_6_8, q_6_6, q_6_7, by decide +kernel⟩
set_option maxHeartbeats 4000000 in
theorem tA_J7_copyOf_1904c_b0 {Q : Nat → sT → Prop} (C : x_C p s m args c cJ7_copyOf_1904c RJ7 gg) (hml : c.maxLocals = 2) (hr : meth.sig.returnType = (some (.array (.object "java/lang/Object")))) (hlocks : meth.locks = false) {mc ms kc ks : Nat} (hk : kc ≤ mc ∧ ks ≤ ms) {x0 : Nat} {x1 : Int32}  {S : sT}  (h : wA_J7_copyOf_1904c_b0 mc ms kc ks x0 x1 S  Q) : x_X p l e (rA_J7_copyOf_1904c mc ms) s m args below meth c gg 2 kc ks (MQ below (va_Qq (fun r S1 => ∃ b : Nat, r = some b ∧ Q b S1) (fun S1 t => s_Rep gg S1 t.heap) (s_A gg)) args s mc ms (s_A gg)) 0 [(0, .ref x0), (1, .int x1)] [] S := by
  unfold wA_J7_copyOf_1904c_b0 at h
  obtain ⟨hx, hb, -⟩ := id C
  intro H locs ls hR hS hl
  refine lv_aload_n hx hb dJ7_copyOf_1904c_0 rfl (lv_at hl 0 rfl) ?_
  refine lv_iload_n hx hb dJ7_copyOf_1904c_1 rfl (lv_at hl 1 rfl) ?_
  refine lv_aload_n hx hb dJ7_copyOf_1904c_2 rfl (lv_at hl 0 rfl) ?_
  obtain ⟨hK_x0, h⟩ := h
  obtain ⟨a101, ea101, h⟩ := h
  refine x_getC C (by rw [hml]; exact hl.1.symm) hR hK_x0 ea101 q_6_9 q_6_10 q_6_11 q_6_12 (Nat.le_of_ble_eq_true rfl) (Nat.le_of_ble_eq_true rfl) dJ7_copyOf_1904c_3 ?_
  obtain ⟨c102, d103, hk1, hk2, h⟩ := h
  refine x_kq (x_runS (As := [.ref x0, .int x1, .ref a101]) (rest := []) C hml hR hS (mA_J7_copyOf_6403c l gg c102 d103 x0 x1 a101 S h) b_J7_copyOf_6403c q_6_13 rfl rfl ⟨Nat.le_of_ble_eq_true rfl, Nat.le_of_ble_eq_true rfl⟩ rfl hl.1 (Nat.le_of_ble_eq_true rfl) dJ7_copyOf_1904c_6 ⟨hk1, hk2⟩) hS (fun ra105 S104 H locs hn hR hS => ?_)
  replace h := hn
  clear hn
  have hk : (kc + c102) ≤ mc ∧ (ks + d103) ≤ ms := ⟨hk1, hk2⟩
  obtain ⟨a105, za105, h⟩ := h
  refine x_some za105 ?_
  refine W.widen (k := mc) (n := ms) hk.1 hk.2 ?_
  exact W.aret (v := .ref a105) hx hb hr (Or.inr ⟨_, rfl⟩) (Or.inr ⟨_, rfl⟩) (fun t ht hW => ⟨⟨some a105, S104, rfl, ⟨_, rfl, h⟩, x_rt ht hR⟩, hS.F ht⟩) hS.2.2 dJ7_copyOf_1904c_9
theorem mA_J7_copyOf_1904c (l : Launch) (gg : sG) (mc ms : Nat) (x0 : Nat) (x1 : Int32) (S : sT) {Q : Nat → sT → Prop} (h : wA_J7_copyOf_1904c mc ms x0 x1 S Q) : x_Mq l gg yJ7_copyOf_1904c (x_ws yJ7_copyOf_1904c cJ7_copyOf_1904c 2 (some (.array (.object "java/lang/Object")))) (rA_J7_copyOf_1904c mc ms) [.ref x0, .int x1] S (fun r S1 => ∃ b : Nat, r = some b ∧ Q b S1) mc ms := by
  refine x_ofW (cc := cJ7_copyOf_1904c) (own := RJ7) (by decide +kernel) rfl (Nat.le_of_ble_eq_true rfl) ?_
  intro p e s m args below meth c C hml hr hlocks hin ht H locs ls hR hS hl
  exact tA_J7_copyOf_1904c_b0 C hml hr hlocks ⟨Nat.zero_le _, Nat.zero_le _⟩ h H locs ls hR hS (lv_sub (l' := [(0, .ref x0), (1, .int x1)]) hl [0, 1] rfl)
def wA_Jx4a65c_grow_92f84_b20 (mc ms kc ks : Nat) (x0 : Nat) (x1 : Int32) (x2 : Int32) (S : sT)  (Q : Nat → sT → Prop) : Prop :=
∀ x101 : Int32, x101 = x1 - x2 →
    ∀ x102 : Int32, x102 = x2 >>> ((1 : Int32) &&& 31) →
    w_J8_newLength_cabcc x2 x101 x102 S (fun x104 S103 =>
    s_K S103 x0 = 1 ∧
    ∃ a105 : Nat, s_R S103 1 x0 = some a105 ∧
    ∃ c106 d107 : Nat, kc + c106 ≤ mc ∧ ks + d107 ≤ ms ∧
    wA_J7_copyOf_1904c c106 d107 a105 x104 S103 (fun a109 S108 =>
    s_K S108 x0 = 1 ∧
    ∀ S110 : sT, S110 = s_sR S108 1 x0 (some a109) →
    Q a109 S110))
def wA_Jx4a65c_grow_92f84_b0 (mc ms kc ks : Nat) (x0 : Nat) (x1 : Int32) (S : sT)  (Q : Nat → sT → Prop) : Prop :=
s_K S x0 = 1 ∧
    ∃ a101 : Nat, s_R S 1 x0 = some a101 ∧
    (s_K S a101 = 12 ∨ s_R S 9998 0 = some a101) ∧
    ∀ x103 : Int32, x103 = nI (if s_K S a101 = 12 then s_N S a101 else 0) →
    ((0 < x103 → wA_Jx4a65c_grow_92f84_b20 mc ms kc ks x0 x1 x103 S  Q) ∧
    (¬ 0 < x103 → ∃ a105 : Nat, s_R S 1 x0 = some a105 ∧
    ∃ a106 : Nat, s_R S 9998 0 = some a106 ∧
    ((some a105 = some a106 → ∀ x108 : Int32, x108 = s_max (10 : Int32) x1 →
    ¬ x108 < 0 ∧ (Int32.toNatClampNeg x108) * 4 ≤ 536870912 ∧
    (kc + 1) ≤ mc ∧ (ks + (Int32.toNatClampNeg x108)) ≤ ms ∧
    ∀ q111 : Nat, s_fr S q111 →
    ∀ S112 : sT, S112 = s_nw S q111 12 (Int32.toNatClampNeg x108) →
    s_K S112 x0 = 1 ∧
    ∀ S113 : sT, S113 = s_sR S112 1 x0 (some q111) →
    Q q111 S113) ∧
    (¬ some a105 = some a106 → wA_Jx4a65c_grow_92f84_b20 mc ms kc ks x0 x1 x103 S  Q))))
def wA_Jx4a65c_grow_92f84 (mc ms : Nat) (x0 : Nat) (x1 : Int32) (S : sT) (Q : Nat → sT → Prop) : Prop := wA_Jx4a65c_grow_92f84_b0 mc ms 0 0 x0 x1 S Q
def rA_Jx4a65c_grow_92f84 (mc ms : Nat) : Room := x_rm 3 104 mc ms
theorem b_Jx4a65c_grow_92f84 : x_BV yJx4a65c_grow_92f84 cJx4a65c_grow_92f84 4 (some (.array (.object "java/lang/Object"))) 1 := ⟨q_5_14, q_5_12, q_5_13, q_1_20, by decide +kernel⟩
set_option maxHeartbeats 4000000 in
theorem tA_Jx4a65c_grow_92f84_b20 {Q : Nat → sT → Prop} (C : x_C p s m args c cJx4a65c_grow_92f84 RJx4a65c gg) (hml : c.maxLocals = 4) (hr : meth.sig.returnType = (some (.array (.object "java/lang/Object")))) (hlocks : meth.locks = false) {mc ms kc ks : Nat} (hk : kc ≤ mc ∧ ks ≤ ms) {x0 : Nat} {x1 : Int32} {x2 : Int32}  {S : sT}  (h : wA_Jx4a65c_grow_92f84_b20 mc ms kc ks x0 x1 x2 S  Q) : x_X p l e (rA_Jx4a65c_grow_92f84 mc ms) s m args below meth c gg 4 kc ks (MQ below (va_Qq (fun r S1 => ∃ b : Nat, r = some b ∧ Q b S1) (fun S1 t => s_Rep gg S1 t.heap) (s_A gg)) args s mc ms (s_A gg)) 20 [(0, .ref x0), (1, .int x1), (2, .int x2)] [] S := by
  unfold wA_Jx4a65c_grow_92f84_b20 at h
  obtain ⟨hx, hb, -⟩ := id C
  intro H locs ls hR hS hl
  refine lv_iload_n hx hb dJx4a65c_grow_92f84_20 rfl (lv_at hl 2 rfl) ?_
  refine lv_iload_n hx hb dJx4a65c_grow_92f84_21 rfl (lv_at hl 1 rfl) ?_
  refine lv_iload_n hx hb dJx4a65c_grow_92f84_22 rfl (lv_at hl 2 rfl) ?_
  refine lv_isub hx hb dJx4a65c_grow_92f84_23 ?_
  refine lv_topi (fun x101 ex101 => ?_)
  replace h := h x101 ex101
  refine lv_iload_n hx hb dJx4a65c_grow_92f84_24 rfl (lv_at hl 2 rfl) ?_
  refine lv_iconst (v := 1) hx hb dJx4a65c_grow_92f84_25 (by decide) ?_
  refine lv_ishr hx hb dJx4a65c_grow_92f84_26 ?_
  refine lv_topi (fun x102 ex102 => ?_)
  replace h := h x102 ex102
  refine x_ki (x_runS (As := [.int x2, .int x101, .int x102]) (rest := []) C hml hR hS (m_J8_newLength_cabcc l gg x2 x101 x102 S h) b_J8_newLength_cabcc q_5_20 rfl rfl ⟨Nat.le_of_ble_eq_true rfl, Nat.le_of_ble_eq_true rfl⟩ rfl hl.1 (Nat.le_of_ble_eq_true rfl) dJx4a65c_grow_92f84_27 ⟨hk.1, hk.2⟩) hS (fun x104 S103 H locs hn hR hS => ?_)
  replace h := hn
  clear hn
  refine lv_istore_n (lv' := [(3, .int x104), (0, .ref x0), (1, .int x1), (2, .int x2)]) hx hb dJx4a65c_grow_92f84_30 rfl hl (by decide) rfl (fun ls hl => ?_)
  refine lv_aload_n hx hb dJx4a65c_grow_92f84_31 rfl (lv_at hl 1 rfl) ?_
  refine lv_aload_n hx hb dJx4a65c_grow_92f84_32 rfl (lv_at hl 1 rfl) ?_
  obtain ⟨hK_x0, h⟩ := h
  refine x_g_1 C hR hK_x0 q_2_7 dJx4a65c_grow_92f84_33 ?_
  obtain ⟨a105, ea105, h⟩ := h
  refine x_some ea105 ?_
  refine lv_iload_n hx hb dJx4a65c_grow_92f84_36 rfl (lv_at hl 0 rfl) ?_
  obtain ⟨c106, d107, hk1, hk2, h⟩ := h
  refine x_kq (x_runS (As := [.ref a105, .int x104]) (rest := [.ref x0]) C hml hR hS (mA_J7_copyOf_1904c l gg c106 d107 a105 x104 S103 h) b_J7_copyOf_1904c q_6_5 rfl rfl ⟨Nat.le_of_ble_eq_true rfl, Nat.le_of_ble_eq_true rfl⟩ rfl hl.1 (Nat.le_of_ble_eq_true rfl) dJx4a65c_grow_92f84_37 ⟨hk1, hk2⟩) hS (fun ra109 S108 H locs hn hR hS => ?_)
  replace h := hn
  clear hn
  have hk : (kc + c106) ≤ mc ∧ (ks + d107) ≤ ms := ⟨hk1, hk2⟩
  obtain ⟨a109, za109, h⟩ := h
  refine x_some za109 ?_
  refine lv_dup_x1 hx hb dJx4a65c_grow_92f84_40 rfl rfl ?_
  obtain ⟨hK_x0, h⟩ := h
  refine x_p_1 (v := (some a109)) C hR hK_x0 hS q_2_7 dJx4a65c_grow_92f84_41 (fun H locs hR hS => ?_)
  obtain ⟨S110, eS110⟩ : ∃ z : sT, z = s_sR S108 1 x0 (some a109) := ⟨_, rfl⟩
  rw [← eS110] at hR
  replace h := h S110 eS110
  have hK_x0 : s_K S110 x0 = 1 := by rw [eS110]; exact hK_x0
  refine W.widen (k := mc) (n := ms) hk.1 hk.2 ?_
  exact W.aret (v := .ref a109) hx hb hr (Or.inr ⟨_, rfl⟩) (Or.inr ⟨_, rfl⟩) (fun t ht hW => ⟨⟨some a109, S110, rfl, ⟨_, rfl, h⟩, x_rt ht hR⟩, hS.F ht⟩) hS.2.2 dJx4a65c_grow_92f84_44
set_option maxHeartbeats 4000000 in
theorem tA_Jx4a65c_grow_92f84_b0 {Q : Nat → sT → Prop} (C : x_C p s m args c cJx4a65c_grow_92f84 RJx4a65c gg) (hml : c.maxLocals = 4) (hr : meth.sig.returnType = (some (.array (.object "java/lang/Object")))) (hlocks : meth.locks = false) {mc ms kc ks : Nat} (hk : kc ≤ mc ∧ ks ≤ ms) {x0 : Nat} {x1 : Int32}  {S : sT}  (h : wA_Jx4a65c_grow_92f84_b0 mc ms kc ks x0 x1 S  Q) : x_X p l e (rA_Jx4a65c_grow_92f84 mc ms) s m args below meth c gg 4 kc ks (MQ below (va_Qq (fun r S1 => ∃ b : Nat, r = some b ∧ Q b S1) (fun S1 t => s_Rep gg S1 t.heap) (s_A gg)) args s mc ms (s_A gg)) 0 [(0, .ref x0), (1, .int x1)] [] S := by
  unfold wA_Jx4a65c_grow_92f84_b0 at h
  obtain ⟨hx, hb, -⟩ := id C
  intro H locs ls hR hS hl
  refine lv_aload_n hx hb dJx4a65c_grow_92f84_0 rfl (lv_at hl 0 rfl) ?_
  obtain ⟨hK_x0, h⟩ := h
  refine x_g_1 C hR hK_x0 q_2_7 dJx4a65c_grow_92f84_1 ?_
  obtain ⟨a101, ea101, h⟩ := h
  refine x_some ea101 ?_
  obtain ⟨hl102, h⟩ := h
  refine x_alenD C hR hS hl102 dJx4a65c_grow_92f84_4 ?_
  refine lv_topi (fun x103 ex103 => ?_)
  replace h := h x103 ex103
  refine lv_istore_n (lv' := [(2, .int x103), (0, .ref x0), (1, .int x1)]) hx hb dJx4a65c_grow_92f84_5 rfl hl (by decide) rfl (fun ls hl => ?_)
  refine lv_iload_n hx hb dJx4a65c_grow_92f84_6 rfl (lv_at hl 0 rfl) ?_
  refine lv_if_gt (tgt := 20) hx hb dJx4a65c_grow_92f84_7 (by decide) (fun hc104 => ?_) (fun hc104 => ?_)
  · replace h := h.1 hc104
    exact tA_Jx4a65c_grow_92f84_b20 C hml hr hlocks hk  h H locs ls hR hS (lv_sub (l' := [(0, .ref x0), (1, .int x1), (2, .int x103)]) hl [1, 2, 0] rfl)
  · replace h := h.2 hc104
    refine lv_aload_n hx hb dJx4a65c_grow_92f84_10 rfl (lv_at hl 1 rfl) ?_
    refine x_g_1 C hR hK_x0 q_2_7 dJx4a65c_grow_92f84_11 ?_
    obtain ⟨a105, ea105, h⟩ := h
    refine x_some ea105 ?_
    obtain ⟨a106, ea106, h⟩ := h
    refine x_gsD C hR ea106 hS q_2_6 dJx4a65c_grow_92f84_14 ?_
    refine lv_acmp_eq (rx := some a105) (ry := some a106) (tgt := 45) hx hb dJx4a65c_grow_92f84_17 (by decide) (fun hc107 => ?_) (fun hc107 => ?_)
    · replace h := h.1 hc107
      refine lv_aload_n hx hb dJx4a65c_grow_92f84_45 rfl (lv_at hl 1 rfl) ?_
      refine lv_bipush (v := 10) hx hb dJx4a65c_grow_92f84_46 (by decide) ?_
      refine lv_iload_n hx hb dJx4a65c_grow_92f84_48 rfl (lv_at hl 2 rfl) ?_
      refine va_mmax hx hb (by rw [hml]; exact hl.1.symm) C.2.2.2.1 (C.2.2.1 _ q_5_15) (C.2.2.1 _ q_5_16) (C.2.2.1 _ q_5_17) (C.2.2.1 _ q_5_18) (Nat.le_of_ble_eq_true rfl) (Nat.le_of_ble_eq_true rfl) hk.1 hk.2 dJx4a65c_grow_92f84_49 ?_
      refine lv_topi (fun x108 ex108 => ?_)
      replace h := h x108 ex108
      obtain ⟨hn109, hn110, h⟩ := h
      obtain ⟨hk1, hk2, h⟩ := h
      refine x_newq (N1 := (Int32.toNatClampNeg x108)) C hR hS q_5_19 hn109 rfl hn110 hk1 hk2 dJx4a65c_grow_92f84_52 (fun q111 H hq9 hq hR hS => ?_)
      replace h := h q111 hq
      have hk : (kc + 1) ≤ mc ∧ (ks + (Int32.toNatClampNeg x108)) ≤ ms := ⟨hk1, hk2⟩
      obtain ⟨S112, eS112⟩ : ∃ z : sT, z = s_nw S q111 12 (Int32.toNatClampNeg x108) := ⟨_, rfl⟩
      rw [← eS112] at hR
      replace h := h S112 eS112
      have hK_q111 : s_K S112 q111 = 12 := by rw [eS112]; exact s_nw_K
      refine lv_dup_x1 hx hb dJx4a65c_grow_92f84_55 rfl rfl ?_
      obtain ⟨hK_x0, h⟩ := h
      refine x_p_1 (v := (some q111)) C hR hK_x0 hS q_2_7 dJx4a65c_grow_92f84_56 (fun H locs hR hS => ?_)
      obtain ⟨S113, eS113⟩ : ∃ z : sT, z = s_sR S112 1 x0 (some q111) := ⟨_, rfl⟩
      rw [← eS113] at hR
      replace h := h S113 eS113
      have hK_q111 : s_K S113 q111 = 12 := by rw [eS113]; exact hK_q111
      have hK_x0 : s_K S113 x0 = 1 := by rw [eS113]; exact hK_x0
      refine W.widen (k := mc) (n := ms) hk.1 hk.2 ?_
      exact W.aret (v := .ref q111) hx hb hr (Or.inr ⟨_, rfl⟩) (Or.inr ⟨_, rfl⟩) (fun t ht hW => ⟨⟨some q111, S113, rfl, ⟨_, rfl, h⟩, x_rt ht hR⟩, hS.F ht⟩) hS.2.2 dJx4a65c_grow_92f84_59
    · replace h := h.2 hc107
      exact tA_Jx4a65c_grow_92f84_b20 C hml hr hlocks hk  h H locs ls hR hS (lv_sub (l' := [(0, .ref x0), (1, .int x1), (2, .int x103)]) hl [1, 2, 0] rfl)
theorem mA_Jx4a65c_grow_92f84 (l : Launch) (gg : sG) (mc ms : Nat) (x0 : Nat) (x1 : Int32) (S : sT) {Q : Nat → sT → Prop} (h : wA_Jx4a65c_grow_92f84 mc ms x0 x1 S Q) : x_Mq l gg yJx4a65c_grow_92f84 (x_ws yJx4a65c_grow_92f84 cJx4a65c_grow_92f84 4 (some (.array (.object "java/lang/Object")))) (rA_Jx4a65c_grow_92f84 mc ms) [.ref x0, .int x1] S (fun r S1 => ∃ b : Nat, r = some b ∧ Q b S1) mc ms := by
  refine x_ofW (cc := cJx4a65c_grow_92f84) (own := RJx4a65c) (by decide +kernel) rfl (Nat.le_of_ble_eq_true rfl) ?_
  intro p e s m args below meth c C hml hr hlocks hin ht H locs ls hR hS hl
  exact tA_Jx4a65c_grow_92f84_b0 C hml hr hlocks ⟨Nat.zero_le _, Nat.zero_le _⟩ h H locs ls hR hS (lv_sub (l' := [(0, .ref x0), (1, .int x1)]) hl [0, 1] rfl)
def wA_Jx4a65c_grow_d5877_b0 (mc ms kc ks : Nat) (x0 : Nat) (S : sT)  (Q : Nat → sT → Prop) : Prop :=
s_K S x0 = 1 ∧
    ∀ x101 : Int32, x101 = s_I S 2 x0 →
    ∀ x102 : Int32, x102 = x101 + (1 : Int32) →
    ∃ c103 d104 : Nat, kc + c103 ≤ mc ∧ ks + d104 ≤ ms ∧
    wA_Jx4a65c_grow_92f84 c103 d104 x0 x102 S (fun a106 S105 =>
    Q a106 S105)
def wA_Jx4a65c_grow_d5877 (mc ms : Nat) (x0 : Nat) (S : sT) (Q : Nat → sT → Prop) : Prop := wA_Jx4a65c_grow_d5877_b0 mc ms 0 0 x0 S Q
def rA_Jx4a65c_grow_d5877 (mc ms : Nat) : Room := x_rm 4 127 mc ms
theorem b_Jx4a65c_grow_d5877 : x_BV yJx4a65c_grow_d5877 cJx4a65c_grow_d5877 1 (some (.array (.object "java/lang/Object"))) 0 := ⟨q_5_10, q_5_8, q_5_9, q_1_20, by decide +kernel⟩
set_option maxHeartbeats 4000000 in
theorem tA_Jx4a65c_grow_d5877_b0 {Q : Nat → sT → Prop} (C : x_C p s m args c cJx4a65c_grow_d5877 RJx4a65c gg) (hml : c.maxLocals = 1) (hr : meth.sig.returnType = (some (.array (.object "java/lang/Object")))) (hlocks : meth.locks = false) {mc ms kc ks : Nat} (hk : kc ≤ mc ∧ ks ≤ ms) {x0 : Nat}  {S : sT}  (h : wA_Jx4a65c_grow_d5877_b0 mc ms kc ks x0 S  Q) : x_X p l e (rA_Jx4a65c_grow_d5877 mc ms) s m args below meth c gg 1 kc ks (MQ below (va_Qq (fun r S1 => ∃ b : Nat, r = some b ∧ Q b S1) (fun S1 t => s_Rep gg S1 t.heap) (s_A gg)) args s mc ms (s_A gg)) 0 [(0, .ref x0)] [] S := by
  unfold wA_Jx4a65c_grow_d5877_b0 at h
  obtain ⟨hx, hb, -⟩ := id C
  intro H locs ls hR hS hl
  refine lv_aload_n hx hb dJx4a65c_grow_d5877_0 rfl (lv_at hl 0 rfl) ?_
  refine lv_aload_n hx hb dJx4a65c_grow_d5877_1 rfl (lv_at hl 0 rfl) ?_
  obtain ⟨hK_x0, h⟩ := h
  refine x_g_2 C hR hK_x0 q_3_22 dJx4a65c_grow_d5877_2 ?_
  refine lv_topi (fun x101 ex101 => ?_)
  replace h := h x101 ex101
  refine lv_iconst (v := 1) hx hb dJx4a65c_grow_d5877_5 (by decide) ?_
  refine lv_iadd hx hb dJx4a65c_grow_d5877_6 ?_
  refine lv_topi (fun x102 ex102 => ?_)
  replace h := h x102 ex102
  obtain ⟨c103, d104, hk1, hk2, h⟩ := h
  refine x_kq (x_runV (As := [.int x102]) (rest := []) C hml hR hS (mA_Jx4a65c_grow_92f84 l gg c103 d104 x0 x102 S h) b_Jx4a65c_grow_92f84 q_5_11 (by rw [hK_x0]; decide) (s_E_0 hK_x0) rfl rfl rfl rfl ⟨Nat.le_of_ble_eq_true rfl, Nat.le_of_ble_eq_true rfl⟩ rfl hl.1 (Nat.le_of_ble_eq_true rfl) dJx4a65c_grow_d5877_7 ⟨hk1, hk2⟩) hS (fun ra106 S105 H locs hn hR hS => ?_)
  replace h := hn
  clear hn
  have hk : (kc + c103) ≤ mc ∧ (ks + d104) ≤ ms := ⟨hk1, hk2⟩
  obtain ⟨a106, za106, h⟩ := h
  refine x_some za106 ?_
  refine W.widen (k := mc) (n := ms) hk.1 hk.2 ?_
  exact W.aret (v := .ref a106) hx hb hr (Or.inr ⟨_, rfl⟩) (Or.inr ⟨_, rfl⟩) (fun t ht hW => ⟨⟨some a106, S105, rfl, ⟨_, rfl, h⟩, x_rt ht hR⟩, hS.F ht⟩) hS.2.2 dJx4a65c_grow_d5877_10
theorem mA_Jx4a65c_grow_d5877 (l : Launch) (gg : sG) (mc ms : Nat) (x0 : Nat) (S : sT) {Q : Nat → sT → Prop} (h : wA_Jx4a65c_grow_d5877 mc ms x0 S Q) : x_Mq l gg yJx4a65c_grow_d5877 (x_ws yJx4a65c_grow_d5877 cJx4a65c_grow_d5877 1 (some (.array (.object "java/lang/Object")))) (rA_Jx4a65c_grow_d5877 mc ms) [.ref x0] S (fun r S1 => ∃ b : Nat, r = some b ∧ Q b S1) mc ms := by
  refine x_ofW (cc := cJx4a65c_grow_d5877) (own := RJx4a65c) (by decide +kernel) rfl (Nat.le_of_ble_eq_true rfl) ?_
  intro p e s m args below meth c C hml hr hlocks hin ht H locs ls hR hS hl
  exact tA_Jx4a65c_grow_d5877_b0 C hml hr hlocks ⟨Nat.zero_le _, Nat.zero_le _⟩ h H locs ls hR hS (lv_sub (l' := [(0, .ref x0)]) hl [0] rfl)
def wA_Jx4a65c_add_72be8_b11 (mc ms kc ks : Nat) (x0 : Nat) (x1 : Nat) (x2 : Nat) (x3 : Int32) (S : sT)  (Q : sT → Prop) : Prop :=
s_K S x2 = 12 ∧
    vp_in x3 (s_N S x2) ∧ (s_K S x1 = 3 ∨ s_K S x1 = 7) ∧
    ∀ S103 : sT, S103 = s_sP S x2 (Int32.toNatClampNeg x3) (some x1) →
    ∀ x104 : Int32, x104 = x3 + (1 : Int32) →
    s_K S103 x0 = 1 ∧
    ∀ S105 : sT, S105 = s_sI S103 2 x0 x104 →
    Q S105
def wA_Jx4a65c_add_72be8_b0 (mc ms kc ks : Nat) (x0 : Nat) (x1 : Nat) (x2 : Nat) (x3 : Int32) (S : sT)  (Q : sT → Prop) : Prop :=
(s_K S x2 = 12 ∨ s_R S 9998 0 = some x2) ∧
    ∀ x102 : Int32, x102 = nI (if s_K S x2 = 12 then s_N S x2 else 0) →
    ((¬ x3 = x102 → wA_Jx4a65c_add_72be8_b11 mc ms kc ks x0 x1 x2 x3 S  Q) ∧
    (x3 = x102 → s_K S x0 = 1 ∧
    ∃ c104 d105 : Nat, kc + c104 ≤ mc ∧ ks + d105 ≤ ms ∧
    wA_Jx4a65c_grow_d5877 c104 d105 x0 S (fun a107 S106 =>
    wA_Jx4a65c_add_72be8_b11 mc ms (kc + c104) (ks + d105) x0 x1 a107 x3 S106  Q)))
def wA_Jx4a65c_add_72be8 (mc ms : Nat) (x0 : Nat) (x1 : Nat) (x2 : Nat) (x3 : Int32) (S : sT) (Q : sT → Prop) : Prop := wA_Jx4a65c_add_72be8_b0 mc ms 0 0 x0 x1 x2 x3 S Q
def rA_Jx4a65c_add_72be8 (mc ms : Nat) : Room := x_rm 5 147 mc ms
theorem b_Jx4a65c_add_72be8 : x_BV yJx4a65c_add_72be8 cJx4a65c_add_72be8 4 none 3 := ⟨q_5_6, q_5_4, q_5_5, q_1_20, by decide +kernel⟩
set_option maxHeartbeats 4000000 in
theorem tA_Jx4a65c_add_72be8_b11 {Q : sT → Prop} (C : x_C p s m args c cJx4a65c_add_72be8 RJx4a65c gg) (hml : c.maxLocals = 4) (hr : meth.sig.returnType = none) (hlocks : meth.locks = false) {mc ms kc ks : Nat} (hk : kc ≤ mc ∧ ks ≤ ms) {x0 : Nat} {x1 : Nat} {x2 : Nat} {x3 : Int32}  {S : sT}  (h : wA_Jx4a65c_add_72be8_b11 mc ms kc ks x0 x1 x2 x3 S  Q) : x_X p l e (rA_Jx4a65c_add_72be8 mc ms) s m args below meth c gg 4 kc ks (MQ below (va_Qv Q (fun S1 t => s_Rep gg S1 t.heap) (s_A gg)) args s mc ms (s_A gg)) 11 [(0, .ref x0), (1, .ref x1), (2, .ref x2), (3, .int x3)] [] S := by
  unfold wA_Jx4a65c_add_72be8_b11 at h
  obtain ⟨hx, hb, -⟩ := id C
  intro H locs ls hR hS hl
  refine lv_aload_n hx hb dJx4a65c_add_72be8_11 rfl (lv_at hl 2 rfl) ?_
  refine lv_iload_n hx hb dJx4a65c_add_72be8_12 rfl (lv_at hl 3 rfl) ?_
  refine lv_aload_n hx hb dJx4a65c_add_72be8_13 rfl (lv_at hl 1 rfl) ?_
  obtain ⟨hK_x2, h⟩ := h
  obtain ⟨hi101, hv102, h⟩ := h
  refine x_astO2 C hR hK_x2 hS hi101 hv102 dJx4a65c_add_72be8_14 (fun H locs hR hS => ?_)
  obtain ⟨S103, eS103⟩ : ∃ z : sT, z = s_sP S x2 (Int32.toNatClampNeg x3) (some x1) := ⟨_, rfl⟩
  rw [← eS103] at hR
  replace h := h S103 eS103
  have hK_x2 : s_K S103 x2 = 12 := by rw [eS103]; exact hK_x2
  refine lv_aload_n hx hb dJx4a65c_add_72be8_15 rfl (lv_at hl 0 rfl) ?_
  refine lv_iload_n hx hb dJx4a65c_add_72be8_16 rfl (lv_at hl 3 rfl) ?_
  refine lv_iconst (v := 1) hx hb dJx4a65c_add_72be8_17 (by decide) ?_
  refine lv_iadd hx hb dJx4a65c_add_72be8_18 ?_
  refine lv_topi (fun x104 ex104 => ?_)
  replace h := h x104 ex104
  obtain ⟨hK_x0, h⟩ := h
  refine x_p_2 (v := x104) C hR hK_x0 hS q_3_22 dJx4a65c_add_72be8_19 (fun H locs hR hS => ?_)
  obtain ⟨S105, eS105⟩ : ∃ z : sT, z = s_sI S103 2 x0 x104 := ⟨_, rfl⟩
  rw [← eS105] at hR
  replace h := h S105 eS105
  have hK_x2 : s_K S105 x2 = 12 := by rw [eS105]; exact hK_x2
  have hK_x0 : s_K S105 x0 = 1 := by rw [eS105]; exact hK_x0
  refine W.widen (k := mc) (n := ms) hk.1 hk.2 ?_
  exact W.vret hx hb hr (fun t ht hW => ⟨⟨S105, rfl, h, x_rt ht hR⟩, hS.F ht⟩) hS.2.2 dJx4a65c_add_72be8_22
set_option maxHeartbeats 4000000 in
theorem tA_Jx4a65c_add_72be8_b0 {Q : sT → Prop} (C : x_C p s m args c cJx4a65c_add_72be8 RJx4a65c gg) (hml : c.maxLocals = 4) (hr : meth.sig.returnType = none) (hlocks : meth.locks = false) {mc ms kc ks : Nat} (hk : kc ≤ mc ∧ ks ≤ ms) {x0 : Nat} {x1 : Nat} {x2 : Nat} {x3 : Int32}  {S : sT}  (h : wA_Jx4a65c_add_72be8_b0 mc ms kc ks x0 x1 x2 x3 S  Q) : x_X p l e (rA_Jx4a65c_add_72be8 mc ms) s m args below meth c gg 4 kc ks (MQ below (va_Qv Q (fun S1 t => s_Rep gg S1 t.heap) (s_A gg)) args s mc ms (s_A gg)) 0 [(0, .ref x0), (1, .ref x1), (2, .ref x2), (3, .int x3)] [] S := by
  unfold wA_Jx4a65c_add_72be8_b0 at h
  obtain ⟨hx, hb, -⟩ := id C
  intro H locs ls hR hS hl
  refine lv_iload_n hx hb dJx4a65c_add_72be8_0 rfl (lv_at hl 3 rfl) ?_
  refine lv_aload_n hx hb dJx4a65c_add_72be8_1 rfl (lv_at hl 2 rfl) ?_
  obtain ⟨hl101, h⟩ := h
  refine x_alenD C hR hS hl101 dJx4a65c_add_72be8_2 ?_
  refine lv_topi (fun x102 ex102 => ?_)
  replace h := h x102 ex102
  refine lv_icmp_ne (tgt := 11) hx hb dJx4a65c_add_72be8_3 (by decide) (fun hc103 => ?_) (fun hc103 => ?_)
  · replace h := h.1 hc103
    exact tA_Jx4a65c_add_72be8_b11 C hml hr hlocks hk  h H locs ls hR hS (lv_sub (l' := [(0, .ref x0), (1, .ref x1), (2, .ref x2), (3, .int x3)]) hl [0, 1, 2, 3] rfl)
  · replace h := h.2 hc103
    refine lv_aload_n hx hb dJx4a65c_add_72be8_6 rfl (lv_at hl 0 rfl) ?_
    obtain ⟨hK_x0, h⟩ := h
    obtain ⟨c104, d105, hk1, hk2, h⟩ := h
    refine x_kq (x_runV (As := []) (rest := []) C hml hR hS (mA_Jx4a65c_grow_d5877 l gg c104 d105 x0 S h) b_Jx4a65c_grow_d5877 q_5_7 (by rw [hK_x0]; decide) (s_E_0 hK_x0) rfl rfl rfl rfl ⟨Nat.le_of_ble_eq_true rfl, Nat.le_of_ble_eq_true rfl⟩ rfl hl.1 (Nat.le_of_ble_eq_true rfl) dJx4a65c_add_72be8_7 ⟨hk1, hk2⟩) hS (fun ra107 S106 H locs hn hR hS => ?_)
    replace h := hn
    clear hn
    have hk : (kc + c104) ≤ mc ∧ (ks + d105) ≤ ms := ⟨hk1, hk2⟩
    obtain ⟨a107, za107, h⟩ := h
    refine x_some za107 ?_
    refine lv_astore_n (lv' := [(2, .ref a107), (0, .ref x0), (1, .ref x1), (3, .int x3)]) hx hb dJx4a65c_add_72be8_10 rfl hl (by decide) rfl (fun ls hl => ?_)
    exact tA_Jx4a65c_add_72be8_b11 C hml hr hlocks hk  h H locs ls hR hS (lv_sub (l' := [(0, .ref x0), (1, .ref x1), (2, .ref a107), (3, .int x3)]) hl [1, 2, 0, 3] rfl)
theorem mA_Jx4a65c_add_72be8 (l : Launch) (gg : sG) (mc ms : Nat) (x0 : Nat) (x1 : Nat) (x2 : Nat) (x3 : Int32) (S : sT) {Q : sT → Prop} (h : wA_Jx4a65c_add_72be8 mc ms x0 x1 x2 x3 S Q) : x_Mv l gg yJx4a65c_add_72be8 (x_ws yJx4a65c_add_72be8 cJx4a65c_add_72be8 4 none) (rA_Jx4a65c_add_72be8 mc ms) [.ref x0, .ref x1, .ref x2, .int x3] S Q mc ms := by
  refine x_ofW (cc := cJx4a65c_add_72be8) (own := RJx4a65c) (by decide +kernel) rfl (Nat.le_of_ble_eq_true rfl) ?_
  intro p e s m args below meth c C hml hr hlocks hin ht H locs ls hR hS hl
  exact tA_Jx4a65c_add_72be8_b0 C hml hr hlocks ⟨Nat.zero_le _, Nat.zero_le _⟩ h H locs ls hR hS (lv_sub (l' := [(0, .ref x0), (1, .ref x1), (2, .ref x2), (3, .int x3)]) hl [0, 1, 2, 3] rfl)
def wA_Jx4a65c_add_9ea2d_b0 (mc ms kc ks : Nat) (x0 : Nat) (x1 : Nat) (S : sT)  (Q : Int32 → sT → Prop) : Prop :=
s_K S x0 = 1 ∧
    ∀ x101 : Int32, x101 = s_I S 0 x0 →
    ∀ x102 : Int32, x102 = x101 + (1 : Int32) →
    ∀ S103 : sT, S103 = s_sI S 0 x0 x102 →
    ∃ a104 : Nat, s_R S103 1 x0 = some a104 ∧
    ∀ x105 : Int32, x105 = s_I S103 2 x0 →
    ∃ c106 d107 : Nat, kc + c106 ≤ mc ∧ ks + d107 ≤ ms ∧
    wA_Jx4a65c_add_72be8 c106 d107 x0 x1 a104 x105 S103 (fun S108 =>
    Q (1 : Int32) S108)
def wA_Jx4a65c_add_9ea2d (mc ms : Nat) (x0 : Nat) (x1 : Nat) (S : sT) (Q : Int32 → sT → Prop) : Prop := wA_Jx4a65c_add_9ea2d_b0 mc ms 0 0 x0 x1 S Q
def rA_Jx4a65c_add_9ea2d (mc ms : Nat) : Room := x_rm 6 170 mc ms
theorem b_Jx4a65c_add_9ea2d : x_BV yJx4a65c_add_9ea2d cJx4a65c_add_9ea2d 2 (some .boolean) 1 := ⟨q_5_0, q_4_22, q_4_23, q_1_20, by decide +kernel⟩
set_option maxHeartbeats 4000000 in
theorem tA_Jx4a65c_add_9ea2d_b0 {Q : Int32 → sT → Prop} (C : x_C p s m args c cJx4a65c_add_9ea2d RJx4a65c gg) (hml : c.maxLocals = 2) (hr : meth.sig.returnType = (some .boolean)) (hlocks : meth.locks = false) {mc ms kc ks : Nat} (hk : kc ≤ mc ∧ ks ≤ ms) {x0 : Nat} {x1 : Nat}  {S : sT}  (h : wA_Jx4a65c_add_9ea2d_b0 mc ms kc ks x0 x1 S  Q) : x_X p l e (rA_Jx4a65c_add_9ea2d mc ms) s m args below meth c gg 2 kc ks (MQ below (va_Qi Q (fun S1 t => s_Rep gg S1 t.heap) (s_A gg)) args s mc ms (s_A gg)) 0 [(0, .ref x0), (1, .ref x1)] [] S := by
  unfold wA_Jx4a65c_add_9ea2d_b0 at h
  obtain ⟨hx, hb, -⟩ := id C
  intro H locs ls hR hS hl
  refine lv_aload_n hx hb dJx4a65c_add_9ea2d_0 rfl (lv_at hl 0 rfl) ?_
  refine lv_dup hx hb dJx4a65c_add_9ea2d_1 rfl ?_
  obtain ⟨hK_x0, h⟩ := h
  refine x_g_0 C hR hK_x0 q_5_1 (fun x h => u_same (C.2.2.1 _ q_5_2) x h) dJx4a65c_add_9ea2d_2 ?_
  refine lv_topi (fun x101 ex101 => ?_)
  replace h := h x101 ex101
  refine lv_iconst (v := 1) hx hb dJx4a65c_add_9ea2d_5 (by decide) ?_
  refine lv_iadd hx hb dJx4a65c_add_9ea2d_6 ?_
  refine lv_topi (fun x102 ex102 => ?_)
  replace h := h x102 ex102
  refine x_p_0 (v := x102) C hR hK_x0 hS q_5_1 (fun x h => u_same (C.2.2.1 _ q_5_2) x h) dJx4a65c_add_9ea2d_7 (fun H locs hR hS => ?_)
  obtain ⟨S103, eS103⟩ : ∃ z : sT, z = s_sI S 0 x0 x102 := ⟨_, rfl⟩
  rw [← eS103] at hR
  replace h := h S103 eS103
  have hK_x0 : s_K S103 x0 = 1 := by rw [eS103]; exact hK_x0
  refine lv_aload_n hx hb dJx4a65c_add_9ea2d_10 rfl (lv_at hl 0 rfl) ?_
  refine lv_aload_n hx hb dJx4a65c_add_9ea2d_11 rfl (lv_at hl 1 rfl) ?_
  refine lv_aload_n hx hb dJx4a65c_add_9ea2d_12 rfl (lv_at hl 0 rfl) ?_
  refine x_g_1 C hR hK_x0 q_2_7 dJx4a65c_add_9ea2d_13 ?_
  obtain ⟨a104, ea104, h⟩ := h
  refine x_some ea104 ?_
  refine lv_aload_n hx hb dJx4a65c_add_9ea2d_16 rfl (lv_at hl 0 rfl) ?_
  refine x_g_2 C hR hK_x0 q_3_22 dJx4a65c_add_9ea2d_17 ?_
  refine lv_topi (fun x105 ex105 => ?_)
  replace h := h x105 ex105
  obtain ⟨c106, d107, hk1, hk2, h⟩ := h
  refine x_kv (x_runV (As := [.ref x1, .ref a104, .int x105]) (rest := []) C hml hR hS (mA_Jx4a65c_add_72be8 l gg c106 d107 x0 x1 a104 x105 S103 h) b_Jx4a65c_add_72be8 q_5_3 (by rw [hK_x0]; decide) (s_E_0 hK_x0) rfl rfl rfl rfl ⟨Nat.le_of_ble_eq_true rfl, Nat.le_of_ble_eq_true rfl⟩ rfl hl.1 (Nat.le_of_ble_eq_true rfl) dJx4a65c_add_9ea2d_20 ⟨hk1, hk2⟩) hS (fun S108 H locs hn hR hS => ?_)
  replace h := hn
  clear hn
  have hk : (kc + c106) ≤ mc ∧ (ks + d107) ≤ ms := ⟨hk1, hk2⟩
  refine lv_iconst (v := 1) hx hb dJx4a65c_add_9ea2d_23 (by decide) ?_
  refine W.widen (k := mc) (n := ms) hk.1 hk.2 ?_
  exact W.zret (v := (1 : Int32)) hx hb hr (by decide) (fun t ht hW => ⟨⟨(1 : Int32), S108, rfl, h, x_rt ht hR⟩, hS.F ht⟩) hS.2.2 dJx4a65c_add_9ea2d_24
theorem mA_Jx4a65c_add_9ea2d (l : Launch) (gg : sG) (mc ms : Nat) (x0 : Nat) (x1 : Nat) (S : sT) {Q : Int32 → sT → Prop} (h : wA_Jx4a65c_add_9ea2d mc ms x0 x1 S Q) : x_Mi l gg yJx4a65c_add_9ea2d (x_ws yJx4a65c_add_9ea2d cJx4a65c_add_9ea2d 2 (some .boolean)) (rA_Jx4a65c_add_9ea2d mc ms) [.ref x0, .ref x1] S Q mc ms := by
  refine x_ofW (cc := cJx4a65c_add_9ea2d) (own := RJx4a65c) (by decide +kernel) rfl (Nat.le_of_ble_eq_true rfl) ?_
  intro p e s m args below meth c C hml hr hlocks hin ht H locs ls hR hS hl
  exact tA_Jx4a65c_add_9ea2d_b0 C hml hr hlocks ⟨Nat.zero_le _, Nat.zero_le _⟩ h H locs ls hR hS (lv_sub (l' := [(0, .ref x0), (1, .ref x1)]) hl [0, 1] rfl)
def wA_X2_addSociety_b0 (mc ms kc ks : Nat) (x0 : Nat) (x1 : Int32) (x2 : Int32) (x3 : Int32) (x4 : Int32) (S : sT)  (Q : Int32 → sT → Prop) : Prop :=
(kc + 1) ≤ mc ∧ (ks + 12) ≤ ms ∧
    ∀ q101 : Nat, s_fr S q101 →
    ∀ S102 : sT, S102 = s_nw S q101 7 0 →
    s_K S102 x0 = 4 ∧
    ∃ a103 : Nat, s_R S102 96 x0 = some a103 ∧
    s_K S102 a103 = 1 ∧
    w_Jx4a65c_size_8abf5 a103 S102 (fun x105 S104 =>
    ∃ c106 d107 : Nat, (kc + 1) + c106 ≤ mc ∧ (ks + 12) + d107 ≤ ms ∧
    wA_X5_init c106 d107 q101 x105 x1 x2 x3 x4 S104 (fun S108 =>
    s_K S108 x0 = 4 ∧
    ∃ a109 : Nat, s_R S108 96 x0 = some a109 ∧
    s_K S108 a109 = 1 ∧
    ∃ c110 d111 : Nat, ((kc + 1) + c106) + c110 ≤ mc ∧ ((ks + 12) + d107) + d111 ≤ ms ∧
    wA_Jx4a65c_add_9ea2d c110 d111 a109 q101 S108 (fun x113 S112 =>
    s_K S112 q101 = 7 ∧
    ∀ x114 : Int32, x114 = s_I S112 192 q101 →
    Q x114 S112)))
def wA_X2_addSociety (mc ms : Nat) (x0 : Nat) (x1 : Int32) (x2 : Int32) (x3 : Int32) (x4 : Int32) (S : sT) (Q : Int32 → sT → Prop) : Prop := wA_X2_addSociety_b0 mc ms 0 0 x0 x1 x2 x3 x4 S Q
def rA_X2_addSociety (mc ms : Nat) : Room := x_rm 7 191 mc ms
theorem b_X2_addSociety : x_BV yX2_addSociety cX2_addSociety 6 (some .int) 4 := ⟨q_4_2, q_4_0, q_4_1, q_1_12, by decide +kernel⟩
set_option maxHeartbeats 4000000 in
theorem tA_X2_addSociety_b0 {Q : Int32 → sT → Prop} (C : x_C p s m args c cX2_addSociety RX2 gg) (hml : c.maxLocals = 6) (hr : meth.sig.returnType = (some .int)) (hlocks : meth.locks = false) {mc ms kc ks : Nat} (hk : kc ≤ mc ∧ ks ≤ ms) {x0 : Nat} {x1 : Int32} {x2 : Int32} {x3 : Int32} {x4 : Int32}  {S : sT}  (h : wA_X2_addSociety_b0 mc ms kc ks x0 x1 x2 x3 x4 S  Q) : x_X p l e (rA_X2_addSociety mc ms) s m args below meth c gg 6 kc ks (MQ below (va_Qi Q (fun S1 t => s_Rep gg S1 t.heap) (s_A gg)) args s mc ms (s_A gg)) 0 [(0, .ref x0), (1, .int x1), (2, .int x2), (3, .int x3), (4, .int x4)] [] S := by
  unfold wA_X2_addSociety_b0 at h
  obtain ⟨hx, hb, -⟩ := id C
  intro H locs ls hR hS hl
  obtain ⟨hk1, hk2, h⟩ := h
  refine x_nw_6 (a := 0) C hR hS q_8_9 q_4_4 q_4_5 hk1 hk2 dX2_addSociety_0 (fun q101 H hq9 hq hR hS => ?_)
  replace h := h q101 hq
  have hk : (kc + 1) ≤ mc ∧ (ks + 12) ≤ ms := ⟨hk1, hk2⟩
  obtain ⟨S102, eS102⟩ : ∃ z : sT, z = s_nw S q101 7 0 := ⟨_, rfl⟩
  rw [← eS102] at hR
  replace h := h S102 eS102
  have hK_q101 : s_K S102 q101 = 7 := by rw [eS102]; exact s_nw_K
  refine lv_dup hx hb dX2_addSociety_3 rfl ?_
  refine lv_aload_n hx hb dX2_addSociety_4 rfl (lv_at hl 0 rfl) ?_
  obtain ⟨hK_x0, h⟩ := h
  refine x_g_96 C hR hK_x0 q_1_21 dX2_addSociety_5 ?_
  obtain ⟨a103, ea103, h⟩ := h
  refine x_some ea103 ?_
  obtain ⟨hK_a103, h⟩ := h
  refine x_ki (x_runV (As := []) (rest := [.ref q101, .ref q101]) C hml hR hS (m_Jx4a65c_size_8abf5 l gg a103 S102 h) b_Jx4a65c_size_8abf5 q_4_7 (by rw [hK_a103]; decide) (s_E_0 hK_a103) rfl rfl rfl rfl ⟨Nat.le_of_ble_eq_true rfl, Nat.le_of_ble_eq_true rfl⟩ rfl hl.1 (Nat.le_of_ble_eq_true rfl) dX2_addSociety_8 ⟨hk.1, hk.2⟩) hS (fun x105 S104 H locs hn hR hS => ?_)
  replace h := hn
  clear hn
  refine lv_iload_n hx hb dX2_addSociety_11 rfl (lv_at hl 1 rfl) ?_
  refine lv_iload_n hx hb dX2_addSociety_12 rfl (lv_at hl 2 rfl) ?_
  refine lv_iload_n hx hb dX2_addSociety_13 rfl (lv_at hl 3 rfl) ?_
  refine lv_iload hx hb dX2_addSociety_14 (lv_at hl 4 rfl) ?_
  obtain ⟨c106, d107, hk1, hk2, h⟩ := h
  refine x_kv (x_runI (As := [.int x105, .int x1, .int x2, .int x3, .int x4]) (rest := [.ref q101]) C hml hR hS (mA_X5_init l gg c106 d107 q101 x105 x1 x2 x3 x4 S104 h) b_X5_init q_4_8 rfl rfl ⟨Nat.le_of_ble_eq_true rfl, Nat.le_of_ble_eq_true rfl⟩ rfl hl.1 (Nat.le_of_ble_eq_true rfl) dX2_addSociety_16 ⟨hk1, hk2⟩) hS (fun S108 H locs hn hR hS => ?_)
  replace h := hn
  clear hn
  have hk : ((kc + 1) + c106) ≤ mc ∧ ((ks + 12) + d107) ≤ ms := ⟨hk1, hk2⟩
  refine lv_astore (lv' := [(5, .ref q101), (0, .ref x0), (1, .int x1), (2, .int x2), (3, .int x3), (4, .int x4)]) hx hb dX2_addSociety_19 hl (by decide) rfl (fun ls hl => ?_)
  refine lv_aload_n hx hb dX2_addSociety_21 rfl (lv_at hl 1 rfl) ?_
  obtain ⟨hK_x0, h⟩ := h
  refine x_g_96 C hR hK_x0 q_1_21 dX2_addSociety_22 ?_
  obtain ⟨a109, ea109, h⟩ := h
  refine x_some ea109 ?_
  refine lv_aload hx hb dX2_addSociety_25 (lv_at hl 0 rfl) ?_
  obtain ⟨hK_a109, h⟩ := h
  obtain ⟨c110, d111, hk1, hk2, h⟩ := h
  refine x_ki (x_runV (As := [.ref q101]) (rest := []) C hml hR hS (mA_Jx4a65c_add_9ea2d l gg c110 d111 a109 q101 S108 h) b_Jx4a65c_add_9ea2d q_4_21 (by rw [hK_a109]; decide) (s_E_0 hK_a109) rfl rfl rfl rfl ⟨Nat.le_of_ble_eq_true rfl, Nat.le_of_ble_eq_true rfl⟩ rfl hl.1 (Nat.le_of_ble_eq_true rfl) dX2_addSociety_27 ⟨hk1, hk2⟩) hS (fun x113 S112 H locs hn hR hS => ?_)
  replace h := hn
  clear hn
  have hk : (((kc + 1) + c106) + c110) ≤ mc ∧ (((ks + 12) + d107) + d111) ≤ ms := ⟨hk1, hk2⟩
  refine lv_pop hx hb dX2_addSociety_30 rfl ?_
  refine lv_aload hx hb dX2_addSociety_31 (lv_at hl 0 rfl) ?_
  obtain ⟨hK_q101, h⟩ := h
  refine x_g_192 C hR hK_q101 q_4_6 dX2_addSociety_33 ?_
  refine lv_topi (fun x114 ex114 => ?_)
  replace h := h x114 ex114
  refine W.widen (k := mc) (n := ms) hk.1 hk.2 ?_
  exact W.iret (v := x114) hx hb hr (fun t ht hW => ⟨⟨x114, S112, rfl, h, x_rt ht hR⟩, hS.F ht⟩) hS.2.2 dX2_addSociety_36
theorem mA_X2_addSociety (l : Launch) (gg : sG) (mc ms : Nat) (x0 : Nat) (x1 : Int32) (x2 : Int32) (x3 : Int32) (x4 : Int32) (S : sT) {Q : Int32 → sT → Prop} (h : wA_X2_addSociety mc ms x0 x1 x2 x3 x4 S Q) : x_Mi l gg yX2_addSociety (x_ws yX2_addSociety cX2_addSociety 6 (some .int)) (rA_X2_addSociety mc ms) [.ref x0, .int x1, .int x2, .int x3, .int x4] S Q mc ms := by
  refine x_ofW (cc := cX2_addSociety) (own := RX2) (by decide +kernel) rfl (Nat.le_of_ble_eq_true rfl) ?_
  intro p e s m args below meth c C hml hr hlocks hin ht H locs ls hR hS hl
  exact tA_X2_addSociety_b0 C hml hr hlocks ⟨Nat.zero_le _, Nat.zero_le _⟩ h H locs ls hR hS (lv_sub (l' := [(0, .ref x0), (1, .int x1), (2, .int x2), (3, .int x3), (4, .int x4)]) hl [0, 1, 2, 3, 4] rfl)
def wA_X5_take_b33 (mc ms kc ks : Nat) (x0 : Nat) (x1 : Nat) (S : sT)  (Q : sT → Prop) : Prop :=
s_K S x0 = 7 ∧
    ∃ a101 : Nat, s_R S 195 x0 = some a101 ∧
    s_K S a101 = 1 ∧
    ∃ c102 d103 : Nat, kc + c102 ≤ mc ∧ ks + d103 ≤ ms ∧
    wA_Jx4a65c_add_9ea2d c102 d103 a101 x1 S (fun x105 S104 =>
    Q S104)
def wA_X5_take_b0 (mc ms kc ks : Nat) (x0 : Nat) (x1 : Nat) (S : sT)  (Q : sT → Prop) : Prop :=
s_K S x0 = 7 ∧
    ∃ a101 : Nat, s_R S 195 x0 = some a101 ∧
    s_K S a101 = 1 ∧
    w_Jx4a65c_isEmpty_aae02 a101 S (fun x103 S102 =>
    ((¬ x103 = 0 → wA_X5_take_b33 mc ms kc ks x0 x1 S102  Q) ∧
    (x103 = 0 → s_K S102 x0 = 7 ∧
    ∃ a105 : Nat, s_R S102 195 x0 = some a105 ∧
    ∃ a106 : Nat, s_R S102 195 x0 = some a106 ∧
    s_K S102 a106 = 1 ∧
    w_Jx4a65c_size_8abf5 a106 S102 (fun x108 S107 =>
    ∀ x109 : Int32, x109 = x108 - (1 : Int32) →
    s_K S107 a105 = 1 ∧
    w_Jx4a65c_get_915e3 a105 x109 S107 (fun a111 S110 =>
    s_K S110 a111 = 3 ∧
    ∀ S112 : sT, S112 = s_sR S110 70 a111 (some x1) →
    wA_X5_take_b33 mc ms kc ks x0 x1 S112  Q)))))
def wA_X5_take (mc ms : Nat) (x0 : Nat) (x1 : Nat) (S : sT) (Q : sT → Prop) : Prop := wA_X5_take_b0 mc ms 0 0 x0 x1 S Q
def rA_X5_take (mc ms : Nat) : Room := x_rm 7 191 mc ms
theorem b_X5_take : x_BV yX5_take cX5_take 2 none 1 := ⟨q_9_21, q_9_19, q_9_20, q_4_5, by decide +kernel⟩
set_option maxHeartbeats 4000000 in
theorem tA_X5_take_b33 {Q : sT → Prop} (C : x_C p s m args c cX5_take RX5 gg) (hml : c.maxLocals = 2) (hr : meth.sig.returnType = none) (hlocks : meth.locks = false) {mc ms kc ks : Nat} (hk : kc ≤ mc ∧ ks ≤ ms) {x0 : Nat} {x1 : Nat}  {S : sT}  (h : wA_X5_take_b33 mc ms kc ks x0 x1 S  Q) : x_X p l e (rA_X5_take mc ms) s m args below meth c gg 2 kc ks (MQ below (va_Qv Q (fun S1 t => s_Rep gg S1 t.heap) (s_A gg)) args s mc ms (s_A gg)) 33 [(0, .ref x0), (1, .ref x1)] [] S := by
  unfold wA_X5_take_b33 at h
  obtain ⟨hx, hb, -⟩ := id C
  intro H locs ls hR hS hl
  refine lv_aload_n hx hb dX5_take_33 rfl (lv_at hl 0 rfl) ?_
  obtain ⟨hK_x0, h⟩ := h
  refine x_g_195 C hR hK_x0 q_4_13 dX5_take_34 ?_
  obtain ⟨a101, ea101, h⟩ := h
  refine x_some ea101 ?_
  refine lv_aload_n hx hb dX5_take_37 rfl (lv_at hl 1 rfl) ?_
  obtain ⟨hK_a101, h⟩ := h
  obtain ⟨c102, d103, hk1, hk2, h⟩ := h
  refine x_ki (x_runV (As := [.ref x1]) (rest := []) C hml hR hS (mA_Jx4a65c_add_9ea2d l gg c102 d103 a101 x1 S h) b_Jx4a65c_add_9ea2d q_10_6 (by rw [hK_a101]; decide) (s_E_0 hK_a101) rfl rfl rfl rfl ⟨Nat.le_of_ble_eq_true rfl, Nat.le_of_ble_eq_true rfl⟩ rfl hl.1 (Nat.le_of_ble_eq_true rfl) dX5_take_38 ⟨hk1, hk2⟩) hS (fun x105 S104 H locs hn hR hS => ?_)
  replace h := hn
  clear hn
  have hk : (kc + c102) ≤ mc ∧ (ks + d103) ≤ ms := ⟨hk1, hk2⟩
  refine lv_pop hx hb dX5_take_41 rfl ?_
  refine W.widen (k := mc) (n := ms) hk.1 hk.2 ?_
  exact W.vret hx hb hr (fun t ht hW => ⟨⟨S104, rfl, h, x_rt ht hR⟩, hS.F ht⟩) hS.2.2 dX5_take_42
set_option maxHeartbeats 4000000 in
theorem tA_X5_take_b0 {Q : sT → Prop} (C : x_C p s m args c cX5_take RX5 gg) (hml : c.maxLocals = 2) (hr : meth.sig.returnType = none) (hlocks : meth.locks = false) {mc ms kc ks : Nat} (hk : kc ≤ mc ∧ ks ≤ ms) {x0 : Nat} {x1 : Nat}  {S : sT}  (h : wA_X5_take_b0 mc ms kc ks x0 x1 S  Q) : x_X p l e (rA_X5_take mc ms) s m args below meth c gg 2 kc ks (MQ below (va_Qv Q (fun S1 t => s_Rep gg S1 t.heap) (s_A gg)) args s mc ms (s_A gg)) 0 [(0, .ref x0), (1, .ref x1)] [] S := by
  unfold wA_X5_take_b0 at h
  obtain ⟨hx, hb, -⟩ := id C
  intro H locs ls hR hS hl
  refine lv_aload_n hx hb dX5_take_0 rfl (lv_at hl 0 rfl) ?_
  obtain ⟨hK_x0, h⟩ := h
  refine x_g_195 C hR hK_x0 q_4_13 dX5_take_1 ?_
  obtain ⟨a101, ea101, h⟩ := h
  refine x_some ea101 ?_
  obtain ⟨hK_a101, h⟩ := h
  refine x_ki (x_runV (As := []) (rest := []) C hml hR hS (m_Jx4a65c_isEmpty_aae02 l gg a101 S h) b_Jx4a65c_isEmpty_aae02 q_10_0 (by rw [hK_a101]; decide) (s_E_0 hK_a101) rfl rfl rfl rfl ⟨Nat.le_of_ble_eq_true rfl, Nat.le_of_ble_eq_true rfl⟩ rfl hl.1 (Nat.le_of_ble_eq_true rfl) dX5_take_4 ⟨hk.1, hk.2⟩) hS (fun x103 S102 H locs hn hR hS => ?_)
  replace h := hn
  clear hn
  refine lv_if_ne (tgt := 33) hx hb dX5_take_7 (by decide) (fun hc104 => ?_) (fun hc104 => ?_)
  · replace h := h.1 hc104
    exact tA_X5_take_b33 C hml hr hlocks hk  h H locs ls hR hS (lv_sub (l' := [(0, .ref x0), (1, .ref x1)]) hl [0, 1] rfl)
  · replace h := h.2 hc104
    refine lv_aload_n hx hb dX5_take_10 rfl (lv_at hl 0 rfl) ?_
    obtain ⟨hK_x0, h⟩ := h
    refine x_g_195 C hR hK_x0 q_4_13 dX5_take_11 ?_
    obtain ⟨a105, ea105, h⟩ := h
    refine x_some ea105 ?_
    refine lv_aload_n hx hb dX5_take_14 rfl (lv_at hl 0 rfl) ?_
    refine x_g_195 C hR hK_x0 q_4_13 dX5_take_15 ?_
    obtain ⟨a106, ea106, h⟩ := h
    refine x_some ea106 ?_
    obtain ⟨hK_a106, h⟩ := h
    refine x_ki (x_runV (As := []) (rest := [.ref a105]) C hml hR hS (m_Jx4a65c_size_8abf5 l gg a106 S102 h) b_Jx4a65c_size_8abf5 q_10_4 (by rw [hK_a106]; decide) (s_E_0 hK_a106) rfl rfl rfl rfl ⟨Nat.le_of_ble_eq_true rfl, Nat.le_of_ble_eq_true rfl⟩ rfl hl.1 (Nat.le_of_ble_eq_true rfl) dX5_take_18 ⟨hk.1, hk.2⟩) hS (fun x108 S107 H locs hn hR hS => ?_)
    replace h := hn
    clear hn
    refine lv_iconst (v := 1) hx hb dX5_take_21 (by decide) ?_
    refine lv_isub hx hb dX5_take_22 ?_
    refine lv_topi (fun x109 ex109 => ?_)
    replace h := h x109 ex109
    obtain ⟨hK_a105, h⟩ := h
    refine x_kq (x_runV (As := [.int x109]) (rest := []) C hml hR hS (m_Jx4a65c_get_915e3 l gg a105 x109 S107 h) b_Jx4a65c_get_915e3 q_10_5 (by rw [hK_a105]; decide) (s_E_0 hK_a105) rfl rfl rfl rfl ⟨Nat.le_of_ble_eq_true rfl, Nat.le_of_ble_eq_true rfl⟩ rfl hl.1 (Nat.le_of_ble_eq_true rfl) dX5_take_23 ⟨hk.1, hk.2⟩) hS (fun ra111 S110 H locs hn hR hS => ?_)
    replace h := hn
    clear hn
    obtain ⟨a111, za111, h⟩ := h
    refine x_some za111 ?_
    obtain ⟨hK_a111, h⟩ := h
    refine x_cast (ci := 2) C hR (by rw [hK_a111]; decide) (s_E_2 hK_a111) rfl q_9_22 rfl dX5_take_26 ?_
    refine lv_aload_n hx hb dX5_take_29 rfl (lv_at hl 1 rfl) ?_
    refine x_p_70 (v := (some x1)) C hR hK_a111 hS q_9_23 dX5_take_30 (fun H locs hR hS => ?_)
    obtain ⟨S112, eS112⟩ : ∃ z : sT, z = s_sR S110 70 a111 (some x1) := ⟨_, rfl⟩
    rw [← eS112] at hR
    replace h := h S112 eS112
    have hK_a111 : s_K S112 a111 = 3 := by rw [eS112]; exact hK_a111
    exact tA_X5_take_b33 C hml hr hlocks hk  h H locs ls hR hS (lv_sub (l' := [(0, .ref x0), (1, .ref x1)]) hl [0, 1] rfl)
theorem mA_X5_take (l : Launch) (gg : sG) (mc ms : Nat) (x0 : Nat) (x1 : Nat) (S : sT) {Q : sT → Prop} (h : wA_X5_take mc ms x0 x1 S Q) : x_Mv l gg yX5_take (x_ws yX5_take cX5_take 2 none) (rA_X5_take mc ms) [.ref x0, .ref x1] S Q mc ms := by
  refine x_ofW (cc := cX5_take) (own := RX5) (by decide +kernel) rfl (Nat.le_of_ble_eq_true rfl) ?_
  intro p e s m args below meth c C hml hr hlocks hin ht H locs ls hR hS hl
  exact tA_X5_take_b0 C hml hr hlocks ⟨Nat.zero_le _, Nat.zero_le _⟩ h H locs ls hR hS (lv_sub (l' := [(0, .ref x0), (1, .ref x1)]) hl [0, 1] rfl)
def wA_X2_addField_b15 (mc ms kc ks : Nat)  (S : sT)  (Q : Int32 → sT → Prop) : Prop :=
Q (-1 : Int32) S
def wA_X2_addField_b0 (mc ms kc ks : Nat) (x0 : Nat) (x1 : Int32) (x2 : Int32) (x3 : Int32) (S : sT)  (Q : Int32 → sT → Prop) : Prop :=
((x1 < 0 → wA_X2_addField_b15 mc ms kc ks  S  Q) ∧
    (¬ x1 < 0 → s_K S x0 = 4 ∧
    ∃ a102 : Nat, s_R S 96 x0 = some a102 ∧
    s_K S a102 = 1 ∧
    w_Jx4a65c_size_8abf5 a102 S (fun x104 S103 =>
    ((x1 < x104 → s_K S103 x0 = 4 ∧
    ∃ a106 : Nat, s_R S103 96 x0 = some a106 ∧
    s_K S103 a106 = 1 ∧
    w_Jx4a65c_get_915e3 a106 x1 S103 (fun a108 S107 =>
    s_K S107 a108 = 7 ∧
    (kc + 1) ≤ mc ∧ (ks + 17) ≤ ms ∧
    ∀ q109 : Nat, s_fr S107 q109 →
    ∀ S110 : sT, S110 = s_nw S107 q109 3 0 →
    s_K S110 x0 = 4 ∧
    ∃ a111 : Nat, s_R S110 97 x0 = some a111 ∧
    s_K S110 a111 = 1 ∧
    w_Jx4a65c_size_8abf5 a111 S110 (fun x113 S112 =>
    ∃ c114 d115 : Nat, (kc + 1) + c114 ≤ mc ∧ (ks + 17) + d115 ≤ ms ∧
    wA_X1_init c114 d115 q109 x113 a108 x2 x3 S112 (fun S116 =>
    s_K S116 a108 = 7 ∧
    ∃ c117 d118 : Nat, ((kc + 1) + c114) + c117 ≤ mc ∧ ((ks + 17) + d115) + d118 ≤ ms ∧
    wA_X5_take c117 d118 a108 q109 S116 (fun S119 =>
    s_K S119 x0 = 4 ∧
    ∃ a120 : Nat, s_R S119 97 x0 = some a120 ∧
    s_K S119 a120 = 1 ∧
    ∃ c121 d122 : Nat, (((kc + 1) + c114) + c117) + c121 ≤ mc ∧ (((ks + 17) + d115) + d118) + d122 ≤ ms ∧
    wA_Jx4a65c_add_9ea2d c121 d122 a120 q109 S119 (fun x124 S123 =>
    s_K S123 q109 = 3 ∧
    ∀ x125 : Int32, x125 = s_I S123 64 q109 →
    Q x125 S123)))))) ∧
    (¬ x1 < x104 → wA_X2_addField_b15 mc ms kc ks  S103  Q)))))
def wA_X2_addField (mc ms : Nat) (x0 : Nat) (x1 : Int32) (x2 : Int32) (x3 : Int32) (S : sT) (Q : Int32 → sT → Prop) : Prop := wA_X2_addField_b0 mc ms 0 0 x0 x1 x2 x3 S Q
def rA_X2_addField (mc ms : Nat) : Room := x_rm 8 212 mc ms
theorem b_X2_addField : x_BV yX2_addField cX2_addField 6 (some .int) 3 := ⟨q_8_8, q_8_6, q_8_7, q_1_12, by decide +kernel⟩
set_option maxHeartbeats 4000000 in
theorem tA_X2_addField_b15 {Q : Int32 → sT → Prop} (C : x_C p s m args c cX2_addField RX2 gg) (hml : c.maxLocals = 6) (hr : meth.sig.returnType = (some .int)) (hlocks : meth.locks = false) {mc ms kc ks : Nat} (hk : kc ≤ mc ∧ ks ≤ ms)   {S : sT}  (h : wA_X2_addField_b15 mc ms kc ks  S  Q) : x_X p l e (rA_X2_addField mc ms) s m args below meth c gg 6 kc ks (MQ below (va_Qi Q (fun S1 t => s_Rep gg S1 t.heap) (s_A gg)) args s mc ms (s_A gg)) 15 [] [] S := by
  unfold wA_X2_addField_b15 at h
  obtain ⟨hx, hb, -⟩ := id C
  intro H locs ls hR hS hl
  refine lv_iconst (v := (-1)) hx hb dX2_addField_15 (by decide) ?_
  refine W.widen (k := mc) (n := ms) hk.1 hk.2 ?_
  exact W.iret (v := (-1 : Int32)) hx hb hr (fun t ht hW => ⟨⟨(-1 : Int32), S, rfl, h, x_rt ht hR⟩, hS.F ht⟩) hS.2.2 dX2_addField_16
set_option maxHeartbeats 4000000 in
theorem tA_X2_addField_b0 {Q : Int32 → sT → Prop} (C : x_C p s m args c cX2_addField RX2 gg) (hml : c.maxLocals = 6) (hr : meth.sig.returnType = (some .int)) (hlocks : meth.locks = false) {mc ms kc ks : Nat} (hk : kc ≤ mc ∧ ks ≤ ms) {x0 : Nat} {x1 : Int32} {x2 : Int32} {x3 : Int32}  {S : sT}  (h : wA_X2_addField_b0 mc ms kc ks x0 x1 x2 x3 S  Q) : x_X p l e (rA_X2_addField mc ms) s m args below meth c gg 6 kc ks (MQ below (va_Qi Q (fun S1 t => s_Rep gg S1 t.heap) (s_A gg)) args s mc ms (s_A gg)) 0 [(0, .ref x0), (1, .int x1), (2, .int x2), (3, .int x3)] [] S := by
  unfold wA_X2_addField_b0 at h
  obtain ⟨hx, hb, -⟩ := id C
  intro H locs ls hR hS hl
  refine lv_iload_n hx hb dX2_addField_0 rfl (lv_at hl 1 rfl) ?_
  refine lv_if_lt (tgt := 15) hx hb dX2_addField_1 (by decide) (fun hc101 => ?_) (fun hc101 => ?_)
  · replace h := h.1 hc101
    exact tA_X2_addField_b15 C hml hr hlocks hk  h H locs ls hR hS (lv_sub (l' := []) hl [] rfl)
  · replace h := h.2 hc101
    refine lv_iload_n hx hb dX2_addField_4 rfl (lv_at hl 1 rfl) ?_
    refine lv_aload_n hx hb dX2_addField_5 rfl (lv_at hl 0 rfl) ?_
    obtain ⟨hK_x0, h⟩ := h
    refine x_g_96 C hR hK_x0 q_1_21 dX2_addField_6 ?_
    obtain ⟨a102, ea102, h⟩ := h
    refine x_some ea102 ?_
    obtain ⟨hK_a102, h⟩ := h
    refine x_ki (x_runV (As := []) (rest := [.int x1]) C hml hR hS (m_Jx4a65c_size_8abf5 l gg a102 S h) b_Jx4a65c_size_8abf5 q_4_7 (by rw [hK_a102]; decide) (s_E_0 hK_a102) rfl rfl rfl rfl ⟨Nat.le_of_ble_eq_true rfl, Nat.le_of_ble_eq_true rfl⟩ rfl hl.1 (Nat.le_of_ble_eq_true rfl) dX2_addField_9 ⟨hk.1, hk.2⟩) hS (fun x104 S103 H locs hn hR hS => ?_)
    replace h := hn
    clear hn
    refine lv_icmp_lt (tgt := 17) hx hb dX2_addField_12 (by decide) (fun hc105 => ?_) (fun hc105 => ?_)
    · replace h := h.1 hc105
      refine lv_aload_n hx hb dX2_addField_17 rfl (lv_at hl 0 rfl) ?_
      obtain ⟨hK_x0, h⟩ := h
      refine x_g_96 C hR hK_x0 q_1_21 dX2_addField_18 ?_
      obtain ⟨a106, ea106, h⟩ := h
      refine x_some ea106 ?_
      refine lv_iload_n hx hb dX2_addField_21 rfl (lv_at hl 1 rfl) ?_
      obtain ⟨hK_a106, h⟩ := h
      refine x_kq (x_runV (As := [.int x1]) (rest := []) C hml hR hS (m_Jx4a65c_get_915e3 l gg a106 x1 S103 h) b_Jx4a65c_get_915e3 q_8_14 (by rw [hK_a106]; decide) (s_E_0 hK_a106) rfl rfl rfl rfl ⟨Nat.le_of_ble_eq_true rfl, Nat.le_of_ble_eq_true rfl⟩ rfl hl.1 (Nat.le_of_ble_eq_true rfl) dX2_addField_22 ⟨hk.1, hk.2⟩) hS (fun ra108 S107 H locs hn hR hS => ?_)
      replace h := hn
      clear hn
      obtain ⟨a108, za108, h⟩ := h
      refine x_some za108 ?_
      obtain ⟨hK_a108, h⟩ := h
      refine x_cast (ci := 6) C hR (by rw [hK_a108]; decide) (s_E_6 hK_a108) rfl q_8_9 rfl dX2_addField_25 ?_
      refine lv_astore (lv' := [(4, .ref a108), (0, .ref x0), (1, .int x1), (2, .int x2), (3, .int x3)]) hx hb dX2_addField_28 hl (by decide) rfl (fun ls hl => ?_)
      obtain ⟨hk1, hk2, h⟩ := h
      refine x_nw_2 (a := 0) C hR hS q_20_11 q_8_11 q_8_12 hk1 hk2 dX2_addField_30 (fun q109 H hq9 hq hR hS => ?_)
      replace h := h q109 hq
      have hk : (kc + 1) ≤ mc ∧ (ks + 17) ≤ ms := ⟨hk1, hk2⟩
      obtain ⟨S110, eS110⟩ : ∃ z : sT, z = s_nw S107 q109 3 0 := ⟨_, rfl⟩
      rw [← eS110] at hR
      replace h := h S110 eS110
      have hK_q109 : s_K S110 q109 = 3 := by rw [eS110]; exact s_nw_K
      refine lv_dup hx hb dX2_addField_33 rfl ?_
      refine lv_aload_n hx hb dX2_addField_34 rfl (lv_at hl 1 rfl) ?_
      obtain ⟨hK_x0, h⟩ := h
      refine x_g_97 C hR hK_x0 q_1_22 dX2_addField_35 ?_
      obtain ⟨a111, ea111, h⟩ := h
      refine x_some ea111 ?_
      obtain ⟨hK_a111, h⟩ := h
      refine x_ki (x_runV (As := []) (rest := [.ref q109, .ref q109]) C hml hR hS (m_Jx4a65c_size_8abf5 l gg a111 S110 h) b_Jx4a65c_size_8abf5 q_4_7 (by rw [hK_a111]; decide) (s_E_0 hK_a111) rfl rfl rfl rfl ⟨Nat.le_of_ble_eq_true rfl, Nat.le_of_ble_eq_true rfl⟩ rfl hl.1 (Nat.le_of_ble_eq_true rfl) dX2_addField_38 ⟨hk.1, hk.2⟩) hS (fun x113 S112 H locs hn hR hS => ?_)
      replace h := hn
      clear hn
      refine lv_aload hx hb dX2_addField_41 (lv_at hl 0 rfl) ?_
      refine lv_iload_n hx hb dX2_addField_43 rfl (lv_at hl 3 rfl) ?_
      refine lv_iload_n hx hb dX2_addField_44 rfl (lv_at hl 4 rfl) ?_
      obtain ⟨c114, d115, hk1, hk2, h⟩ := h
      refine x_kv (x_runI (As := [.int x113, .ref a108, .int x2, .int x3]) (rest := [.ref q109]) C hml hR hS (mA_X1_init l gg c114 d115 q109 x113 a108 x2 x3 S112 h) b_X1_init q_8_15 rfl rfl ⟨Nat.le_of_ble_eq_true rfl, Nat.le_of_ble_eq_true rfl⟩ rfl hl.1 (Nat.le_of_ble_eq_true rfl) dX2_addField_45 ⟨hk1, hk2⟩) hS (fun S116 H locs hn hR hS => ?_)
      replace h := hn
      clear hn
      have hk : ((kc + 1) + c114) ≤ mc ∧ ((ks + 17) + d115) ≤ ms := ⟨hk1, hk2⟩
      refine lv_astore (lv' := [(5, .ref q109), (4, .ref a108), (0, .ref x0), (1, .int x1), (2, .int x2), (3, .int x3)]) hx hb dX2_addField_48 hl (by decide) rfl (fun ls hl => ?_)
      refine lv_aload hx hb dX2_addField_50 (lv_at hl 1 rfl) ?_
      refine lv_aload hx hb dX2_addField_52 (lv_at hl 0 rfl) ?_
      obtain ⟨hK_a108, h⟩ := h
      obtain ⟨c117, d118, hk1, hk2, h⟩ := h
      refine x_kv (x_runV (As := [.ref q109]) (rest := []) C hml hR hS (mA_X5_take l gg c117 d118 a108 q109 S116 h) b_X5_take q_9_18 (by rw [hK_a108]; decide) (s_E_6 hK_a108) rfl rfl rfl rfl ⟨Nat.le_of_ble_eq_true rfl, Nat.le_of_ble_eq_true rfl⟩ rfl hl.1 (Nat.le_of_ble_eq_true rfl) dX2_addField_54 ⟨hk1, hk2⟩) hS (fun S119 H locs hn hR hS => ?_)
      replace h := hn
      clear hn
      have hk : (((kc + 1) + c114) + c117) ≤ mc ∧ (((ks + 17) + d115) + d118) ≤ ms := ⟨hk1, hk2⟩
      refine lv_aload_n hx hb dX2_addField_57 rfl (lv_at hl 2 rfl) ?_
      obtain ⟨hK_x0, h⟩ := h
      refine x_g_97 C hR hK_x0 q_1_22 dX2_addField_58 ?_
      obtain ⟨a120, ea120, h⟩ := h
      refine x_some ea120 ?_
      refine lv_aload hx hb dX2_addField_61 (lv_at hl 0 rfl) ?_
      obtain ⟨hK_a120, h⟩ := h
      obtain ⟨c121, d122, hk1, hk2, h⟩ := h
      refine x_ki (x_runV (As := [.ref q109]) (rest := []) C hml hR hS (mA_Jx4a65c_add_9ea2d l gg c121 d122 a120 q109 S119 h) b_Jx4a65c_add_9ea2d q_4_21 (by rw [hK_a120]; decide) (s_E_0 hK_a120) rfl rfl rfl rfl ⟨Nat.le_of_ble_eq_true rfl, Nat.le_of_ble_eq_true rfl⟩ rfl hl.1 (Nat.le_of_ble_eq_true rfl) dX2_addField_63 ⟨hk1, hk2⟩) hS (fun x124 S123 H locs hn hR hS => ?_)
      replace h := hn
      clear hn
      have hk : ((((kc + 1) + c114) + c117) + c121) ≤ mc ∧ ((((ks + 17) + d115) + d118) + d122) ≤ ms := ⟨hk1, hk2⟩
      refine lv_pop hx hb dX2_addField_66 rfl ?_
      refine lv_aload hx hb dX2_addField_67 (lv_at hl 0 rfl) ?_
      obtain ⟨hK_q109, h⟩ := h
      refine x_g_64 C hR hK_q109 q_8_13 dX2_addField_69 ?_
      refine lv_topi (fun x125 ex125 => ?_)
      replace h := h x125 ex125
      refine W.widen (k := mc) (n := ms) hk.1 hk.2 ?_
      exact W.iret (v := x125) hx hb hr (fun t ht hW => ⟨⟨x125, S123, rfl, h, x_rt ht hR⟩, hS.F ht⟩) hS.2.2 dX2_addField_72
    · replace h := h.2 hc105
      exact tA_X2_addField_b15 C hml hr hlocks hk  h H locs ls hR hS (lv_sub (l' := []) hl [] rfl)
theorem mA_X2_addField (l : Launch) (gg : sG) (mc ms : Nat) (x0 : Nat) (x1 : Int32) (x2 : Int32) (x3 : Int32) (S : sT) {Q : Int32 → sT → Prop} (h : wA_X2_addField mc ms x0 x1 x2 x3 S Q) : x_Mi l gg yX2_addField (x_ws yX2_addField cX2_addField 6 (some .int)) (rA_X2_addField mc ms) [.ref x0, .int x1, .int x2, .int x3] S Q mc ms := by
  refine x_ofW (cc := cX2_addField) (own := RX2) (by decide +kernel) rfl (Nat.le_of_ble_eq_true rfl) ?_
  intro p e s m args below meth c C hml hr hlocks hin ht H locs ls hR hS hl
  exact tA_X2_addField_b0 C hml hr hlocks ⟨Nat.zero_le _, Nat.zero_le _⟩ h H locs ls hR hS (lv_sub (l' := [(0, .ref x0), (1, .int x1), (2, .int x2), (3, .int x3)]) hl [0, 1, 2, 3] rfl)
def wA_X6_society_b43 (mc ms kc ks : Nat)  (S : sT)  (Q : Int32 → sT → Prop) : Prop :=
False
def wA_X6_society_b0 (mc ms kc ks : Nat) (x0 : Nat) (x1 : Int32) (x2 : Int32) (x3 : Int32) (x4 : Int32) (S : sT)  (Q : Int32 → sT → Prop) : Prop :=
w_X6_isWithin x1 (1 : Int32) (9 : Int32) S (fun x102 S101 =>
    ((x102 = 0 → wA_X6_society_b43 mc ms kc ks  S101  Q) ∧
    (¬ x102 = 0 → w_X6_isWithin x2 (0 : Int32) (50 : Int32) S101 (fun x105 S104 =>
    ((x105 = 0 → wA_X6_society_b43 mc ms kc ks  S104  Q) ∧
    (¬ x105 = 0 → w_X6_isWithin x3 (0 : Int32) (209 : Int32) S104 (fun x108 S107 =>
    ((x108 = 0 → wA_X6_society_b43 mc ms kc ks  S107  Q) ∧
    (¬ x108 = 0 → w_X6_isWithin x4 (1 : Int32) (210 : Int32) S107 (fun x111 S110 =>
    ((¬ x111 = 0 → s_K S110 x0 = 8 ∧
    ∃ a113 : Nat, s_R S110 224 x0 = some a113 ∧
    s_K S110 a113 = 4 ∧
    ∃ a114 : Nat, s_R S110 96 a113 = some a114 ∧
    s_K S110 a114 = 1 ∧
    w_Jx4a65c_size_8abf5 a114 S110 (fun x116 S115 =>
    ((x116 < (3 : Int32) → s_K S115 x0 = 8 ∧
    ∃ a118 : Nat, s_R S115 225 x0 = some a118 ∧
    s_K S115 a118 = 4 ∧
    ∃ c119 d120 : Nat, kc + c119 ≤ mc ∧ ks + d120 ≤ ms ∧
    wA_X2_addSociety c119 d120 a118 x1 x2 x3 x4 S115 (fun x122 S121 =>
    s_K S121 x0 = 8 ∧
    ∃ a123 : Nat, s_R S121 224 x0 = some a123 ∧
    s_K S121 a123 = 4 ∧
    ∃ c124 d125 : Nat, (kc + c119) + c124 ≤ mc ∧ (ks + d120) + d125 ≤ ms ∧
    wA_X2_addSociety c124 d125 a123 x1 x2 x3 x4 S121 (fun x127 S126 =>
    Q x127 S126))) ∧
    (¬ x116 < (3 : Int32) → False)))) ∧
    (x111 = 0 → wA_X6_society_b43 mc ms kc ks  S110  Q))))))))))))
def wA_X6_society (mc ms : Nat) (x0 : Nat) (x1 : Int32) (x2 : Int32) (x3 : Int32) (x4 : Int32) (S : sT) (Q : Int32 → sT → Prop) : Prop := wA_X6_society_b0 mc ms 0 0 x0 x1 x2 x3 x4 S Q
def rA_X6_society (mc ms : Nat) : Room := x_rm 8 216 mc ms
theorem b_X6_society : x_BV yX6_society cX6_society 5 (some .int) 4 := ⟨q_3_9, q_3_7, q_3_8, q_1_2, by decide +kernel⟩
set_option maxHeartbeats 4000000 in
theorem tA_X6_society_b43 {Q : Int32 → sT → Prop} (C : x_C p s m args c cX6_society RX6 gg) (hml : c.maxLocals = 5) (hr : meth.sig.returnType = (some .int)) (hlocks : meth.locks = false) {mc ms kc ks : Nat} (hk : kc ≤ mc ∧ ks ≤ ms)   {S : sT}  (h : wA_X6_society_b43 mc ms kc ks  S  Q) : x_X p l e (rA_X6_society mc ms) s m args below meth c gg 5 kc ks (MQ below (va_Qi Q (fun S1 t => s_Rep gg S1 t.heap) (s_A gg)) args s mc ms (s_A gg)) 43 [] [] S := by
  unfold wA_X6_society_b43 at h
  obtain ⟨hx, hb, -⟩ := id C
  intro H locs ls hR hS hl
  exact h.elim
set_option maxHeartbeats 4000000 in
theorem tA_X6_society_b0 {Q : Int32 → sT → Prop} (C : x_C p s m args c cX6_society RX6 gg) (hml : c.maxLocals = 5) (hr : meth.sig.returnType = (some .int)) (hlocks : meth.locks = false) {mc ms kc ks : Nat} (hk : kc ≤ mc ∧ ks ≤ ms) {x0 : Nat} {x1 : Int32} {x2 : Int32} {x3 : Int32} {x4 : Int32}  {S : sT}  (h : wA_X6_society_b0 mc ms kc ks x0 x1 x2 x3 x4 S  Q) : x_X p l e (rA_X6_society mc ms) s m args below meth c gg 5 kc ks (MQ below (va_Qi Q (fun S1 t => s_Rep gg S1 t.heap) (s_A gg)) args s mc ms (s_A gg)) 0 [(0, .ref x0), (1, .int x1), (2, .int x2), (3, .int x3), (4, .int x4)] [] S := by
  unfold wA_X6_society_b0 at h
  obtain ⟨hx, hb, -⟩ := id C
  intro H locs ls hR hS hl
  refine lv_iload_n hx hb dX6_society_0 rfl (lv_at hl 1 rfl) ?_
  refine lv_iconst (v := 1) hx hb dX6_society_1 (by decide) ?_
  refine lv_bipush (v := 9) hx hb dX6_society_2 (by decide) ?_
  refine x_ki (x_runS (As := [.int x1, .int (1 : Int32), .int (9 : Int32)]) (rest := []) C hml hR hS (m_X6_isWithin l gg x1 (1 : Int32) (9 : Int32) S h) b_X6_isWithin q_3_15 rfl rfl ⟨Nat.le_of_ble_eq_true rfl, Nat.le_of_ble_eq_true rfl⟩ rfl hl.1 (Nat.le_of_ble_eq_true rfl) dX6_society_4 ⟨hk.1, hk.2⟩) hS (fun x102 S101 H locs hn hR hS => ?_)
  replace h := hn
  clear hn
  refine lv_if_eq (tgt := 43) hx hb dX6_society_7 (by decide) (fun hc103 => ?_) (fun hc103 => ?_)
  · replace h := h.1 hc103
    exact tA_X6_society_b43 C hml hr hlocks hk  h H locs ls hR hS (lv_sub (l' := []) hl [] rfl)
  · replace h := h.2 hc103
    refine lv_iload_n hx hb dX6_society_10 rfl (lv_at hl 2 rfl) ?_
    refine lv_iconst (v := 0) hx hb dX6_society_11 (by decide) ?_
    refine lv_bipush (v := 50) hx hb dX6_society_12 (by decide) ?_
    refine x_ki (x_runS (As := [.int x2, .int (0 : Int32), .int (50 : Int32)]) (rest := []) C hml hR hS (m_X6_isWithin l gg x2 (0 : Int32) (50 : Int32) S101 h) b_X6_isWithin q_3_15 rfl rfl ⟨Nat.le_of_ble_eq_true rfl, Nat.le_of_ble_eq_true rfl⟩ rfl hl.1 (Nat.le_of_ble_eq_true rfl) dX6_society_14 ⟨hk.1, hk.2⟩) hS (fun x105 S104 H locs hn hR hS => ?_)
    replace h := hn
    clear hn
    refine lv_if_eq (tgt := 43) hx hb dX6_society_17 (by decide) (fun hc106 => ?_) (fun hc106 => ?_)
    · replace h := h.1 hc106
      exact tA_X6_society_b43 C hml hr hlocks hk  h H locs ls hR hS (lv_sub (l' := []) hl [] rfl)
    · replace h := h.2 hc106
      refine lv_iload_n hx hb dX6_society_20 rfl (lv_at hl 3 rfl) ?_
      refine lv_iconst (v := 0) hx hb dX6_society_21 (by decide) ?_
      refine lv_sipush (v := 209) hx hb dX6_society_22 (by decide) ?_
      refine x_ki (x_runS (As := [.int x3, .int (0 : Int32), .int (209 : Int32)]) (rest := []) C hml hR hS (m_X6_isWithin l gg x3 (0 : Int32) (209 : Int32) S104 h) b_X6_isWithin q_3_15 rfl rfl ⟨Nat.le_of_ble_eq_true rfl, Nat.le_of_ble_eq_true rfl⟩ rfl hl.1 (Nat.le_of_ble_eq_true rfl) dX6_society_25 ⟨hk.1, hk.2⟩) hS (fun x108 S107 H locs hn hR hS => ?_)
      replace h := hn
      clear hn
      refine lv_if_eq (tgt := 43) hx hb dX6_society_28 (by decide) (fun hc109 => ?_) (fun hc109 => ?_)
      · replace h := h.1 hc109
        exact tA_X6_society_b43 C hml hr hlocks hk  h H locs ls hR hS (lv_sub (l' := []) hl [] rfl)
      · replace h := h.2 hc109
        refine lv_iload hx hb dX6_society_31 (lv_at hl 4 rfl) ?_
        refine lv_iconst (v := 1) hx hb dX6_society_33 (by decide) ?_
        refine lv_sipush (v := 210) hx hb dX6_society_34 (by decide) ?_
        refine x_ki (x_runS (As := [.int x4, .int (1 : Int32), .int (210 : Int32)]) (rest := []) C hml hR hS (m_X6_isWithin l gg x4 (1 : Int32) (210 : Int32) S107 h) b_X6_isWithin q_3_15 rfl rfl ⟨Nat.le_of_ble_eq_true rfl, Nat.le_of_ble_eq_true rfl⟩ rfl hl.1 (Nat.le_of_ble_eq_true rfl) dX6_society_37 ⟨hk.1, hk.2⟩) hS (fun x111 S110 H locs hn hR hS => ?_)
        replace h := hn
        clear hn
        refine lv_if_ne (tgt := 53) hx hb dX6_society_40 (by decide) (fun hc112 => ?_) (fun hc112 => ?_)
        · replace h := h.1 hc112
          refine lv_aload_n hx hb dX6_society_53 rfl (lv_at hl 0 rfl) ?_
          obtain ⟨hK_x0, h⟩ := h
          refine x_g_224 C hR hK_x0 q_1_13 dX6_society_54 ?_
          obtain ⟨a113, ea113, h⟩ := h
          refine x_some ea113 ?_
          obtain ⟨hK_a113, h⟩ := h
          refine x_g_96 C hR hK_a113 q_3_14 dX6_society_57 ?_
          obtain ⟨a114, ea114, h⟩ := h
          refine x_some ea114 ?_
          obtain ⟨hK_a114, h⟩ := h
          refine x_ki (x_runV (As := []) (rest := []) C hml hR hS (m_Jx4a65c_size_8abf5 l gg a114 S110 h) b_Jx4a65c_size_8abf5 q_3_18 (by rw [hK_a114]; decide) (s_E_0 hK_a114) rfl rfl rfl rfl ⟨Nat.le_of_ble_eq_true rfl, Nat.le_of_ble_eq_true rfl⟩ rfl hl.1 (Nat.le_of_ble_eq_true rfl) dX6_society_60 ⟨hk.1, hk.2⟩) hS (fun x116 S115 H locs hn hR hS => ?_)
          replace h := hn
          clear hn
          refine lv_iconst (v := 3) hx hb dX6_society_63 (by decide) ?_
          refine lv_icmp_lt (tgt := 77) hx hb dX6_society_64 (by decide) (fun hc117 => ?_) (fun hc117 => ?_)
          · replace h := h.1 hc117
            refine lv_aload_n hx hb dX6_society_77 rfl (lv_at hl 0 rfl) ?_
            obtain ⟨hK_x0, h⟩ := h
            refine x_g_225 C hR hK_x0 q_1_14 dX6_society_78 ?_
            obtain ⟨a118, ea118, h⟩ := h
            refine x_some ea118 ?_
            refine lv_iload_n hx hb dX6_society_81 rfl (lv_at hl 1 rfl) ?_
            refine lv_iload_n hx hb dX6_society_82 rfl (lv_at hl 2 rfl) ?_
            refine lv_iload_n hx hb dX6_society_83 rfl (lv_at hl 3 rfl) ?_
            refine lv_iload hx hb dX6_society_84 (lv_at hl 4 rfl) ?_
            obtain ⟨hK_a118, h⟩ := h
            obtain ⟨c119, d120, hk1, hk2, h⟩ := h
            refine x_ki (x_runV (As := [.int x1, .int x2, .int x3, .int x4]) (rest := []) C hml hR hS (mA_X2_addSociety l gg c119 d120 a118 x1 x2 x3 x4 S115 h) b_X2_addSociety q_3_23 (by rw [hK_a118]; decide) (s_E_3 hK_a118) rfl rfl rfl rfl ⟨Nat.le_of_ble_eq_true rfl, Nat.le_of_ble_eq_true rfl⟩ rfl hl.1 (Nat.le_of_ble_eq_true rfl) dX6_society_86 ⟨hk1, hk2⟩) hS (fun x122 S121 H locs hn hR hS => ?_)
            replace h := hn
            clear hn
            have hk : (kc + c119) ≤ mc ∧ (ks + d120) ≤ ms := ⟨hk1, hk2⟩
            refine lv_pop hx hb dX6_society_89 rfl ?_
            refine lv_aload_n hx hb dX6_society_90 rfl (lv_at hl 0 rfl) ?_
            obtain ⟨hK_x0, h⟩ := h
            refine x_g_224 C hR hK_x0 q_1_13 dX6_society_91 ?_
            obtain ⟨a123, ea123, h⟩ := h
            refine x_some ea123 ?_
            refine lv_iload_n hx hb dX6_society_94 rfl (lv_at hl 1 rfl) ?_
            refine lv_iload_n hx hb dX6_society_95 rfl (lv_at hl 2 rfl) ?_
            refine lv_iload_n hx hb dX6_society_96 rfl (lv_at hl 3 rfl) ?_
            refine lv_iload hx hb dX6_society_97 (lv_at hl 4 rfl) ?_
            obtain ⟨hK_a123, h⟩ := h
            obtain ⟨c124, d125, hk1, hk2, h⟩ := h
            refine x_ki (x_runV (As := [.int x1, .int x2, .int x3, .int x4]) (rest := []) C hml hR hS (mA_X2_addSociety l gg c124 d125 a123 x1 x2 x3 x4 S121 h) b_X2_addSociety q_3_23 (by rw [hK_a123]; decide) (s_E_3 hK_a123) rfl rfl rfl rfl ⟨Nat.le_of_ble_eq_true rfl, Nat.le_of_ble_eq_true rfl⟩ rfl hl.1 (Nat.le_of_ble_eq_true rfl) dX6_society_99 ⟨hk1, hk2⟩) hS (fun x127 S126 H locs hn hR hS => ?_)
            replace h := hn
            clear hn
            have hk : ((kc + c119) + c124) ≤ mc ∧ ((ks + d120) + d125) ≤ ms := ⟨hk1, hk2⟩
            refine W.widen (k := mc) (n := ms) hk.1 hk.2 ?_
            exact W.iret (v := x127) hx hb hr (fun t ht hW => ⟨⟨x127, S126, rfl, h, x_rt ht hR⟩, hS.F ht⟩) hS.2.2 dX6_society_102
          · replace h := h.2 hc117
            exact h.elim
        · replace h := h.2 hc112
          exact tA_X6_society_b43 C hml hr hlocks hk  h H locs ls hR hS (lv_sub (l' := []) hl [] rfl)
theorem mA_X6_society (l : Launch) (gg : sG) (mc ms : Nat) (x0 : Nat) (x1 : Int32) (x2 : Int32) (x3 : Int32) (x4 : Int32) (S : sT) {Q : Int32 → sT → Prop} (h : wA_X6_society mc ms x0 x1 x2 x3 x4 S Q) : x_Mi l gg yX6_society (x_ws yX6_society cX6_society 5 (some .int)) (rA_X6_society mc ms) [.ref x0, .int x1, .int x2, .int x3, .int x4] S Q mc ms := by
  refine x_ofW (cc := cX6_society) (own := RX6) (by decide +kernel) rfl (Nat.le_of_ble_eq_true rfl) ?_
  intro p e s m args below meth c C hml hr hlocks hin ht H locs ls hR hS hl
  exact tA_X6_society_b0 C hml hr hlocks ⟨Nat.zero_le _, Nat.zero_le _⟩ h H locs ls hR hS (lv_sub (l' := [(0, .ref x0), (1, .int x1), (2, .int x2), (3, .int x3), (4, .int x4)]) hl [0, 1, 2, 3, 4] rfl)
def wA_X6_field_b26 (mc ms kc ks : Nat)  (S : sT)  (Q : Int32 → sT → Prop) : Prop :=
False
def wA_X6_field_b0 (mc ms kc ks : Nat) (x0 : Nat) (x1 : Int32) (x2 : Int32) (x3 : Int32) (S : sT)  (Q : Int32 → sT → Prop) : Prop :=
s_K S x0 = 8 ∧
    w_X6_societyAt x0 x1 S (fun a102 S101 =>
    w_X6_isWithin x2 (1 : Int32) (9 : Int32) S101 (fun x104 S103 =>
    ((x104 = 0 → wA_X6_field_b26 mc ms kc ks  S103  Q) ∧
    (¬ x104 = 0 → w_X6_isWithin x3 (5 : Int32) (60 : Int32) S103 (fun x107 S106 =>
    ((¬ x107 = 0 → s_K S106 x0 = 8 ∧
    ∃ a109 : Nat, s_R S106 224 x0 = some a109 ∧
    s_K S106 a109 = 4 ∧
    ∃ a110 : Nat, s_R S106 97 a109 = some a110 ∧
    s_K S106 a110 = 1 ∧
    w_Jx4a65c_size_8abf5 a110 S106 (fun x112 S111 =>
    ((x112 < (12 : Int32) → s_K S111 x0 = 8 ∧
    ∃ a114 : Nat, s_R S111 225 x0 = some a114 ∧
    s_K S111 a114 = 4 ∧
    ∃ c115 d116 : Nat, kc + c115 ≤ mc ∧ ks + d116 ≤ ms ∧
    wA_X2_addField c115 d116 a114 x1 x2 x3 S111 (fun x118 S117 =>
    s_K S117 x0 = 8 ∧
    ∃ a119 : Nat, s_R S117 224 x0 = some a119 ∧
    s_K S117 a119 = 4 ∧
    ∃ c120 d121 : Nat, (kc + c115) + c120 ≤ mc ∧ (ks + d116) + d121 ≤ ms ∧
    wA_X2_addField c120 d121 a119 x1 x2 x3 S117 (fun x123 S122 =>
    Q x123 S122))) ∧
    (¬ x112 < (12 : Int32) → False)))) ∧
    (x107 = 0 → wA_X6_field_b26 mc ms kc ks  S106  Q)))))))
def wA_X6_field (mc ms : Nat) (x0 : Nat) (x1 : Int32) (x2 : Int32) (x3 : Int32) (S : sT) (Q : Int32 → sT → Prop) : Prop := wA_X6_field_b0 mc ms 0 0 x0 x1 x2 x3 S Q
def rA_X6_field (mc ms : Nat) : Room := x_rm 9 237 mc ms
theorem b_X6_field : x_BV yX6_field cX6_field 4 (some .int) 3 := ⟨q_7_4, q_7_2, q_7_3, q_1_2, by decide +kernel⟩
set_option maxHeartbeats 4000000 in
theorem tA_X6_field_b26 {Q : Int32 → sT → Prop} (C : x_C p s m args c cX6_field RX6 gg) (hml : c.maxLocals = 4) (hr : meth.sig.returnType = (some .int)) (hlocks : meth.locks = false) {mc ms kc ks : Nat} (hk : kc ≤ mc ∧ ks ≤ ms)   {S : sT}  (h : wA_X6_field_b26 mc ms kc ks  S  Q) : x_X p l e (rA_X6_field mc ms) s m args below meth c gg 4 kc ks (MQ below (va_Qi Q (fun S1 t => s_Rep gg S1 t.heap) (s_A gg)) args s mc ms (s_A gg)) 26 [] [] S := by
  unfold wA_X6_field_b26 at h
  obtain ⟨hx, hb, -⟩ := id C
  intro H locs ls hR hS hl
  exact h.elim
set_option maxHeartbeats 4000000 in
theorem tA_X6_field_b0 {Q : Int32 → sT → Prop} (C : x_C p s m args c cX6_field RX6 gg) (hml : c.maxLocals = 4) (hr : meth.sig.returnType = (some .int)) (hlocks : meth.locks = false) {mc ms kc ks : Nat} (hk : kc ≤ mc ∧ ks ≤ ms) {x0 : Nat} {x1 : Int32} {x2 : Int32} {x3 : Int32}  {S : sT}  (h : wA_X6_field_b0 mc ms kc ks x0 x1 x2 x3 S  Q) : x_X p l e (rA_X6_field mc ms) s m args below meth c gg 4 kc ks (MQ below (va_Qi Q (fun S1 t => s_Rep gg S1 t.heap) (s_A gg)) args s mc ms (s_A gg)) 0 [(0, .ref x0), (1, .int x1), (2, .int x2), (3, .int x3)] [] S := by
  unfold wA_X6_field_b0 at h
  obtain ⟨hx, hb, -⟩ := id C
  intro H locs ls hR hS hl
  refine lv_aload_n hx hb dX6_field_0 rfl (lv_at hl 0 rfl) ?_
  refine lv_iload_n hx hb dX6_field_1 rfl (lv_at hl 1 rfl) ?_
  obtain ⟨hK_x0, h⟩ := h
  refine x_kq (x_runV (As := [.int x1]) (rest := []) C hml hR hS (m_X6_societyAt l gg x0 x1 S h) b_X6_societyAt q_7_6 (by rw [hK_x0]; decide) (s_E_7 hK_x0) rfl rfl rfl rfl ⟨Nat.le_of_ble_eq_true rfl, Nat.le_of_ble_eq_true rfl⟩ rfl hl.1 (Nat.le_of_ble_eq_true rfl) dX6_field_2 ⟨hk.1, hk.2⟩) hS (fun ra102 S101 H locs hn hR hS => ?_)
  replace h := hn
  clear hn
  obtain ⟨a102, za102, h⟩ := h
  refine x_some za102 ?_
  refine lv_pop hx hb dX6_field_5 rfl ?_
  refine lv_iload_n hx hb dX6_field_6 rfl (lv_at hl 2 rfl) ?_
  refine lv_iconst (v := 1) hx hb dX6_field_7 (by decide) ?_
  refine lv_bipush (v := 9) hx hb dX6_field_8 (by decide) ?_
  refine x_ki (x_runS (As := [.int x2, .int (1 : Int32), .int (9 : Int32)]) (rest := []) C hml hR hS (m_X6_isWithin l gg x2 (1 : Int32) (9 : Int32) S101 h) b_X6_isWithin q_3_15 rfl rfl ⟨Nat.le_of_ble_eq_true rfl, Nat.le_of_ble_eq_true rfl⟩ rfl hl.1 (Nat.le_of_ble_eq_true rfl) dX6_field_10 ⟨hk.1, hk.2⟩) hS (fun x104 S103 H locs hn hR hS => ?_)
  replace h := hn
  clear hn
  refine lv_if_eq (tgt := 26) hx hb dX6_field_13 (by decide) (fun hc105 => ?_) (fun hc105 => ?_)
  · replace h := h.1 hc105
    exact tA_X6_field_b26 C hml hr hlocks hk  h H locs ls hR hS (lv_sub (l' := []) hl [] rfl)
  · replace h := h.2 hc105
    refine lv_iload_n hx hb dX6_field_16 rfl (lv_at hl 3 rfl) ?_
    refine lv_iconst (v := 5) hx hb dX6_field_17 (by decide) ?_
    refine lv_bipush (v := 60) hx hb dX6_field_18 (by decide) ?_
    refine x_ki (x_runS (As := [.int x3, .int (5 : Int32), .int (60 : Int32)]) (rest := []) C hml hR hS (m_X6_isWithin l gg x3 (5 : Int32) (60 : Int32) S103 h) b_X6_isWithin q_3_15 rfl rfl ⟨Nat.le_of_ble_eq_true rfl, Nat.le_of_ble_eq_true rfl⟩ rfl hl.1 (Nat.le_of_ble_eq_true rfl) dX6_field_20 ⟨hk.1, hk.2⟩) hS (fun x107 S106 H locs hn hR hS => ?_)
    replace h := hn
    clear hn
    refine lv_if_ne (tgt := 36) hx hb dX6_field_23 (by decide) (fun hc108 => ?_) (fun hc108 => ?_)
    · replace h := h.1 hc108
      refine lv_aload_n hx hb dX6_field_36 rfl (lv_at hl 0 rfl) ?_
      obtain ⟨hK_x0, h⟩ := h
      refine x_g_224 C hR hK_x0 q_1_13 dX6_field_37 ?_
      obtain ⟨a109, ea109, h⟩ := h
      refine x_some ea109 ?_
      obtain ⟨hK_a109, h⟩ := h
      refine x_g_97 C hR hK_a109 q_7_5 dX6_field_40 ?_
      obtain ⟨a110, ea110, h⟩ := h
      refine x_some ea110 ?_
      obtain ⟨hK_a110, h⟩ := h
      refine x_ki (x_runV (As := []) (rest := []) C hml hR hS (m_Jx4a65c_size_8abf5 l gg a110 S106 h) b_Jx4a65c_size_8abf5 q_3_18 (by rw [hK_a110]; decide) (s_E_0 hK_a110) rfl rfl rfl rfl ⟨Nat.le_of_ble_eq_true rfl, Nat.le_of_ble_eq_true rfl⟩ rfl hl.1 (Nat.le_of_ble_eq_true rfl) dX6_field_43 ⟨hk.1, hk.2⟩) hS (fun x112 S111 H locs hn hR hS => ?_)
      replace h := hn
      clear hn
      refine lv_bipush (v := 12) hx hb dX6_field_46 (by decide) ?_
      refine lv_icmp_lt (tgt := 61) hx hb dX6_field_48 (by decide) (fun hc113 => ?_) (fun hc113 => ?_)
      · replace h := h.1 hc113
        refine lv_aload_n hx hb dX6_field_61 rfl (lv_at hl 0 rfl) ?_
        obtain ⟨hK_x0, h⟩ := h
        refine x_g_225 C hR hK_x0 q_1_14 dX6_field_62 ?_
        obtain ⟨a114, ea114, h⟩ := h
        refine x_some ea114 ?_
        refine lv_iload_n hx hb dX6_field_65 rfl (lv_at hl 1 rfl) ?_
        refine lv_iload_n hx hb dX6_field_66 rfl (lv_at hl 2 rfl) ?_
        refine lv_iload_n hx hb dX6_field_67 rfl (lv_at hl 3 rfl) ?_
        obtain ⟨hK_a114, h⟩ := h
        obtain ⟨c115, d116, hk1, hk2, h⟩ := h
        refine x_ki (x_runV (As := [.int x1, .int x2, .int x3]) (rest := []) C hml hR hS (mA_X2_addField l gg c115 d116 a114 x1 x2 x3 S111 h) b_X2_addField q_8_5 (by rw [hK_a114]; decide) (s_E_3 hK_a114) rfl rfl rfl rfl ⟨Nat.le_of_ble_eq_true rfl, Nat.le_of_ble_eq_true rfl⟩ rfl hl.1 (Nat.le_of_ble_eq_true rfl) dX6_field_68 ⟨hk1, hk2⟩) hS (fun x118 S117 H locs hn hR hS => ?_)
        replace h := hn
        clear hn
        have hk : (kc + c115) ≤ mc ∧ (ks + d116) ≤ ms := ⟨hk1, hk2⟩
        refine lv_pop hx hb dX6_field_71 rfl ?_
        refine lv_aload_n hx hb dX6_field_72 rfl (lv_at hl 0 rfl) ?_
        obtain ⟨hK_x0, h⟩ := h
        refine x_g_224 C hR hK_x0 q_1_13 dX6_field_73 ?_
        obtain ⟨a119, ea119, h⟩ := h
        refine x_some ea119 ?_
        refine lv_iload_n hx hb dX6_field_76 rfl (lv_at hl 1 rfl) ?_
        refine lv_iload_n hx hb dX6_field_77 rfl (lv_at hl 2 rfl) ?_
        refine lv_iload_n hx hb dX6_field_78 rfl (lv_at hl 3 rfl) ?_
        obtain ⟨hK_a119, h⟩ := h
        obtain ⟨c120, d121, hk1, hk2, h⟩ := h
        refine x_ki (x_runV (As := [.int x1, .int x2, .int x3]) (rest := []) C hml hR hS (mA_X2_addField l gg c120 d121 a119 x1 x2 x3 S117 h) b_X2_addField q_8_5 (by rw [hK_a119]; decide) (s_E_3 hK_a119) rfl rfl rfl rfl ⟨Nat.le_of_ble_eq_true rfl, Nat.le_of_ble_eq_true rfl⟩ rfl hl.1 (Nat.le_of_ble_eq_true rfl) dX6_field_79 ⟨hk1, hk2⟩) hS (fun x123 S122 H locs hn hR hS => ?_)
        replace h := hn
        clear hn
        have hk : ((kc + c115) + c120) ≤ mc ∧ ((ks + d116) + d121) ≤ ms := ⟨hk1, hk2⟩
        refine W.widen (k := mc) (n := ms) hk.1 hk.2 ?_
        exact W.iret (v := x123) hx hb hr (fun t ht hW => ⟨⟨x123, S122, rfl, h, x_rt ht hR⟩, hS.F ht⟩) hS.2.2 dX6_field_82
      · replace h := h.2 hc113
        exact h.elim
    · replace h := h.2 hc108
      exact tA_X6_field_b26 C hml hr hlocks hk  h H locs ls hR hS (lv_sub (l' := []) hl [] rfl)
theorem mA_X6_field (l : Launch) (gg : sG) (mc ms : Nat) (x0 : Nat) (x1 : Int32) (x2 : Int32) (x3 : Int32) (S : sT) {Q : Int32 → sT → Prop} (h : wA_X6_field mc ms x0 x1 x2 x3 S Q) : x_Mi l gg yX6_field (x_ws yX6_field cX6_field 4 (some .int)) (rA_X6_field mc ms) [.ref x0, .int x1, .int x2, .int x3] S Q mc ms := by
  refine x_ofW (cc := cX6_field) (own := RX6) (by decide +kernel) rfl (Nat.le_of_ble_eq_true rfl) ?_
  intro p e s m args below meth c C hml hr hlocks hin ht H locs ls hR hS hl
  exact tA_X6_field_b0 C hml hr hlocks ⟨Nat.zero_le _, Nat.zero_le _⟩ h H locs ls hR hS (lv_sub (l' := [(0, .ref x0), (1, .int x1), (2, .int x2), (3, .int x3)]) hl [0, 1, 2, 3] rfl)
end
