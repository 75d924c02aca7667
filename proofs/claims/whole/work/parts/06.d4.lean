section
variable {p : Program} {l : Launch} {e : Env} {s : State} {m : MethodId} {args : Array Value} {below : List Frame} {meth : Method} {c : Code} {gg : sG}
def w_X8_size_b44 (x1 : Int32) (x3 : Nat) (x4 : Int32) (x5 : Int32) (y0 : Int32) (y1 : Int32) (S : sT) (kk17 : Int32 → Int32 → Nat → Int32 → Int32 → sT → Prop) (Q : Int32 → sT → Prop) : Prop :=
∀ x101 : Int32, x101 = y1 + y0 →
    ∀ x102 : Int32, x102 = x5 + 1 →
    kk17 x1 x101 x3 x4 x102 S
def w_X8_size_b17  (Q : Int32 → sT → Prop) : Nat → Int32 → Int32 → Nat → Int32 → Int32 → sT → Prop
  | 0 => fun _ _ _ _ _ _ => False
  | n + 1 => fun x1 x2 x3 x4 x5 S =>
((x4 ≤ x5 → Q x2 S) ∧
    (¬ x4 ≤ x5 → s_K S x3 = 13 ∧
    vp_in x5 (s_N S x3) ∧
    ∃ a103 : Nat, s_P S x3 (Int32.toNatClampNeg x5) = some a103 ∧
    s_K S a103 = 11 ∧
    vp_in (0 : Int32) (s_N S a103) ∧
    ∀ x105 : Int32, x105 = s_B S a103 (Int32.toNatClampNeg (0 : Int32)) →
    ((¬ x105 = x1 → w_X8_size_b44 x1 x3 x4 x5 (0 : Int32) x2 S (fun x1 x2 x3 x4 x5 S => w_X8_size_b17  Q n x1 x2 x3 x4 x5 S) Q) ∧
    (x105 = x1 → w_X8_size_b44 x1 x3 x4 x5 (1 : Int32) x2 S (fun x1 x2 x3 x4 x5 S => w_X8_size_b17  Q n x1 x2 x3 x4 x5 S) Q))))
def w_X8_size_b0 (x0 : Nat) (x1 : Int32) (S : sT)  (Q : Int32 → sT → Prop) : Prop :=
s_K S x0 = 10 ∧
    ∃ a101 : Nat, s_R S 289 x0 = some a101 ∧
    s_K S a101 = 9 ∧
    ∃ a102 : Nat, s_R S 257 a101 = some a102 ∧
    s_K S a102 = 13 ∧
    ∀ x103 : Int32, x103 = nI (s_N S a102) →
    ∃ n9 : Nat, w_X8_size_b17  Q n9 x1 (0 : Int32) a102 x103 (0 : Int32) S
def w_X8_size (x0 : Nat) (x1 : Int32) (S : sT) (Q : Int32 → sT → Prop) : Prop := w_X8_size_b0 x0 x1 S Q
def r_X8_size : Room := x_rm 0 0 0 0
theorem b_X8_size : x_BV yX8_size cX8_size 7 (some .int) 1 := ⟨q_30_22, q_30_20, q_30_21, q_1_5, by decide +kernel⟩
set_option maxHeartbeats 4000000 in
theorem t_X8_size_b44 {Q : Int32 → sT → Prop} (C : x_C p s m args c cX8_size RX8 gg) (hml : c.maxLocals = 7) (hr : meth.sig.returnType = (some .int)) (hlocks : meth.locks = false) {x1 : Int32} {x3 : Nat} {x4 : Int32} {x5 : Int32} {y0 : Int32} {y1 : Int32} {kk17 : Int32 → Int32 → Nat → Int32 → Int32 → sT → Prop} {S : sT} (hk17 : ∀ (x1 : Int32) (x2 : Int32) (x3 : Nat) (x4 : Int32) (x5 : Int32) (S : sT), kk17 x1 x2 x3 x4 x5 S → x_X p l e r_X8_size s m args below meth c gg 7 0 0 (MQ below (va_Qi Q (fun S1 t => s_Rep gg S1 t.heap) (s_A gg)) args s 0 0 (s_A gg)) 17 [(1, .int x1), (2, .int x2), (3, .ref x3), (4, .int x4), (5, .int x5)] [] S) (h : w_X8_size_b44 x1 x3 x4 x5 y0 y1 S kk17 Q) : x_X p l e r_X8_size s m args below meth c gg 7 0 0 (MQ below (va_Qi Q (fun S1 t => s_Rep gg S1 t.heap) (s_A gg)) args s 0 0 (s_A gg)) 44 [(1, .int x1), (3, .ref x3), (4, .int x4), (5, .int x5)] [.int y0, .int y1] S := by
  unfold w_X8_size_b44 at h
  obtain ⟨hx, hb, -⟩ := id C
  intro H locs ls hR hS hl
  refine lv_iadd hx hb dX8_size_44 ?_
  refine lv_topi (fun x101 ex101 => ?_)
  replace h := h x101 ex101
  refine lv_istore_n (lv' := [(2, .int x101), (1, .int x1), (3, .ref x3), (4, .int x4), (5, .int x5)]) hx hb dX8_size_45 rfl hl (by decide) rfl (fun ls hl => ?_)
  obtain ⟨x102, ex102⟩ : ∃ z : Int32, z = x5 + 1 := ⟨_, rfl⟩
  replace h := h x102 ex102
  refine lv_iinc (v := x102) (lv' := [(5, .int x102), (2, .int x101), (1, .int x1), (3, .ref x3), (4, .int x4)]) hx hb dX8_size_46 hl (k := 4) rfl (by rw [ex102]; rfl) (by decide) rfl (fun ls hl => ?_)
  refine lv_goto (tgt := 17) hx hb dX8_size_49 (by decide) ?_
  exact hk17 x1 x101 x3 x4 x102 S h H locs ls hR hS (lv_sub (l' := [(1, .int x1), (2, .int x101), (3, .ref x3), (4, .int x4), (5, .int x102)]) hl [2, 1, 3, 4, 0] rfl)
set_option maxHeartbeats 4000000 in
theorem t_X8_size_b17 {Q : Int32 → sT → Prop} (C : x_C p s m args c cX8_size RX8 gg) (hml : c.maxLocals = 7) (hr : meth.sig.returnType = (some .int)) (hlocks : meth.locks = false)   : ∀ (n : Nat) (x1 : Int32) (x2 : Int32) (x3 : Nat) (x4 : Int32) (x5 : Int32) (S : sT), w_X8_size_b17  Q n x1 x2 x3 x4 x5 S → x_X p l e r_X8_size s m args below meth c gg 7 0 0 (MQ below (va_Qi Q (fun S1 t => s_Rep gg S1 t.heap) (s_A gg)) args s 0 0 (s_A gg)) 17 [(1, .int x1), (2, .int x2), (3, .ref x3), (4, .int x4), (5, .int x5)] [] S := by
  obtain ⟨hx, hb, -⟩ := id C
  intro n
  induction n with
  | zero => intro x1 x2 x3 x4 x5 S h; exact absurd h id
  | succ n ih =>
    intro x1 x2 x3 x4 x5 S h H locs ls hR hS hl
    unfold w_X8_size_b17 at h
    refine lv_iload hx hb dX8_size_17 (lv_at hl 4 rfl) ?_
    refine lv_iload hx hb dX8_size_19 (lv_at hl 3 rfl) ?_
    refine lv_icmp_ge (tgt := 52) hx hb dX8_size_21 (by decide) (fun hc101 => ?_) (fun hc101 => ?_)
    · replace h := h.1 hc101
      refine lv_iload_n hx hb dX8_size_52 rfl (lv_at hl 1 rfl) ?_
      exact W.iret (v := x2) hx hb hr (fun t ht hW => ⟨⟨x2, S, rfl, h, x_rt ht hR⟩, hS.F ht⟩) hS.2.2 dX8_size_53
    · replace h := h.2 hc101
      refine lv_aload_n hx hb dX8_size_24 rfl (lv_at hl 2 rfl) ?_
      refine lv_iload hx hb dX8_size_25 (lv_at hl 4 rfl) ?_
      obtain ⟨hK_x3, h⟩ := h
      obtain ⟨hi102, a103, ea103, h⟩ := h
      refine x_aald13 C hR hK_x3 hi102 dX8_size_27 ?_
      refine x_some ea103 ?_
      refine lv_astore (lv' := [(6, .ref a103), (1, .int x1), (2, .int x2), (3, .ref x3), (4, .int x4), (5, .int x5)]) hx hb dX8_size_28 hl (by decide) rfl (fun ls hl => ?_)
      refine lv_iload_n hx hb dX8_size_30 rfl (lv_at hl 2 rfl) ?_
      refine lv_aload hx hb dX8_size_31 (lv_at hl 0 rfl) ?_
      refine lv_iconst (v := 0) hx hb dX8_size_33 (by decide) ?_
      obtain ⟨hK_a103, h⟩ := h
      obtain ⟨hi104, h⟩ := h
      refine x_iald C hR hK_a103 hi104 dX8_size_34 ?_
      refine lv_topi (fun x105 ex105 => ?_)
      replace h := h x105 ex105
      refine lv_iload_n hx hb dX8_size_35 rfl (lv_at hl 1 rfl) ?_
      refine lv_icmp_ne (tgt := 43) hx hb dX8_size_36 (by decide) (fun hc106 => ?_) (fun hc106 => ?_)
      · replace h := h.1 hc106
        refine lv_iconst (v := 0) hx hb dX8_size_43 (by decide) ?_
        exact t_X8_size_b44 C hml hr hlocks (fun x1 x2 x3 x4 x5 S h => ih x1 x2 x3 x4 x5 S h) h H locs ls hR hS (lv_sub (l' := [(1, .int x1), (3, .ref x3), (4, .int x4), (5, .int x5)]) hl [1, 3, 4, 5] rfl)
      · replace h := h.2 hc106
        refine lv_iconst (v := 1) hx hb dX8_size_39 (by decide) ?_
        refine lv_goto (tgt := 44) hx hb dX8_size_40 (by decide) ?_
        exact t_X8_size_b44 C hml hr hlocks (fun x1 x2 x3 x4 x5 S h => ih x1 x2 x3 x4 x5 S h) h H locs ls hR hS (lv_sub (l' := [(1, .int x1), (3, .ref x3), (4, .int x4), (5, .int x5)]) hl [1, 3, 4, 5] rfl)
set_option maxHeartbeats 4000000 in
theorem t_X8_size_b0 {Q : Int32 → sT → Prop} (C : x_C p s m args c cX8_size RX8 gg) (hml : c.maxLocals = 7) (hr : meth.sig.returnType = (some .int)) (hlocks : meth.locks = false) {x0 : Nat} {x1 : Int32}  {S : sT}  (h : w_X8_size_b0 x0 x1 S  Q) : x_X p l e r_X8_size s m args below meth c gg 7 0 0 (MQ below (va_Qi Q (fun S1 t => s_Rep gg S1 t.heap) (s_A gg)) args s 0 0 (s_A gg)) 0 [(0, .ref x0), (1, .int x1)] [] S := by
  unfold w_X8_size_b0 at h
  obtain ⟨hx, hb, -⟩ := id C
  intro H locs ls hR hS hl
  refine lv_iconst (v := 0) hx hb dX8_size_0 (by decide) ?_
  refine lv_istore_n (lv' := [(2, .int (0 : Int32)), (0, .ref x0), (1, .int x1)]) hx hb dX8_size_1 rfl hl (by decide) rfl (fun ls hl => ?_)
  refine lv_aload_n hx hb dX8_size_2 rfl (lv_at hl 1 rfl) ?_
  obtain ⟨hK_x0, h⟩ := h
  refine x_g_289 C hR hK_x0 q_3_8 dX8_size_3 ?_
  obtain ⟨a101, ea101, h⟩ := h
  refine x_some ea101 ?_
  obtain ⟨hK_a101, h⟩ := h
  refine x_gN_257 C hR hK_a101 (xn_1 C) dX8_size_6 ?_
  obtain ⟨a102, ea102, h⟩ := h
  refine x_some ea102 ?_
  refine lv_astore_n (lv' := [(3, .ref a102), (2, .int (0 : Int32)), (0, .ref x0), (1, .int x1)]) hx hb dX8_size_9 rfl hl (by decide) rfl (fun ls hl => ?_)
  refine lv_aload_n hx hb dX8_size_10 rfl (lv_at hl 0 rfl) ?_
  obtain ⟨hK_a102, h⟩ := h
  refine x_alen13 C hR hK_a102 dX8_size_11 ?_
  refine lv_topi (fun x103 ex103 => ?_)
  replace h := h x103 ex103
  refine lv_istore (lv' := [(4, .int x103), (3, .ref a102), (2, .int (0 : Int32)), (0, .ref x0), (1, .int x1)]) hx hb dX8_size_12 hl (by decide) rfl (fun ls hl => ?_)
  refine lv_iconst (v := 0) hx hb dX8_size_14 (by decide) ?_
  refine lv_istore (lv' := [(5, .int (0 : Int32)), (4, .int x103), (3, .ref a102), (2, .int (0 : Int32)), (0, .ref x0), (1, .int x1)]) hx hb dX8_size_15 hl (by decide) rfl (fun ls hl => ?_)
  obtain ⟨n9, h⟩ := h
  exact t_X8_size_b17 C hml hr hlocks  n9 x1 (0 : Int32) a102 x103 (0 : Int32) S h H locs ls hR hS (lv_sub (l' := [(1, .int x1), (2, .int (0 : Int32)), (3, .ref a102), (4, .int x103), (5, .int (0 : Int32))]) hl [5, 3, 2, 1, 0] rfl)
theorem m_X8_size (l : Launch) (gg : sG) (x0 : Nat) (x1 : Int32) (S : sT) {Q : Int32 → sT → Prop} (h : w_X8_size x0 x1 S Q) : x_Mi l gg yX8_size (x_ws yX8_size cX8_size 7 (some .int)) r_X8_size [.ref x0, .int x1] S Q 0 0 := by
  refine x_ofW (cc := cX8_size) (own := RX8) (by decide +kernel) rfl (Nat.le_of_ble_eq_true rfl) ?_
  intro p e s m args below meth c C hml hr hlocks hin ht H locs ls hR hS hl
  exact t_X8_size_b0 C hml hr hlocks h H locs ls hR hS (lv_sub (l' := [(0, .ref x0), (1, .int x1)]) hl [0, 1] rfl)
def w_X8_rate_b30 (y0 : Int32) (S : sT)  (Q : Int32 → sT → Prop) : Prop :=
Q y0 S
def w_X8_rate_b0 (x0 : Nat) (x1 : Int32) (S : sT)  (Q : Int32 → sT → Prop) : Prop :=
s_K S x0 = 10 ∧
    w_X8_size x0 x1 S (fun x102 S101 =>
    ((¬ x102 = 0 → s_K S101 x0 = 10 ∧
    ∃ a104 : Nat, s_R S101 289 x0 = some a104 ∧
    s_K S101 a104 = 9 ∧
    ∃ a105 : Nat, s_R S101 256 a104 = some a105 ∧
    s_K S101 a105 = 13 ∧
    vp_in x1 (s_N S101 a105) ∧
    ∃ a107 : Nat, s_P S101 a105 (Int32.toNatClampNeg x1) = some a107 ∧
    s_K S101 a107 = 11 ∧
    vp_in (8 : Int32) (s_N S101 a107) ∧
    ∀ x109 : Int32, x109 = s_B S101 a107 (Int32.toNatClampNeg (8 : Int32)) →
    w_X8_size x0 x1 S101 (fun x111 S110 =>
    ¬ x111 = 0 ∧
    ∀ x113 : Int32, x113 = x109 / x111 →
    w_X8_rate_b30 x113 S110  Q)) ∧
    (x102 = 0 → w_X8_rate_b30 (0 : Int32) S101  Q)))
def w_X8_rate (x0 : Nat) (x1 : Int32) (S : sT) (Q : Int32 → sT → Prop) : Prop := w_X8_rate_b0 x0 x1 S Q
def r_X8_rate : Room := x_rm 1 26 0 0
theorem b_X8_rate : x_BV yX8_rate cX8_rate 2 (some .int) 1 := ⟨q_30_18, q_30_16, q_30_17, q_1_5, by decide +kernel⟩
set_option maxHeartbeats 4000000 in
theorem t_X8_rate_b30 {Q : Int32 → sT → Prop} (C : x_C p s m args c cX8_rate RX8 gg) (hml : c.maxLocals = 2) (hr : meth.sig.returnType = (some .int)) (hlocks : meth.locks = false) {y0 : Int32}  {S : sT}  (h : w_X8_rate_b30 y0 S  Q) : x_X p l e r_X8_rate s m args below meth c gg 2 0 0 (MQ below (va_Qi Q (fun S1 t => s_Rep gg S1 t.heap) (s_A gg)) args s 0 0 (s_A gg)) 30 [] [.int y0] S := by
  unfold w_X8_rate_b30 at h
  obtain ⟨hx, hb, -⟩ := id C
  intro H locs ls hR hS hl
  exact W.iret (v := y0) hx hb hr (fun t ht hW => ⟨⟨y0, S, rfl, h, x_rt ht hR⟩, hS.F ht⟩) hS.2.2 dX8_rate_30
set_option maxHeartbeats 4000000 in
theorem t_X8_rate_b0 {Q : Int32 → sT → Prop} (C : x_C p s m args c cX8_rate RX8 gg) (hml : c.maxLocals = 2) (hr : meth.sig.returnType = (some .int)) (hlocks : meth.locks = false) {x0 : Nat} {x1 : Int32}  {S : sT}  (h : w_X8_rate_b0 x0 x1 S  Q) : x_X p l e r_X8_rate s m args below meth c gg 2 0 0 (MQ below (va_Qi Q (fun S1 t => s_Rep gg S1 t.heap) (s_A gg)) args s 0 0 (s_A gg)) 0 [(0, .ref x0), (1, .int x1)] [] S := by
  unfold w_X8_rate_b0 at h
  obtain ⟨hx, hb, -⟩ := id C
  intro H locs ls hR hS hl
  refine lv_aload_n hx hb dX8_rate_0 rfl (lv_at hl 0 rfl) ?_
  refine lv_iload_n hx hb dX8_rate_1 rfl (lv_at hl 1 rfl) ?_
  obtain ⟨hK_x0, h⟩ := h
  refine x_ki (x_runV (As := [.int x1]) (rest := []) C hml hR hS (m_X8_size l gg x0 x1 S h) b_X8_size q_30_19 (by rw [hK_x0]; decide) (s_E_9 hK_x0) rfl rfl rfl rfl ⟨Nat.le_of_ble_eq_true rfl, Nat.le_of_ble_eq_true rfl⟩ rfl hl.1 (Nat.le_of_ble_eq_true rfl) dX8_rate_2 ⟨Nat.le_refl _, Nat.le_refl _⟩) hS (fun x102 S101 H locs hn hR hS => ?_)
  replace h := hn
  clear hn
  refine lv_if_ne (tgt := 12) hx hb dX8_rate_5 (by decide) (fun hc103 => ?_) (fun hc103 => ?_)
  · replace h := h.1 hc103
    refine lv_aload_n hx hb dX8_rate_12 rfl (lv_at hl 0 rfl) ?_
    obtain ⟨hK_x0, h⟩ := h
    refine x_g_289 C hR hK_x0 q_3_8 dX8_rate_13 ?_
    obtain ⟨a104, ea104, h⟩ := h
    refine x_some ea104 ?_
    obtain ⟨hK_a104, h⟩ := h
    refine x_gN_256 C hR hK_a104 (xn_2 C) dX8_rate_16 ?_
    obtain ⟨a105, ea105, h⟩ := h
    refine x_some ea105 ?_
    refine lv_iload_n hx hb dX8_rate_19 rfl (lv_at hl 1 rfl) ?_
    obtain ⟨hK_a105, h⟩ := h
    obtain ⟨hi106, a107, ea107, h⟩ := h
    refine x_aald13 C hR hK_a105 hi106 dX8_rate_20 ?_
    refine x_some ea107 ?_
    refine lv_bipush (v := 8) hx hb dX8_rate_21 (by decide) ?_
    obtain ⟨hK_a107, h⟩ := h
    obtain ⟨hi108, h⟩ := h
    refine x_iald C hR hK_a107 hi108 dX8_rate_23 ?_
    refine lv_topi (fun x109 ex109 => ?_)
    replace h := h x109 ex109
    refine lv_aload_n hx hb dX8_rate_24 rfl (lv_at hl 0 rfl) ?_
    refine lv_iload_n hx hb dX8_rate_25 rfl (lv_at hl 1 rfl) ?_
    refine x_ki (x_runV (As := [.int x1]) (rest := [.int x109]) C hml hR hS (m_X8_size l gg x0 x1 S101 h) b_X8_size q_30_19 (by rw [hK_x0]; decide) (s_E_9 hK_x0) rfl rfl rfl rfl ⟨Nat.le_of_ble_eq_true rfl, Nat.le_of_ble_eq_true rfl⟩ rfl hl.1 (Nat.le_of_ble_eq_true rfl) dX8_rate_26 ⟨Nat.le_refl _, Nat.le_refl _⟩) hS (fun x111 S110 H locs hn hR hS => ?_)
    replace h := hn
    clear hn
    obtain ⟨hd112, h⟩ := h
    refine lv_idiv hx hb dX8_rate_29 hd112 ?_
    refine lv_topi (fun x113 ex113 => ?_)
    replace h := h x113 ex113
    exact t_X8_rate_b30 C hml hr hlocks  h H locs ls hR hS (lv_sub (l' := []) hl [] rfl)
  · replace h := h.2 hc103
    refine lv_iconst (v := 0) hx hb dX8_rate_8 (by decide) ?_
    refine lv_goto (tgt := 30) hx hb dX8_rate_9 (by decide) ?_
    exact t_X8_rate_b30 C hml hr hlocks  h H locs ls hR hS (lv_sub (l' := []) hl [] rfl)
theorem m_X8_rate (l : Launch) (gg : sG) (x0 : Nat) (x1 : Int32) (S : sT) {Q : Int32 → sT → Prop} (h : w_X8_rate x0 x1 S Q) : x_Mi l gg yX8_rate (x_ws yX8_rate cX8_rate 2 (some .int)) r_X8_rate [.ref x0, .int x1] S Q 0 0 := by
  refine x_ofW (cc := cX8_rate) (own := RX8) (by decide +kernel) rfl (Nat.le_of_ble_eq_true rfl) ?_
  intro p e s m args below meth c C hml hr hlocks hin ht H locs ls hR hS hl
  exact t_X8_rate_b0 C hml hr hlocks h H locs ls hR hS (lv_sub (l' := [(0, .ref x0), (1, .int x1)]) hl [0, 1] rfl)
def w_X8_vote_b60 (x0 : Nat) (x1 : Int32) (x2 : Int32) (x3 : Int32) (S : sT) (kk25 : Nat → Int32 → Int32 → Int32 → sT → Prop) (Q : Int32 → sT → Prop) : Prop :=
∀ x101 : Int32, x101 = x3 + 2 →
    kk25 x0 x1 x2 x101 S
def w_X8_vote_b58 (x0 : Nat) (x1 : Int32) (x3 : Int32) (S : sT) (kk25 : Nat → Int32 → Int32 → Int32 → sT → Prop) (Q : Int32 → sT → Prop) : Prop :=
w_X8_vote_b60 x0 x1 x3 x3 S kk25 Q
def w_X8_vote_b209 (x0 : Nat) (x1 : Int32) (x3 : Int32) (S : sT)  (Q : Int32 → sT → Prop) : Prop :=
s_K S x0 = 10 ∧
    ∃ a101 : Nat, s_R S 289 x0 = some a101 ∧
    s_K S a101 = 9 ∧
    ∃ a102 : Nat, s_R S 256 a101 = some a102 ∧
    s_K S a102 = 13 ∧
    vp_in x1 (s_N S a102) ∧
    ∃ a104 : Nat, s_P S a102 (Int32.toNatClampNeg x1) = some a104 ∧
    s_K S a104 = 11 ∧
    vp_in (8 : Int32) (s_N S a104) ∧
    ∀ S106 : sT, S106 = s_sB S a104 (Int32.toNatClampNeg (8 : Int32)) (0 : Int32) →
    Q x3 S106
def w_X8_vote_b141 (x0 : Nat) (x1 : Int32) (x2 : Int32) (x4 : Nat) (x5 : Int32) (x6 : Int32) (y0 : Int32) (y1 : Int32) (S : sT) (kk85 : Nat → Int32 → Int32 → Int32 → Nat → Int32 → Int32 → sT → Prop) (Q : Int32 → sT → Prop) : Prop :=
∀ x101 : Int32, x101 = y1 + y0 →
    ∀ x102 : Int32, x102 = x6 + 1 →
    kk85 x0 x1 x2 x101 x4 x5 x102 S
def w_X8_vote_b140 (x0 : Nat) (x1 : Int32) (x2 : Int32) (x4 : Nat) (x5 : Int32) (x6 : Int32) (y0 : Int32) (S : sT) (kk85 : Nat → Int32 → Int32 → Int32 → Nat → Int32 → Int32 → sT → Prop) (Q : Int32 → sT → Prop) : Prop :=
w_X8_vote_b141 x0 x1 x2 x4 x5 x6 (0 : Int32) y0 S kk85 Q
def w_X8_vote_b136 (x0 : Nat) (x1 : Int32) (x2 : Int32) (x4 : Nat) (x5 : Int32) (x6 : Int32) (y0 : Int32) (S : sT) (kk85 : Nat → Int32 → Int32 → Int32 → Nat → Int32 → Int32 → sT → Prop) (Q : Int32 → sT → Prop) : Prop :=
w_X8_vote_b141 x0 x1 x2 x4 x5 x6 (1 : Int32) y0 S kk85 Q
def w_X8_vote_b85  (Q : Int32 → sT → Prop) : Nat → Nat → Int32 → Int32 → Int32 → Nat → Int32 → Int32 → sT → Prop
  | 0 => fun _ _ _ _ _ _ _ _ => False
  | n + 1 => fun x0 x1 x2 x3 x4 x5 x6 S =>
((x5 ≤ x6 → ∀ x102 : Int32, x102 = (2 : Int32) * x3 →
    s_K S x0 = 10 ∧
    w_X8_size x0 x1 S (fun x104 S103 =>
    ((x102 ≤ x104 → w_X8_vote_b209 x0 x1 x3 S103  Q) ∧
    (¬ x102 ≤ x104 → ((x2 = (-1 : Int32) → w_X8_vote_b209 x0 x1 x3 S103  Q) ∧
    (¬ x2 = (-1 : Int32) → s_K S103 x0 = 10 ∧
    ∃ a107 : Nat, s_R S103 289 x0 = some a107 ∧
    s_K S103 a107 = 9 ∧
    ∃ a108 : Nat, s_R S103 256 a107 = some a108 ∧
    s_K S103 a108 = 13 ∧
    vp_in x1 (s_N S103 a108) ∧
    ∃ a110 : Nat, s_P S103 a108 (Int32.toNatClampNeg x1) = some a110 ∧
    ∃ a111 : Nat, s_R S103 289 x0 = some a111 ∧
    s_K S103 a111 = 9 ∧
    ∃ a112 : Nat, s_R S103 256 a111 = some a112 ∧
    s_K S103 a112 = 13 ∧
    vp_in x2 (s_N S103 a112) ∧
    ∃ a114 : Nat, s_P S103 a112 (Int32.toNatClampNeg x2) = some a114 ∧
    s_K S103 a114 = 11 ∧
    vp_in (2 : Int32) (s_N S103 a114) ∧
    ∀ x116 : Int32, x116 = s_B S103 a114 (Int32.toNatClampNeg (2 : Int32)) →
    s_K S103 a110 = 11 ∧
    vp_in (2 : Int32) (s_N S103 a110) ∧
    ∀ S118 : sT, S118 = s_sB S103 a110 (Int32.toNatClampNeg (2 : Int32)) x116 →
    ∃ a119 : Nat, s_R S118 289 x0 = some a119 ∧
    s_K S118 a119 = 9 ∧
    ∃ a120 : Nat, s_R S118 256 a119 = some a120 ∧
    s_K S118 a120 = 13 ∧
    vp_in x1 (s_N S118 a120) ∧
    ∃ a122 : Nat, s_P S118 a120 (Int32.toNatClampNeg x1) = some a122 ∧
    ∃ a123 : Nat, s_R S118 289 x0 = some a123 ∧
    s_K S118 a123 = 9 ∧
    ∃ a124 : Nat, s_R S118 256 a123 = some a124 ∧
    s_K S118 a124 = 13 ∧
    vp_in x2 (s_N S118 a124) ∧
    ∃ a126 : Nat, s_P S118 a124 (Int32.toNatClampNeg x2) = some a126 ∧
    s_K S118 a126 = 11 ∧
    vp_in (3 : Int32) (s_N S118 a126) ∧
    ∀ x128 : Int32, x128 = s_B S118 a126 (Int32.toNatClampNeg (3 : Int32)) →
    s_K S118 a122 = 11 ∧
    vp_in (3 : Int32) (s_N S118 a122) ∧
    ∀ S130 : sT, S130 = s_sB S118 a122 (Int32.toNatClampNeg (3 : Int32)) x128 →
    w_X8_vote_b209 x0 x1 x3 S130  Q)))))) ∧
    (¬ x5 ≤ x6 → s_K S x4 = 13 ∧
    vp_in x6 (s_N S x4) ∧
    ∃ a132 : Nat, s_P S x4 (Int32.toNatClampNeg x6) = some a132 ∧
    s_K S a132 = 11 ∧
    vp_in (0 : Int32) (s_N S a132) ∧
    ∀ x134 : Int32, x134 = s_B S a132 (Int32.toNatClampNeg (0 : Int32)) →
    ((¬ x134 = x1 → w_X8_vote_b140 x0 x1 x2 x4 x5 x6 x3 S (fun x0 x1 x2 x3 x4 x5 x6 S => w_X8_vote_b85  Q n x0 x1 x2 x3 x4 x5 x6 S) Q) ∧
    (x134 = x1 → vp_in (8 : Int32) (s_N S a132) ∧
    ∀ x137 : Int32, x137 = s_B S a132 (Int32.toNatClampNeg (8 : Int32)) →
    (((30 : Int32) < x137 → w_X8_vote_b136 x0 x1 x2 x4 x5 x6 x3 S (fun x0 x1 x2 x3 x4 x5 x6 S => w_X8_vote_b85  Q n x0 x1 x2 x3 x4 x5 x6 S) Q) ∧
    (¬ (30 : Int32) < x137 → ((x2 = (-1 : Int32) → w_X8_vote_b140 x0 x1 x2 x4 x5 x6 x3 S (fun x0 x1 x2 x3 x4 x5 x6 S => w_X8_vote_b85  Q n x0 x1 x2 x3 x4 x5 x6 S) Q) ∧
    (¬ x2 = (-1 : Int32) → s_K S x0 = 10 ∧
    w_X8_rate x0 x2 S (fun x141 S140 =>
    s_K S140 x0 = 10 ∧
    w_X8_rate x0 x1 S140 (fun x143 S142 =>
    ((x141 ≤ x143 → w_X8_vote_b140 x0 x1 x2 x4 x5 x6 x3 S142 (fun x0 x1 x2 x3 x4 x5 x6 S => w_X8_vote_b85  Q n x0 x1 x2 x3 x4 x5 x6 S) Q) ∧
    (¬ x141 ≤ x143 → w_X8_vote_b136 x0 x1 x2 x4 x5 x6 x3 S142 (fun x0 x1 x2 x3 x4 x5 x6 S => w_X8_vote_b85  Q n x0 x1 x2 x3 x4 x5 x6 S) Q))))))))))))
def w_X8_vote_b25  (Q : Int32 → sT → Prop) : Nat → Nat → Int32 → Int32 → Int32 → sT → Prop
  | 0 => fun _ _ _ _ _ => False
  | n + 1 => fun x0 x1 x2 x3 S =>
∀ x101 : Int32, x101 = x1 + (1 : Int32) →
    ((x101 < x3 → s_K S x0 = 10 ∧
    ∃ a103 : Nat, s_R S 289 x0 = some a103 ∧
    s_K S a103 = 9 ∧
    ∃ a104 : Nat, s_R S 257 a103 = some a104 ∧
    s_K S a104 = 13 ∧
    ∀ x105 : Int32, x105 = nI (s_N S a104) →
    ∃ n9 : Nat, w_X8_vote_b85  Q n9 x0 x1 x2 (0 : Int32) a104 x105 (0 : Int32) S) ∧
    (¬ x101 < x3 → s_K S x0 = 10 ∧
    w_X8_isSociety x0 x3 S (fun x107 S106 =>
    ((x107 = 0 → w_X8_vote_b60 x0 x1 x2 x3 S106 (fun x0 x1 x2 x3 S => w_X8_vote_b25  Q n x0 x1 x2 x3 S) Q) ∧
    (¬ x107 = 0 → ((x2 = (-1 : Int32) → w_X8_vote_b58 x0 x1 x3 S106 (fun x0 x1 x2 x3 S => w_X8_vote_b25  Q n x0 x1 x2 x3 S) Q) ∧
    (¬ x2 = (-1 : Int32) → s_K S106 x0 = 10 ∧
    w_X8_rate x0 x3 S106 (fun x111 S110 =>
    s_K S110 x0 = 10 ∧
    w_X8_rate x0 x2 S110 (fun x113 S112 =>
    ((x111 ≤ x113 → w_X8_vote_b60 x0 x1 x2 x3 S112 (fun x0 x1 x2 x3 S => w_X8_vote_b25  Q n x0 x1 x2 x3 S) Q) ∧
    (¬ x111 ≤ x113 → w_X8_vote_b58 x0 x1 x3 S112 (fun x0 x1 x2 x3 S => w_X8_vote_b25  Q n x0 x1 x2 x3 S) Q)))))))))))
def w_X8_vote_b0 (x0 : Nat) (x1 : Int32) (S : sT)  (Q : Int32 → sT → Prop) : Prop :=
s_K S x0 = 10 ∧
    ∀ S101 : sT, S101 = s_sI S 288 x0 (0 : Int32) →
    w_X8_isSociety x0 x1 S101 (fun x103 S102 =>
    ((¬ x103 = 0 → ∀ x105 : Int32, x105 = x1 - (1 : Int32) →
    ∃ n9 : Nat, w_X8_vote_b25  Q n9 x0 x1 (-1 : Int32) x105 S102) ∧
    (x103 = 0 → s_K S102 x0 = 10 ∧
    w_X8_refuse x0 (1 : Int32) S102 (fun x107 S106 =>
    Q x107 S106))))
def w_X8_vote (x0 : Nat) (x1 : Int32) (S : sT) (Q : Int32 → sT → Prop) : Prop := w_X8_vote_b0 x0 x1 S Q
def r_X8_vote : Room := x_rm 2 47 0 0
theorem b_X8_vote : x_BV yX8_vote cX8_vote 8 (some .int) 1 := ⟨q_30_14, q_30_12, q_30_13, q_1_5, by decide +kernel⟩
set_option maxHeartbeats 4000000 in
theorem t_X8_vote_b60 {Q : Int32 → sT → Prop} (C : x_C p s m args c cX8_vote RX8 gg) (hml : c.maxLocals = 8) (hr : meth.sig.returnType = (some .int)) (hlocks : meth.locks = false) {x0 : Nat} {x1 : Int32} {x2 : Int32} {x3 : Int32} {kk25 : Nat → Int32 → Int32 → Int32 → sT → Prop} {S : sT} (hk25 : ∀ (x0 : Nat) (x1 : Int32) (x2 : Int32) (x3 : Int32) (S : sT), kk25 x0 x1 x2 x3 S → x_X p l e r_X8_vote s m args below meth c gg 8 0 0 (MQ below (va_Qi Q (fun S1 t => s_Rep gg S1 t.heap) (s_A gg)) args s 0 0 (s_A gg)) 25 [(0, .ref x0), (1, .int x1), (2, .int x2), (3, .int x3)] [] S) (h : w_X8_vote_b60 x0 x1 x2 x3 S kk25 Q) : x_X p l e r_X8_vote s m args below meth c gg 8 0 0 (MQ below (va_Qi Q (fun S1 t => s_Rep gg S1 t.heap) (s_A gg)) args s 0 0 (s_A gg)) 60 [(0, .ref x0), (1, .int x1), (2, .int x2), (3, .int x3)] [] S := by
  unfold w_X8_vote_b60 at h
  obtain ⟨hx, hb, -⟩ := id C
  intro H locs ls hR hS hl
  obtain ⟨x101, ex101⟩ : ∃ z : Int32, z = x3 + 2 := ⟨_, rfl⟩
  replace h := h x101 ex101
  refine lv_iinc (v := x101) (lv' := [(3, .int x101), (0, .ref x0), (1, .int x1), (2, .int x2)]) hx hb dX8_vote_60 hl (k := 3) rfl (by rw [ex101]; rfl) (by decide) rfl (fun ls hl => ?_)
  refine lv_goto (tgt := 25) hx hb dX8_vote_63 (by decide) ?_
  exact hk25 x0 x1 x2 x101 S h H locs ls hR hS (lv_sub (l' := [(0, .ref x0), (1, .int x1), (2, .int x2), (3, .int x101)]) hl [1, 2, 3, 0] rfl)
set_option maxHeartbeats 4000000 in
theorem t_X8_vote_b58 {Q : Int32 → sT → Prop} (C : x_C p s m args c cX8_vote RX8 gg) (hml : c.maxLocals = 8) (hr : meth.sig.returnType = (some .int)) (hlocks : meth.locks = false) {x0 : Nat} {x1 : Int32} {x3 : Int32} {kk25 : Nat → Int32 → Int32 → Int32 → sT → Prop} {S : sT} (hk25 : ∀ (x0 : Nat) (x1 : Int32) (x2 : Int32) (x3 : Int32) (S : sT), kk25 x0 x1 x2 x3 S → x_X p l e r_X8_vote s m args below meth c gg 8 0 0 (MQ below (va_Qi Q (fun S1 t => s_Rep gg S1 t.heap) (s_A gg)) args s 0 0 (s_A gg)) 25 [(0, .ref x0), (1, .int x1), (2, .int x2), (3, .int x3)] [] S) (h : w_X8_vote_b58 x0 x1 x3 S kk25 Q) : x_X p l e r_X8_vote s m args below meth c gg 8 0 0 (MQ below (va_Qi Q (fun S1 t => s_Rep gg S1 t.heap) (s_A gg)) args s 0 0 (s_A gg)) 58 [(0, .ref x0), (1, .int x1), (3, .int x3)] [] S := by
  unfold w_X8_vote_b58 at h
  obtain ⟨hx, hb, -⟩ := id C
  intro H locs ls hR hS hl
  refine lv_iload_n hx hb dX8_vote_58 rfl (lv_at hl 2 rfl) ?_
  refine lv_istore_n (lv' := [(2, .int x3), (0, .ref x0), (1, .int x1), (3, .int x3)]) hx hb dX8_vote_59 rfl hl (by decide) rfl (fun ls hl => ?_)
  exact t_X8_vote_b60 C hml hr hlocks hk25 h H locs ls hR hS (lv_sub (l' := [(0, .ref x0), (1, .int x1), (2, .int x3), (3, .int x3)]) hl [1, 2, 0, 3] rfl)
set_option maxHeartbeats 4000000 in
theorem t_X8_vote_b209 {Q : Int32 → sT → Prop} (C : x_C p s m args c cX8_vote RX8 gg) (hml : c.maxLocals = 8) (hr : meth.sig.returnType = (some .int)) (hlocks : meth.locks = false) {x0 : Nat} {x1 : Int32} {x3 : Int32}  {S : sT}  (h : w_X8_vote_b209 x0 x1 x3 S  Q) : x_X p l e r_X8_vote s m args below meth c gg 8 0 0 (MQ below (va_Qi Q (fun S1 t => s_Rep gg S1 t.heap) (s_A gg)) args s 0 0 (s_A gg)) 209 [(0, .ref x0), (1, .int x1), (3, .int x3)] [] S := by
  unfold w_X8_vote_b209 at h
  obtain ⟨hx, hb, -⟩ := id C
  intro H locs ls hR hS hl
  refine lv_aload_n hx hb dX8_vote_209 rfl (lv_at hl 0 rfl) ?_
  obtain ⟨hK_x0, h⟩ := h
  refine x_g_289 C hR hK_x0 q_3_8 dX8_vote_210 ?_
  obtain ⟨a101, ea101, h⟩ := h
  refine x_some ea101 ?_
  obtain ⟨hK_a101, h⟩ := h
  refine x_gN_256 C hR hK_a101 (xn_2 C) dX8_vote_213 ?_
  obtain ⟨a102, ea102, h⟩ := h
  refine x_some ea102 ?_
  refine lv_iload_n hx hb dX8_vote_216 rfl (lv_at hl 1 rfl) ?_
  obtain ⟨hK_a102, h⟩ := h
  obtain ⟨hi103, a104, ea104, h⟩ := h
  refine x_aald13 C hR hK_a102 hi103 dX8_vote_217 ?_
  refine x_some ea104 ?_
  refine lv_bipush (v := 8) hx hb dX8_vote_218 (by decide) ?_
  refine lv_iconst (v := 0) hx hb dX8_vote_220 (by decide) ?_
  obtain ⟨hK_a104, h⟩ := h
  obtain ⟨hi105, h⟩ := h
  refine x_iast C hR hK_a104 hS hi105 dX8_vote_221 (fun H locs hR hS => ?_)
  obtain ⟨S106, eS106⟩ : ∃ z : sT, z = s_sB S a104 (Int32.toNatClampNeg (8 : Int32)) (0 : Int32) := ⟨_, rfl⟩
  rw [← eS106] at hR
  replace h := h S106 eS106
  have hK_x0 : s_K S106 x0 = 10 := by rw [eS106]; exact hK_x0
  have hK_a101 : s_K S106 a101 = 9 := by rw [eS106]; exact hK_a101
  have hK_a102 : s_K S106 a102 = 13 := by rw [eS106]; exact hK_a102
  have hK_a104 : s_K S106 a104 = 11 := by rw [eS106]; exact hK_a104
  refine lv_iload_n hx hb dX8_vote_222 rfl (lv_at hl 2 rfl) ?_
  exact W.iret (v := x3) hx hb hr (fun t ht hW => ⟨⟨x3, S106, rfl, h, x_rt ht hR⟩, hS.F ht⟩) hS.2.2 dX8_vote_223
set_option maxHeartbeats 4000000 in
theorem t_X8_vote_b141 {Q : Int32 → sT → Prop} (C : x_C p s m args c cX8_vote RX8 gg) (hml : c.maxLocals = 8) (hr : meth.sig.returnType = (some .int)) (hlocks : meth.locks = false) {x0 : Nat} {x1 : Int32} {x2 : Int32} {x4 : Nat} {x5 : Int32} {x6 : Int32} {y0 : Int32} {y1 : Int32} {kk85 : Nat → Int32 → Int32 → Int32 → Nat → Int32 → Int32 → sT → Prop} {S : sT} (hk85 : ∀ (x0 : Nat) (x1 : Int32) (x2 : Int32) (x3 : Int32) (x4 : Nat) (x5 : Int32) (x6 : Int32) (S : sT), kk85 x0 x1 x2 x3 x4 x5 x6 S → x_X p l e r_X8_vote s m args below meth c gg 8 0 0 (MQ below (va_Qi Q (fun S1 t => s_Rep gg S1 t.heap) (s_A gg)) args s 0 0 (s_A gg)) 85 [(0, .ref x0), (1, .int x1), (2, .int x2), (3, .int x3), (4, .ref x4), (5, .int x5), (6, .int x6)] [] S) (h : w_X8_vote_b141 x0 x1 x2 x4 x5 x6 y0 y1 S kk85 Q) : x_X p l e r_X8_vote s m args below meth c gg 8 0 0 (MQ below (va_Qi Q (fun S1 t => s_Rep gg S1 t.heap) (s_A gg)) args s 0 0 (s_A gg)) 141 [(0, .ref x0), (1, .int x1), (2, .int x2), (4, .ref x4), (5, .int x5), (6, .int x6)] [.int y0, .int y1] S := by
  unfold w_X8_vote_b141 at h
  obtain ⟨hx, hb, -⟩ := id C
  intro H locs ls hR hS hl
  refine lv_iadd hx hb dX8_vote_141 ?_
  refine lv_topi (fun x101 ex101 => ?_)
  replace h := h x101 ex101
  refine lv_istore_n (lv' := [(3, .int x101), (0, .ref x0), (1, .int x1), (2, .int x2), (4, .ref x4), (5, .int x5), (6, .int x6)]) hx hb dX8_vote_142 rfl hl (by decide) rfl (fun ls hl => ?_)
  obtain ⟨x102, ex102⟩ : ∃ z : Int32, z = x6 + 1 := ⟨_, rfl⟩
  replace h := h x102 ex102
  refine lv_iinc (v := x102) (lv' := [(6, .int x102), (3, .int x101), (0, .ref x0), (1, .int x1), (2, .int x2), (4, .ref x4), (5, .int x5)]) hx hb dX8_vote_143 hl (k := 6) rfl (by rw [ex102]; rfl) (by decide) rfl (fun ls hl => ?_)
  refine lv_goto (tgt := 85) hx hb dX8_vote_146 (by decide) ?_
  exact hk85 x0 x1 x2 x101 x4 x5 x102 S h H locs ls hR hS (lv_sub (l' := [(0, .ref x0), (1, .int x1), (2, .int x2), (3, .int x101), (4, .ref x4), (5, .int x5), (6, .int x102)]) hl [2, 3, 4, 1, 5, 6, 0] rfl)
set_option maxHeartbeats 4000000 in
theorem t_X8_vote_b140 {Q : Int32 → sT → Prop} (C : x_C p s m args c cX8_vote RX8 gg) (hml : c.maxLocals = 8) (hr : meth.sig.returnType = (some .int)) (hlocks : meth.locks = false) {x0 : Nat} {x1 : Int32} {x2 : Int32} {x4 : Nat} {x5 : Int32} {x6 : Int32} {y0 : Int32} {kk85 : Nat → Int32 → Int32 → Int32 → Nat → Int32 → Int32 → sT → Prop} {S : sT} (hk85 : ∀ (x0 : Nat) (x1 : Int32) (x2 : Int32) (x3 : Int32) (x4 : Nat) (x5 : Int32) (x6 : Int32) (S : sT), kk85 x0 x1 x2 x3 x4 x5 x6 S → x_X p l e r_X8_vote s m args below meth c gg 8 0 0 (MQ below (va_Qi Q (fun S1 t => s_Rep gg S1 t.heap) (s_A gg)) args s 0 0 (s_A gg)) 85 [(0, .ref x0), (1, .int x1), (2, .int x2), (3, .int x3), (4, .ref x4), (5, .int x5), (6, .int x6)] [] S) (h : w_X8_vote_b140 x0 x1 x2 x4 x5 x6 y0 S kk85 Q) : x_X p l e r_X8_vote s m args below meth c gg 8 0 0 (MQ below (va_Qi Q (fun S1 t => s_Rep gg S1 t.heap) (s_A gg)) args s 0 0 (s_A gg)) 140 [(0, .ref x0), (1, .int x1), (2, .int x2), (4, .ref x4), (5, .int x5), (6, .int x6)] [.int y0] S := by
  unfold w_X8_vote_b140 at h
  obtain ⟨hx, hb, -⟩ := id C
  intro H locs ls hR hS hl
  refine lv_iconst (v := 0) hx hb dX8_vote_140 (by decide) ?_
  exact t_X8_vote_b141 C hml hr hlocks hk85 h H locs ls hR hS (lv_sub (l' := [(0, .ref x0), (1, .int x1), (2, .int x2), (4, .ref x4), (5, .int x5), (6, .int x6)]) hl [0, 1, 2, 3, 4, 5] rfl)
set_option maxHeartbeats 4000000 in
theorem t_X8_vote_b136 {Q : Int32 → sT → Prop} (C : x_C p s m args c cX8_vote RX8 gg) (hml : c.maxLocals = 8) (hr : meth.sig.returnType = (some .int)) (hlocks : meth.locks = false) {x0 : Nat} {x1 : Int32} {x2 : Int32} {x4 : Nat} {x5 : Int32} {x6 : Int32} {y0 : Int32} {kk85 : Nat → Int32 → Int32 → Int32 → Nat → Int32 → Int32 → sT → Prop} {S : sT} (hk85 : ∀ (x0 : Nat) (x1 : Int32) (x2 : Int32) (x3 : Int32) (x4 : Nat) (x5 : Int32) (x6 : Int32) (S : sT), kk85 x0 x1 x2 x3 x4 x5 x6 S → x_X p l e r_X8_vote s m args below meth c gg 8 0 0 (MQ below (va_Qi Q (fun S1 t => s_Rep gg S1 t.heap) (s_A gg)) args s 0 0 (s_A gg)) 85 [(0, .ref x0), (1, .int x1), (2, .int x2), (3, .int x3), (4, .ref x4), (5, .int x5), (6, .int x6)] [] S) (h : w_X8_vote_b136 x0 x1 x2 x4 x5 x6 y0 S kk85 Q) : x_X p l e r_X8_vote s m args below meth c gg 8 0 0 (MQ below (va_Qi Q (fun S1 t => s_Rep gg S1 t.heap) (s_A gg)) args s 0 0 (s_A gg)) 136 [(0, .ref x0), (1, .int x1), (2, .int x2), (4, .ref x4), (5, .int x5), (6, .int x6)] [.int y0] S := by
  unfold w_X8_vote_b136 at h
  obtain ⟨hx, hb, -⟩ := id C
  intro H locs ls hR hS hl
  refine lv_iconst (v := 1) hx hb dX8_vote_136 (by decide) ?_
  refine lv_goto (tgt := 141) hx hb dX8_vote_137 (by decide) ?_
  exact t_X8_vote_b141 C hml hr hlocks hk85 h H locs ls hR hS (lv_sub (l' := [(0, .ref x0), (1, .int x1), (2, .int x2), (4, .ref x4), (5, .int x5), (6, .int x6)]) hl [0, 1, 2, 3, 4, 5] rfl)
set_option maxHeartbeats 4000000 in
theorem t_X8_vote_b85 {Q : Int32 → sT → Prop} (C : x_C p s m args c cX8_vote RX8 gg) (hml : c.maxLocals = 8) (hr : meth.sig.returnType = (some .int)) (hlocks : meth.locks = false)   : ∀ (n : Nat) (x0 : Nat) (x1 : Int32) (x2 : Int32) (x3 : Int32) (x4 : Nat) (x5 : Int32) (x6 : Int32) (S : sT), w_X8_vote_b85  Q n x0 x1 x2 x3 x4 x5 x6 S → x_X p l e r_X8_vote s m args below meth c gg 8 0 0 (MQ below (va_Qi Q (fun S1 t => s_Rep gg S1 t.heap) (s_A gg)) args s 0 0 (s_A gg)) 85 [(0, .ref x0), (1, .int x1), (2, .int x2), (3, .int x3), (4, .ref x4), (5, .int x5), (6, .int x6)] [] S := by
  obtain ⟨hx, hb, -⟩ := id C
  intro n
  induction n with
  | zero => intro x0 x1 x2 x3 x4 x5 x6 S h; exact absurd h id
  | succ n ih =>
    intro x0 x1 x2 x3 x4 x5 x6 S h H locs ls hR hS hl
    unfold w_X8_vote_b85 at h
    refine lv_iload hx hb dX8_vote_85 (lv_at hl 6 rfl) ?_
    refine lv_iload hx hb dX8_vote_87 (lv_at hl 5 rfl) ?_
    refine lv_icmp_ge (tgt := 149) hx hb dX8_vote_89 (by decide) (fun hc101 => ?_) (fun hc101 => ?_)
    · replace h := h.1 hc101
      refine lv_iconst (v := 2) hx hb dX8_vote_149 (by decide) ?_
      refine lv_iload_n hx hb dX8_vote_150 rfl (lv_at hl 3 rfl) ?_
      refine lv_imul hx hb dX8_vote_151 ?_
      refine lv_topi (fun x102 ex102 => ?_)
      replace h := h x102 ex102
      refine lv_aload_n hx hb dX8_vote_152 rfl (lv_at hl 0 rfl) ?_
      refine lv_iload_n hx hb dX8_vote_153 rfl (lv_at hl 1 rfl) ?_
      obtain ⟨hK_x0, h⟩ := h
      refine x_ki (x_runV (As := [.int x1]) (rest := [.int x102]) C hml hR hS (m_X8_size l gg x0 x1 S h) b_X8_size q_30_19 (by rw [hK_x0]; decide) (s_E_9 hK_x0) rfl rfl rfl rfl ⟨Nat.le_of_ble_eq_true rfl, Nat.le_of_ble_eq_true rfl⟩ rfl hl.1 (Nat.le_of_ble_eq_true rfl) dX8_vote_154 ⟨Nat.le_refl _, Nat.le_refl _⟩) hS (fun x104 S103 H locs hn hR hS => ?_)
      replace h := hn
      clear hn
      refine lv_icmp_le (tgt := 209) hx hb dX8_vote_157 (by decide) (fun hc105 => ?_) (fun hc105 => ?_)
      · replace h := h.1 hc105
        exact t_X8_vote_b209 C hml hr hlocks  h H locs ls hR hS (lv_sub (l' := [(0, .ref x0), (1, .int x1), (3, .int x3)]) hl [0, 1, 3] rfl)
      · replace h := h.2 hc105
        refine lv_iload_n hx hb dX8_vote_160 rfl (lv_at hl 2 rfl) ?_
        refine lv_iconst (v := (-1)) hx hb dX8_vote_161 (by decide) ?_
        refine lv_icmp_eq (tgt := 209) hx hb dX8_vote_162 (by decide) (fun hc106 => ?_) (fun hc106 => ?_)
        · replace h := h.1 hc106
          exact t_X8_vote_b209 C hml hr hlocks  h H locs ls hR hS (lv_sub (l' := [(0, .ref x0), (1, .int x1), (3, .int x3)]) hl [0, 1, 3] rfl)
        · replace h := h.2 hc106
          refine lv_aload_n hx hb dX8_vote_165 rfl (lv_at hl 0 rfl) ?_
          obtain ⟨hK_x0, h⟩ := h
          refine x_g_289 C hR hK_x0 q_3_8 dX8_vote_166 ?_
          obtain ⟨a107, ea107, h⟩ := h
          refine x_some ea107 ?_
          obtain ⟨hK_a107, h⟩ := h
          refine x_gN_256 C hR hK_a107 (xn_2 C) dX8_vote_169 ?_
          obtain ⟨a108, ea108, h⟩ := h
          refine x_some ea108 ?_
          refine lv_iload_n hx hb dX8_vote_172 rfl (lv_at hl 1 rfl) ?_
          obtain ⟨hK_a108, h⟩ := h
          obtain ⟨hi109, a110, ea110, h⟩ := h
          refine x_aald13 C hR hK_a108 hi109 dX8_vote_173 ?_
          refine x_some ea110 ?_
          refine lv_iconst (v := 2) hx hb dX8_vote_174 (by decide) ?_
          refine lv_aload_n hx hb dX8_vote_175 rfl (lv_at hl 0 rfl) ?_
          refine x_g_289 C hR hK_x0 q_3_8 dX8_vote_176 ?_
          obtain ⟨a111, ea111, h⟩ := h
          refine x_some ea111 ?_
          obtain ⟨hK_a111, h⟩ := h
          refine x_gN_256 C hR hK_a111 (xn_2 C) dX8_vote_179 ?_
          obtain ⟨a112, ea112, h⟩ := h
          refine x_some ea112 ?_
          refine lv_iload_n hx hb dX8_vote_182 rfl (lv_at hl 2 rfl) ?_
          obtain ⟨hK_a112, h⟩ := h
          obtain ⟨hi113, a114, ea114, h⟩ := h
          refine x_aald13 C hR hK_a112 hi113 dX8_vote_183 ?_
          refine x_some ea114 ?_
          refine lv_iconst (v := 2) hx hb dX8_vote_184 (by decide) ?_
          obtain ⟨hK_a114, h⟩ := h
          obtain ⟨hi115, h⟩ := h
          refine x_iald C hR hK_a114 hi115 dX8_vote_185 ?_
          refine lv_topi (fun x116 ex116 => ?_)
          replace h := h x116 ex116
          obtain ⟨hK_a110, h⟩ := h
          obtain ⟨hi117, h⟩ := h
          refine x_iast C hR hK_a110 hS hi117 dX8_vote_186 (fun H locs hR hS => ?_)
          obtain ⟨S118, eS118⟩ : ∃ z : sT, z = s_sB S103 a110 (Int32.toNatClampNeg (2 : Int32)) x116 := ⟨_, rfl⟩
          rw [← eS118] at hR
          replace h := h S118 eS118
          have hK_x0 : s_K S118 x0 = 10 := by rw [eS118]; exact hK_x0
          have hK_a107 : s_K S118 a107 = 9 := by rw [eS118]; exact hK_a107
          have hK_a108 : s_K S118 a108 = 13 := by rw [eS118]; exact hK_a108
          have hK_a111 : s_K S118 a111 = 9 := by rw [eS118]; exact hK_a111
          have hK_a112 : s_K S118 a112 = 13 := by rw [eS118]; exact hK_a112
          have hK_a114 : s_K S118 a114 = 11 := by rw [eS118]; exact hK_a114
          have hK_a110 : s_K S118 a110 = 11 := by rw [eS118]; exact hK_a110
          refine lv_aload_n hx hb dX8_vote_187 rfl (lv_at hl 0 rfl) ?_
          refine x_g_289 C hR hK_x0 q_3_8 dX8_vote_188 ?_
          obtain ⟨a119, ea119, h⟩ := h
          refine x_some ea119 ?_
          obtain ⟨hK_a119, h⟩ := h
          refine x_gN_256 C hR hK_a119 (xn_2 C) dX8_vote_191 ?_
          obtain ⟨a120, ea120, h⟩ := h
          refine x_some ea120 ?_
          refine lv_iload_n hx hb dX8_vote_194 rfl (lv_at hl 1 rfl) ?_
          obtain ⟨hK_a120, h⟩ := h
          obtain ⟨hi121, a122, ea122, h⟩ := h
          refine x_aald13 C hR hK_a120 hi121 dX8_vote_195 ?_
          refine x_some ea122 ?_
          refine lv_iconst (v := 3) hx hb dX8_vote_196 (by decide) ?_
          refine lv_aload_n hx hb dX8_vote_197 rfl (lv_at hl 0 rfl) ?_
          refine x_g_289 C hR hK_x0 q_3_8 dX8_vote_198 ?_
          obtain ⟨a123, ea123, h⟩ := h
          refine x_some ea123 ?_
          obtain ⟨hK_a123, h⟩ := h
          refine x_gN_256 C hR hK_a123 (xn_2 C) dX8_vote_201 ?_
          obtain ⟨a124, ea124, h⟩ := h
          refine x_some ea124 ?_
          refine lv_iload_n hx hb dX8_vote_204 rfl (lv_at hl 2 rfl) ?_
          obtain ⟨hK_a124, h⟩ := h
          obtain ⟨hi125, a126, ea126, h⟩ := h
          refine x_aald13 C hR hK_a124 hi125 dX8_vote_205 ?_
          refine x_some ea126 ?_
          refine lv_iconst (v := 3) hx hb dX8_vote_206 (by decide) ?_
          obtain ⟨hK_a126, h⟩ := h
          obtain ⟨hi127, h⟩ := h
          refine x_iald C hR hK_a126 hi127 dX8_vote_207 ?_
          refine lv_topi (fun x128 ex128 => ?_)
          replace h := h x128 ex128
          obtain ⟨hK_a122, h⟩ := h
          obtain ⟨hi129, h⟩ := h
          refine x_iast C hR hK_a122 hS hi129 dX8_vote_208 (fun H locs hR hS => ?_)
          obtain ⟨S130, eS130⟩ : ∃ z : sT, z = s_sB S118 a122 (Int32.toNatClampNeg (3 : Int32)) x128 := ⟨_, rfl⟩
          rw [← eS130] at hR
          replace h := h S130 eS130
          have hK_x0 : s_K S130 x0 = 10 := by rw [eS130]; exact hK_x0
          have hK_a107 : s_K S130 a107 = 9 := by rw [eS130]; exact hK_a107
          have hK_a108 : s_K S130 a108 = 13 := by rw [eS130]; exact hK_a108
          have hK_a111 : s_K S130 a111 = 9 := by rw [eS130]; exact hK_a111
          have hK_a112 : s_K S130 a112 = 13 := by rw [eS130]; exact hK_a112
          have hK_a114 : s_K S130 a114 = 11 := by rw [eS130]; exact hK_a114
          have hK_a110 : s_K S130 a110 = 11 := by rw [eS130]; exact hK_a110
          have hK_a119 : s_K S130 a119 = 9 := by rw [eS130]; exact hK_a119
          have hK_a120 : s_K S130 a120 = 13 := by rw [eS130]; exact hK_a120
          have hK_a123 : s_K S130 a123 = 9 := by rw [eS130]; exact hK_a123
          have hK_a124 : s_K S130 a124 = 13 := by rw [eS130]; exact hK_a124
          have hK_a126 : s_K S130 a126 = 11 := by rw [eS130]; exact hK_a126
          have hK_a122 : s_K S130 a122 = 11 := by rw [eS130]; exact hK_a122
          exact t_X8_vote_b209 C hml hr hlocks  h H locs ls hR hS (lv_sub (l' := [(0, .ref x0), (1, .int x1), (3, .int x3)]) hl [0, 1, 3] rfl)
    · replace h := h.2 hc101
      refine lv_aload hx hb dX8_vote_92 (lv_at hl 4 rfl) ?_
      refine lv_iload hx hb dX8_vote_94 (lv_at hl 6 rfl) ?_
      obtain ⟨hK_x4, h⟩ := h
      obtain ⟨hi131, a132, ea132, h⟩ := h
      refine x_aald13 C hR hK_x4 hi131 dX8_vote_96 ?_
      refine x_some ea132 ?_
      refine lv_astore (lv' := [(7, .ref a132), (0, .ref x0), (1, .int x1), (2, .int x2), (3, .int x3), (4, .ref x4), (5, .int x5), (6, .int x6)]) hx hb dX8_vote_97 hl (by decide) rfl (fun ls hl => ?_)
      refine lv_iload_n hx hb dX8_vote_99 rfl (lv_at hl 4 rfl) ?_
      refine lv_aload hx hb dX8_vote_100 (lv_at hl 0 rfl) ?_
      refine lv_iconst (v := 0) hx hb dX8_vote_102 (by decide) ?_
      obtain ⟨hK_a132, h⟩ := h
      obtain ⟨hi133, h⟩ := h
      refine x_iald C hR hK_a132 hi133 dX8_vote_103 ?_
      refine lv_topi (fun x134 ex134 => ?_)
      replace h := h x134 ex134
      refine lv_iload_n hx hb dX8_vote_104 rfl (lv_at hl 2 rfl) ?_
      refine lv_icmp_ne (tgt := 140) hx hb dX8_vote_105 (by decide) (fun hc135 => ?_) (fun hc135 => ?_)
      · replace h := h.1 hc135
        exact t_X8_vote_b140 C hml hr hlocks (fun x0 x1 x2 x3 x4 x5 x6 S h => ih x0 x1 x2 x3 x4 x5 x6 S h) h H locs ls hR hS (lv_sub (l' := [(0, .ref x0), (1, .int x1), (2, .int x2), (4, .ref x4), (5, .int x5), (6, .int x6)]) hl [1, 2, 3, 5, 6, 7] rfl)
      · replace h := h.2 hc135
        refine lv_aload hx hb dX8_vote_108 (lv_at hl 0 rfl) ?_
        refine lv_bipush (v := 8) hx hb dX8_vote_110 (by decide) ?_
        obtain ⟨hi136, h⟩ := h
        refine x_iald C hR hK_a132 hi136 dX8_vote_112 ?_
        refine lv_topi (fun x137 ex137 => ?_)
        replace h := h x137 ex137
        refine lv_bipush (v := 30) hx hb dX8_vote_113 (by decide) ?_
        refine lv_icmp_gt (tgt := 136) hx hb dX8_vote_115 (by decide) (fun hc138 => ?_) (fun hc138 => ?_)
        · replace h := h.1 hc138
          exact t_X8_vote_b136 C hml hr hlocks (fun x0 x1 x2 x3 x4 x5 x6 S h => ih x0 x1 x2 x3 x4 x5 x6 S h) h H locs ls hR hS (lv_sub (l' := [(0, .ref x0), (1, .int x1), (2, .int x2), (4, .ref x4), (5, .int x5), (6, .int x6)]) hl [1, 2, 3, 5, 6, 7] rfl)
        · replace h := h.2 hc138
          refine lv_iload_n hx hb dX8_vote_118 rfl (lv_at hl 3 rfl) ?_
          refine lv_iconst (v := (-1)) hx hb dX8_vote_119 (by decide) ?_
          refine lv_icmp_eq (tgt := 140) hx hb dX8_vote_120 (by decide) (fun hc139 => ?_) (fun hc139 => ?_)
          · replace h := h.1 hc139
            exact t_X8_vote_b140 C hml hr hlocks (fun x0 x1 x2 x3 x4 x5 x6 S h => ih x0 x1 x2 x3 x4 x5 x6 S h) h H locs ls hR hS (lv_sub (l' := [(0, .ref x0), (1, .int x1), (2, .int x2), (4, .ref x4), (5, .int x5), (6, .int x6)]) hl [1, 2, 3, 5, 6, 7] rfl)
          · replace h := h.2 hc139
            refine lv_aload_n hx hb dX8_vote_123 rfl (lv_at hl 1 rfl) ?_
            refine lv_iload_n hx hb dX8_vote_124 rfl (lv_at hl 3 rfl) ?_
            obtain ⟨hK_x0, h⟩ := h
            refine x_ki (x_runV (As := [.int x2]) (rest := [.int x3]) C hml hR hS (m_X8_rate l gg x0 x2 S h) b_X8_rate q_30_15 (by rw [hK_x0]; decide) (s_E_9 hK_x0) rfl rfl rfl rfl ⟨Nat.le_of_ble_eq_true rfl, Nat.le_of_ble_eq_true rfl⟩ rfl hl.1 (Nat.le_of_ble_eq_true rfl) dX8_vote_125 ⟨Nat.le_refl _, Nat.le_refl _⟩) hS (fun x141 S140 H locs hn hR hS => ?_)
            replace h := hn
            clear hn
            refine lv_aload_n hx hb dX8_vote_128 rfl (lv_at hl 1 rfl) ?_
            refine lv_iload_n hx hb dX8_vote_129 rfl (lv_at hl 2 rfl) ?_
            obtain ⟨hK_x0, h⟩ := h
            refine x_ki (x_runV (As := [.int x1]) (rest := [.int x141, .int x3]) C hml hR hS (m_X8_rate l gg x0 x1 S140 h) b_X8_rate q_30_15 (by rw [hK_x0]; decide) (s_E_9 hK_x0) rfl rfl rfl rfl ⟨Nat.le_of_ble_eq_true rfl, Nat.le_of_ble_eq_true rfl⟩ rfl hl.1 (Nat.le_of_ble_eq_true rfl) dX8_vote_130 ⟨Nat.le_refl _, Nat.le_refl _⟩) hS (fun x143 S142 H locs hn hR hS => ?_)
            replace h := hn
            clear hn
            refine lv_icmp_le (tgt := 140) hx hb dX8_vote_133 (by decide) (fun hc144 => ?_) (fun hc144 => ?_)
            · replace h := h.1 hc144
              exact t_X8_vote_b140 C hml hr hlocks (fun x0 x1 x2 x3 x4 x5 x6 S h => ih x0 x1 x2 x3 x4 x5 x6 S h) h H locs ls hR hS (lv_sub (l' := [(0, .ref x0), (1, .int x1), (2, .int x2), (4, .ref x4), (5, .int x5), (6, .int x6)]) hl [1, 2, 3, 5, 6, 7] rfl)
            · replace h := h.2 hc144
              exact t_X8_vote_b136 C hml hr hlocks (fun x0 x1 x2 x3 x4 x5 x6 S h => ih x0 x1 x2 x3 x4 x5 x6 S h) h H locs ls hR hS (lv_sub (l' := [(0, .ref x0), (1, .int x1), (2, .int x2), (4, .ref x4), (5, .int x5), (6, .int x6)]) hl [1, 2, 3, 5, 6, 7] rfl)
set_option maxHeartbeats 4000000 in
theorem t_X8_vote_b25 {Q : Int32 → sT → Prop} (C : x_C p s m args c cX8_vote RX8 gg) (hml : c.maxLocals = 8) (hr : meth.sig.returnType = (some .int)) (hlocks : meth.locks = false)   : ∀ (n : Nat) (x0 : Nat) (x1 : Int32) (x2 : Int32) (x3 : Int32) (S : sT), w_X8_vote_b25  Q n x0 x1 x2 x3 S → x_X p l e r_X8_vote s m args below meth c gg 8 0 0 (MQ below (va_Qi Q (fun S1 t => s_Rep gg S1 t.heap) (s_A gg)) args s 0 0 (s_A gg)) 25 [(0, .ref x0), (1, .int x1), (2, .int x2), (3, .int x3)] [] S := by
  obtain ⟨hx, hb, -⟩ := id C
  intro n
  induction n with
  | zero => intro x0 x1 x2 x3 S h; exact absurd h id
  | succ n ih =>
    intro x0 x1 x2 x3 S h H locs ls hR hS hl
    unfold w_X8_vote_b25 at h
    refine lv_iload_n hx hb dX8_vote_25 rfl (lv_at hl 3 rfl) ?_
    refine lv_iload_n hx hb dX8_vote_26 rfl (lv_at hl 1 rfl) ?_
    refine lv_iconst (v := 1) hx hb dX8_vote_27 (by decide) ?_
    refine lv_iadd hx hb dX8_vote_28 ?_
    refine lv_topi (fun x101 ex101 => ?_)
    replace h := h x101 ex101
    refine lv_icmp_gt (tgt := 66) hx hb dX8_vote_29 (by decide) (fun hc102 => ?_) (fun hc102 => ?_)
    · replace h := h.1 hc102
      refine lv_iconst (v := 0) hx hb dX8_vote_66 (by decide) ?_
      refine lv_istore_n (lv' := [(3, .int (0 : Int32)), (0, .ref x0), (1, .int x1), (2, .int x2)]) hx hb dX8_vote_67 rfl hl (by decide) rfl (fun ls hl => ?_)
      refine lv_aload_n hx hb dX8_vote_68 rfl (lv_at hl 1 rfl) ?_
      obtain ⟨hK_x0, h⟩ := h
      refine x_g_289 C hR hK_x0 q_3_8 dX8_vote_69 ?_
      obtain ⟨a103, ea103, h⟩ := h
      refine x_some ea103 ?_
      obtain ⟨hK_a103, h⟩ := h
      refine x_gN_257 C hR hK_a103 (xn_1 C) dX8_vote_72 ?_
      obtain ⟨a104, ea104, h⟩ := h
      refine x_some ea104 ?_
      refine lv_astore (lv' := [(4, .ref a104), (3, .int (0 : Int32)), (0, .ref x0), (1, .int x1), (2, .int x2)]) hx hb dX8_vote_75 hl (by decide) rfl (fun ls hl => ?_)
      refine lv_aload hx hb dX8_vote_77 (lv_at hl 0 rfl) ?_
      obtain ⟨hK_a104, h⟩ := h
      refine x_alen13 C hR hK_a104 dX8_vote_79 ?_
      refine lv_topi (fun x105 ex105 => ?_)
      replace h := h x105 ex105
      refine lv_istore (lv' := [(5, .int x105), (4, .ref a104), (3, .int (0 : Int32)), (0, .ref x0), (1, .int x1), (2, .int x2)]) hx hb dX8_vote_80 hl (by decide) rfl (fun ls hl => ?_)
      refine lv_iconst (v := 0) hx hb dX8_vote_82 (by decide) ?_
      refine lv_istore (lv' := [(6, .int (0 : Int32)), (5, .int x105), (4, .ref a104), (3, .int (0 : Int32)), (0, .ref x0), (1, .int x1), (2, .int x2)]) hx hb dX8_vote_83 hl (by decide) rfl (fun ls hl => ?_)
      obtain ⟨n9, h⟩ := h
      exact t_X8_vote_b85 C hml hr hlocks  n9 x0 x1 x2 (0 : Int32) a104 x105 (0 : Int32) S h H locs ls hR hS (lv_sub (l' := [(0, .ref x0), (1, .int x1), (2, .int x2), (3, .int (0 : Int32)), (4, .ref a104), (5, .int x105), (6, .int (0 : Int32))]) hl [4, 5, 6, 3, 2, 1, 0] rfl)
    · replace h := h.2 hc102
      refine lv_aload_n hx hb dX8_vote_32 rfl (lv_at hl 0 rfl) ?_
      refine lv_iload_n hx hb dX8_vote_33 rfl (lv_at hl 3 rfl) ?_
      obtain ⟨hK_x0, h⟩ := h
      refine x_ki (x_runV (As := [.int x3]) (rest := []) C hml hR hS (m_X8_isSociety l gg x0 x3 S h) b_X8_isSociety q_12_10 (by rw [hK_x0]; decide) (s_E_9 hK_x0) rfl rfl rfl rfl ⟨Nat.le_of_ble_eq_true rfl, Nat.le_of_ble_eq_true rfl⟩ rfl hl.1 (Nat.le_of_ble_eq_true rfl) dX8_vote_34 ⟨Nat.le_refl _, Nat.le_refl _⟩) hS (fun x107 S106 H locs hn hR hS => ?_)
      replace h := hn
      clear hn
      refine lv_if_eq (tgt := 60) hx hb dX8_vote_37 (by decide) (fun hc108 => ?_) (fun hc108 => ?_)
      · replace h := h.1 hc108
        exact t_X8_vote_b60 C hml hr hlocks (fun x0 x1 x2 x3 S h => ih x0 x1 x2 x3 S h) h H locs ls hR hS (lv_sub (l' := [(0, .ref x0), (1, .int x1), (2, .int x2), (3, .int x3)]) hl [0, 1, 2, 3] rfl)
      · replace h := h.2 hc108
        refine lv_iload_n hx hb dX8_vote_40 rfl (lv_at hl 2 rfl) ?_
        refine lv_iconst (v := (-1)) hx hb dX8_vote_41 (by decide) ?_
        refine lv_icmp_eq (tgt := 58) hx hb dX8_vote_42 (by decide) (fun hc109 => ?_) (fun hc109 => ?_)
        · replace h := h.1 hc109
          exact t_X8_vote_b58 C hml hr hlocks (fun x0 x1 x2 x3 S h => ih x0 x1 x2 x3 S h) h H locs ls hR hS (lv_sub (l' := [(0, .ref x0), (1, .int x1), (3, .int x3)]) hl [0, 1, 3] rfl)
        · replace h := h.2 hc109
          refine lv_aload_n hx hb dX8_vote_45 rfl (lv_at hl 0 rfl) ?_
          refine lv_iload_n hx hb dX8_vote_46 rfl (lv_at hl 3 rfl) ?_
          obtain ⟨hK_x0, h⟩ := h
          refine x_ki (x_runV (As := [.int x3]) (rest := []) C hml hR hS (m_X8_rate l gg x0 x3 S106 h) b_X8_rate q_30_15 (by rw [hK_x0]; decide) (s_E_9 hK_x0) rfl rfl rfl rfl ⟨Nat.le_of_ble_eq_true rfl, Nat.le_of_ble_eq_true rfl⟩ rfl hl.1 (Nat.le_of_ble_eq_true rfl) dX8_vote_47 ⟨Nat.le_refl _, Nat.le_refl _⟩) hS (fun x111 S110 H locs hn hR hS => ?_)
          replace h := hn
          clear hn
          refine lv_aload_n hx hb dX8_vote_50 rfl (lv_at hl 0 rfl) ?_
          refine lv_iload_n hx hb dX8_vote_51 rfl (lv_at hl 2 rfl) ?_
          obtain ⟨hK_x0, h⟩ := h
          refine x_ki (x_runV (As := [.int x2]) (rest := [.int x111]) C hml hR hS (m_X8_rate l gg x0 x2 S110 h) b_X8_rate q_30_15 (by rw [hK_x0]; decide) (s_E_9 hK_x0) rfl rfl rfl rfl ⟨Nat.le_of_ble_eq_true rfl, Nat.le_of_ble_eq_true rfl⟩ rfl hl.1 (Nat.le_of_ble_eq_true rfl) dX8_vote_52 ⟨Nat.le_refl _, Nat.le_refl _⟩) hS (fun x113 S112 H locs hn hR hS => ?_)
          replace h := hn
          clear hn
          refine lv_icmp_le (tgt := 60) hx hb dX8_vote_55 (by decide) (fun hc114 => ?_) (fun hc114 => ?_)
          · replace h := h.1 hc114
            exact t_X8_vote_b60 C hml hr hlocks (fun x0 x1 x2 x3 S h => ih x0 x1 x2 x3 S h) h H locs ls hR hS (lv_sub (l' := [(0, .ref x0), (1, .int x1), (2, .int x2), (3, .int x3)]) hl [0, 1, 2, 3] rfl)
          · replace h := h.2 hc114
            exact t_X8_vote_b58 C hml hr hlocks (fun x0 x1 x2 x3 S h => ih x0 x1 x2 x3 S h) h H locs ls hR hS (lv_sub (l' := [(0, .ref x0), (1, .int x1), (3, .int x3)]) hl [0, 1, 3] rfl)
set_option maxHeartbeats 4000000 in
theorem t_X8_vote_b0 {Q : Int32 → sT → Prop} (C : x_C p s m args c cX8_vote RX8 gg) (hml : c.maxLocals = 8) (hr : meth.sig.returnType = (some .int)) (hlocks : meth.locks = false) {x0 : Nat} {x1 : Int32}  {S : sT}  (h : w_X8_vote_b0 x0 x1 S  Q) : x_X p l e r_X8_vote s m args below meth c gg 8 0 0 (MQ below (va_Qi Q (fun S1 t => s_Rep gg S1 t.heap) (s_A gg)) args s 0 0 (s_A gg)) 0 [(0, .ref x0), (1, .int x1)] [] S := by
  unfold w_X8_vote_b0 at h
  obtain ⟨hx, hb, -⟩ := id C
  intro H locs ls hR hS hl
  refine lv_aload_n hx hb dX8_vote_0 rfl (lv_at hl 0 rfl) ?_
  refine lv_iconst (v := 0) hx hb dX8_vote_1 (by decide) ?_
  obtain ⟨hK_x0, h⟩ := h
  refine x_p_288 (v := (0 : Int32)) C hR hK_x0 hS q_8_1 dX8_vote_2 (fun H locs hR hS => ?_)
  obtain ⟨S101, eS101⟩ : ∃ z : sT, z = s_sI S 288 x0 (0 : Int32) := ⟨_, rfl⟩
  rw [← eS101] at hR
  replace h := h S101 eS101
  have hK_x0 : s_K S101 x0 = 10 := by rw [eS101]; exact hK_x0
  refine lv_aload_n hx hb dX8_vote_5 rfl (lv_at hl 0 rfl) ?_
  refine lv_iload_n hx hb dX8_vote_6 rfl (lv_at hl 1 rfl) ?_
  refine x_ki (x_runV (As := [.int x1]) (rest := []) C hml hR hS (m_X8_isSociety l gg x0 x1 S101 h) b_X8_isSociety q_12_10 (by rw [hK_x0]; decide) (s_E_9 hK_x0) rfl rfl rfl rfl ⟨Nat.le_of_ble_eq_true rfl, Nat.le_of_ble_eq_true rfl⟩ rfl hl.1 (Nat.le_of_ble_eq_true rfl) dX8_vote_7 ⟨Nat.le_refl _, Nat.le_refl _⟩) hS (fun x103 S102 H locs hn hR hS => ?_)
  replace h := hn
  clear hn
  refine lv_if_ne (tgt := 19) hx hb dX8_vote_10 (by decide) (fun hc104 => ?_) (fun hc104 => ?_)
  · replace h := h.1 hc104
    refine lv_iconst (v := (-1)) hx hb dX8_vote_19 (by decide) ?_
    refine lv_istore_n (lv' := [(2, .int (-1 : Int32)), (0, .ref x0), (1, .int x1)]) hx hb dX8_vote_20 rfl hl (by decide) rfl (fun ls hl => ?_)
    refine lv_iload_n hx hb dX8_vote_21 rfl (lv_at hl 2 rfl) ?_
    refine lv_iconst (v := 1) hx hb dX8_vote_22 (by decide) ?_
    refine lv_isub hx hb dX8_vote_23 ?_
    refine lv_topi (fun x105 ex105 => ?_)
    replace h := h x105 ex105
    refine lv_istore_n (lv' := [(3, .int x105), (2, .int (-1 : Int32)), (0, .ref x0), (1, .int x1)]) hx hb dX8_vote_24 rfl hl (by decide) rfl (fun ls hl => ?_)
    obtain ⟨n9, h⟩ := h
    exact t_X8_vote_b25 C hml hr hlocks  n9 x0 x1 (-1 : Int32) x105 S102 h H locs ls hR hS (lv_sub (l' := [(0, .ref x0), (1, .int x1), (2, .int (-1 : Int32)), (3, .int x105)]) hl [2, 3, 1, 0] rfl)
  · replace h := h.2 hc104
    refine lv_aload_n hx hb dX8_vote_13 rfl (lv_at hl 0 rfl) ?_
    refine lv_iconst (v := 1) hx hb dX8_vote_14 (by decide) ?_
    obtain ⟨hK_x0, h⟩ := h
    refine x_ki (x_runV (As := [.int (1 : Int32)]) (rest := []) C hml hR hS (m_X8_refuse l gg x0 (1 : Int32) S102 h) b_X8_refuse q_8_5 (by rw [hK_x0]; decide) (s_E_9 hK_x0) rfl rfl rfl rfl ⟨Nat.le_of_ble_eq_true rfl, Nat.le_of_ble_eq_true rfl⟩ rfl hl.1 (Nat.le_of_ble_eq_true rfl) dX8_vote_15 ⟨Nat.le_refl _, Nat.le_refl _⟩) hS (fun x107 S106 H locs hn hR hS => ?_)
    replace h := hn
    clear hn
    exact W.iret (v := x107) hx hb hr (fun t ht hW => ⟨⟨x107, S106, rfl, h, x_rt ht hR⟩, hS.F ht⟩) hS.2.2 dX8_vote_18
theorem m_X8_vote (l : Launch) (gg : sG) (x0 : Nat) (x1 : Int32) (S : sT) {Q : Int32 → sT → Prop} (h : w_X8_vote x0 x1 S Q) : x_Mi l gg yX8_vote (x_ws yX8_vote cX8_vote 8 (some .int)) r_X8_vote [.ref x0, .int x1] S Q 0 0 := by
  refine x_ofW (cc := cX8_vote) (own := RX8) (by decide +kernel) rfl (Nat.le_of_ble_eq_true rfl) ?_
  intro p e s m args below meth c C hml hr hlocks hin ht H locs ls hR hS hl
  exact t_X8_vote_b0 C hml hr hlocks h H locs ls hR hS (lv_sub (l' := [(0, .ref x0), (1, .int x1)]) hl [0, 1] rfl)
end
