section
variable {p : Program} {l : Launch} {e : Env} {s : State} {m : MethodId} {args : Array Value} {below : List Frame} {meth : Method} {c : Code} {gg : sG}
def w_X6_fieldAt_b18  (S : sT)  (Q : Nat → sT → Prop) : Prop :=
False
def w_X6_fieldAt_b0 (x0 : Nat) (x1 : Int32) (S : sT)  (Q : Nat → sT → Prop) : Prop :=
((x1 < 0 → w_X6_fieldAt_b18  S  Q) ∧
    (¬ x1 < 0 → s_K S x0 = 8 ∧
    ∃ a102 : Nat, s_R S 224 x0 = some a102 ∧
    s_K S a102 = 4 ∧
    ∃ a103 : Nat, s_R S 97 a102 = some a103 ∧
    s_K S a103 = 1 ∧
    w_Jx4a65c_size_8abf5 a103 S (fun x105 S104 =>
    ((x1 < x105 → s_K S104 x0 = 8 ∧
    ∃ a107 : Nat, s_R S104 224 x0 = some a107 ∧
    s_K S104 a107 = 4 ∧
    ∃ a108 : Nat, s_R S104 97 a107 = some a108 ∧
    s_K S104 a108 = 1 ∧
    w_Jx4a65c_get_915e3 a108 x1 S104 (fun a110 S109 =>
    s_K S109 a110 = 3 ∧
    Q a110 S109)) ∧
    (¬ x1 < x105 → w_X6_fieldAt_b18  S104  Q)))))
def w_X6_fieldAt (x0 : Nat) (x1 : Int32) (S : sT) (Q : Nat → sT → Prop) : Prop := w_X6_fieldAt_b0 x0 x1 S Q
def r_X6_fieldAt : Room := x_rm 3 64 0 0
theorem b_X6_fieldAt : x_BV yX6_fieldAt cX6_fieldAt 2 (some (.object "Subakhall$Field")) 1 := ⟨q_10_15, q_10_13, q_10_14, q_1_2, by decide +kernel⟩
set_option maxHeartbeats 4000000 in
theorem t_X6_fieldAt_b18 {Q : Nat → sT → Prop} (C : x_C p s m args c cX6_fieldAt RX6 gg) (hml : c.maxLocals = 2) (hr : meth.sig.returnType = (some (.object "Subakhall$Field"))) (hlocks : meth.locks = false)   {S : sT}  (h : w_X6_fieldAt_b18  S  Q) : x_X p l e r_X6_fieldAt s m args below meth c gg 2 0 0 (MQ below (va_Qq (fun r S1 => ∃ b : Nat, r = some b ∧ Q b S1) (fun S1 t => s_Rep gg S1 t.heap) (s_A gg)) args s 0 0 (s_A gg)) 18 [] [] S := by
  unfold w_X6_fieldAt_b18 at h
  obtain ⟨hx, hb, -⟩ := id C
  intro H locs ls hR hS hl
  exact h.elim
set_option maxHeartbeats 4000000 in
theorem t_X6_fieldAt_b0 {Q : Nat → sT → Prop} (C : x_C p s m args c cX6_fieldAt RX6 gg) (hml : c.maxLocals = 2) (hr : meth.sig.returnType = (some (.object "Subakhall$Field"))) (hlocks : meth.locks = false) {x0 : Nat} {x1 : Int32}  {S : sT}  (h : w_X6_fieldAt_b0 x0 x1 S  Q) : x_X p l e r_X6_fieldAt s m args below meth c gg 2 0 0 (MQ below (va_Qq (fun r S1 => ∃ b : Nat, r = some b ∧ Q b S1) (fun S1 t => s_Rep gg S1 t.heap) (s_A gg)) args s 0 0 (s_A gg)) 0 [(0, .ref x0), (1, .int x1)] [] S := by
  unfold w_X6_fieldAt_b0 at h
  obtain ⟨hx, hb, -⟩ := id C
  intro H locs ls hR hS hl
  refine lv_iload_n hx hb dX6_fieldAt_0 rfl (lv_at hl 1 rfl) ?_
  refine lv_if_lt (tgt := 18) hx hb dX6_fieldAt_1 (by decide) (fun hc101 => ?_) (fun hc101 => ?_)
  · replace h := h.1 hc101
    exact t_X6_fieldAt_b18 C hml hr hlocks  h H locs ls hR hS (lv_sub (l' := []) hl [] rfl)
  · replace h := h.2 hc101
    refine lv_iload_n hx hb dX6_fieldAt_4 rfl (lv_at hl 1 rfl) ?_
    refine lv_aload_n hx hb dX6_fieldAt_5 rfl (lv_at hl 0 rfl) ?_
    obtain ⟨hK_x0, h⟩ := h
    refine x_g_224 C hR hK_x0 q_1_13 dX6_fieldAt_6 ?_
    obtain ⟨a102, ea102, h⟩ := h
    refine x_some ea102 ?_
    obtain ⟨hK_a102, h⟩ := h
    refine x_g_97 C hR hK_a102 q_7_5 dX6_fieldAt_9 ?_
    obtain ⟨a103, ea103, h⟩ := h
    refine x_some ea103 ?_
    obtain ⟨hK_a103, h⟩ := h
    refine x_ki (x_runV (As := []) (rest := [.int x1]) C hml hR hS (m_Jx4a65c_size_8abf5 l gg a103 S h) b_Jx4a65c_size_8abf5 q_3_18 (by rw [hK_a103]; decide) (s_E_0 hK_a103) rfl rfl rfl rfl ⟨Nat.le_of_ble_eq_true rfl, Nat.le_of_ble_eq_true rfl⟩ rfl hl.1 (Nat.le_of_ble_eq_true rfl) dX6_fieldAt_12 ⟨Nat.le_refl _, Nat.le_refl _⟩) hS (fun x105 S104 H locs hn hR hS => ?_)
    replace h := hn
    clear hn
    refine lv_icmp_lt (tgt := 29) hx hb dX6_fieldAt_15 (by decide) (fun hc106 => ?_) (fun hc106 => ?_)
    · replace h := h.1 hc106
      refine lv_aload_n hx hb dX6_fieldAt_29 rfl (lv_at hl 0 rfl) ?_
      obtain ⟨hK_x0, h⟩ := h
      refine x_g_224 C hR hK_x0 q_1_13 dX6_fieldAt_30 ?_
      obtain ⟨a107, ea107, h⟩ := h
      refine x_some ea107 ?_
      obtain ⟨hK_a107, h⟩ := h
      refine x_g_97 C hR hK_a107 q_7_5 dX6_fieldAt_33 ?_
      obtain ⟨a108, ea108, h⟩ := h
      refine x_some ea108 ?_
      refine lv_iload_n hx hb dX6_fieldAt_36 rfl (lv_at hl 1 rfl) ?_
      obtain ⟨hK_a108, h⟩ := h
      refine x_kq (x_runV (As := [.int x1]) (rest := []) C hml hR hS (m_Jx4a65c_get_915e3 l gg a108 x1 S104 h) b_Jx4a65c_get_915e3 q_7_13 (by rw [hK_a108]; decide) (s_E_0 hK_a108) rfl rfl rfl rfl ⟨Nat.le_of_ble_eq_true rfl, Nat.le_of_ble_eq_true rfl⟩ rfl hl.1 (Nat.le_of_ble_eq_true rfl) dX6_fieldAt_37 ⟨Nat.le_refl _, Nat.le_refl _⟩) hS (fun ra110 S109 H locs hn hR hS => ?_)
      replace h := hn
      clear hn
      obtain ⟨a110, za110, h⟩ := h
      refine x_some za110 ?_
      obtain ⟨hK_a110, h⟩ := h
      refine x_cast (ci := 2) C hR (by rw [hK_a110]; decide) (s_E_2 hK_a110) rfl q_10_16 rfl dX6_fieldAt_40 ?_
      exact W.aret (v := .ref a110) hx hb hr (Or.inl ⟨_, rfl⟩) (Or.inr ⟨_, rfl⟩) (fun t ht hW => ⟨⟨some a110, S109, rfl, ⟨_, rfl, h⟩, x_rt ht hR⟩, hS.F ht⟩) hS.2.2 dX6_fieldAt_43
    · replace h := h.2 hc106
      exact t_X6_fieldAt_b18 C hml hr hlocks  h H locs ls hR hS (lv_sub (l' := []) hl [] rfl)
theorem m_X6_fieldAt (l : Launch) (gg : sG) (x0 : Nat) (x1 : Int32) (S : sT) {Q : Nat → sT → Prop} (h : w_X6_fieldAt x0 x1 S Q) : x_Mq l gg yX6_fieldAt (x_ws yX6_fieldAt cX6_fieldAt 2 (some (.object "Subakhall$Field"))) r_X6_fieldAt [.ref x0, .int x1] S (fun r S1 => ∃ b : Nat, r = some b ∧ Q b S1) 0 0 := by
  refine x_ofW (cc := cX6_fieldAt) (own := RX6) (by decide +kernel) rfl (Nat.le_of_ble_eq_true rfl) ?_
  intro p e s m args below meth c C hml hr hlocks hin ht H locs ls hR hS hl
  exact t_X6_fieldAt_b0 C hml hr hlocks h H locs ls hR hS (lv_sub (l' := [(0, .ref x0), (1, .int x1)]) hl [0, 1] rfl)
def w_X6_gate_b0 (x0 : Nat) (x1 : Int32) (x2 : Int32) (S : sT)  (Q : Int32 → sT → Prop) : Prop :=
s_K S x0 = 8 ∧
    w_X6_fieldAt x0 x1 S (fun a102 S101 =>
    s_K S101 a102 = 3 ∧
    ∀ x103 : Int32, x103 = s_I S101 72 a102 →
    (x2 = 0 ∨ x2 = 1) ∧
    ∀ S105 : sT, S105 = s_sI S101 72 a102 x2 →
    (x103 = 0 ∨ x103 = 1) ∧
    Q x103 S105)
def w_X6_gate (x0 : Nat) (x1 : Int32) (x2 : Int32) (S : sT) (Q : Int32 → sT → Prop) : Prop := w_X6_gate_b0 x0 x1 x2 S Q
def r_X6_gate : Room := x_rm 4 85 0 0
theorem b_X6_gate : x_BV yX6_gate cX6_gate 5 (some .boolean) 2 := ⟨q_10_10, q_10_8, q_10_9, q_1_2, by decide +kernel⟩
set_option maxHeartbeats 4000000 in
theorem t_X6_gate_b0 {Q : Int32 → sT → Prop} (C : x_C p s m args c cX6_gate RX6 gg) (hml : c.maxLocals = 5) (hr : meth.sig.returnType = (some .boolean)) (hlocks : meth.locks = false) {x0 : Nat} {x1 : Int32} {x2 : Int32}  {S : sT}  (h : w_X6_gate_b0 x0 x1 x2 S  Q) : x_X p l e r_X6_gate s m args below meth c gg 5 0 0 (MQ below (va_Qi Q (fun S1 t => s_Rep gg S1 t.heap) (s_A gg)) args s 0 0 (s_A gg)) 0 [(0, .ref x0), (1, .int x1), (2, .int x2)] [] S := by
  unfold w_X6_gate_b0 at h
  obtain ⟨hx, hb, -⟩ := id C
  intro H locs ls hR hS hl
  refine lv_aload_n hx hb dX6_gate_0 rfl (lv_at hl 0 rfl) ?_
  refine lv_iload_n hx hb dX6_gate_1 rfl (lv_at hl 1 rfl) ?_
  obtain ⟨hK_x0, h⟩ := h
  refine x_kq (x_runV (As := [.int x1]) (rest := []) C hml hR hS (m_X6_fieldAt l gg x0 x1 S h) b_X6_fieldAt q_10_12 (by rw [hK_x0]; decide) (s_E_7 hK_x0) rfl rfl rfl rfl ⟨Nat.le_of_ble_eq_true rfl, Nat.le_of_ble_eq_true rfl⟩ rfl hl.1 (Nat.le_of_ble_eq_true rfl) dX6_gate_2 ⟨Nat.le_refl _, Nat.le_refl _⟩) hS (fun ra102 S101 H locs hn hR hS => ?_)
  replace h := hn
  clear hn
  obtain ⟨a102, za102, h⟩ := h
  refine x_some za102 ?_
  refine lv_astore_n (lv' := [(3, .ref a102), (0, .ref x0), (1, .int x1), (2, .int x2)]) hx hb dX6_gate_5 rfl hl (by decide) rfl (fun ls hl => ?_)
  refine lv_aload_n hx hb dX6_gate_6 rfl (lv_at hl 0 rfl) ?_
  obtain ⟨hK_a102, h⟩ := h
  refine x_g_72 C hR hK_a102 q_10_11 dX6_gate_7 ?_
  refine lv_topi (fun x103 ex103 => ?_)
  replace h := h x103 ex103
  refine lv_istore (lv' := [(4, .int x103), (3, .ref a102), (0, .ref x0), (1, .int x1), (2, .int x2)]) hx hb dX6_gate_10 hl (by decide) rfl (fun ls hl => ?_)
  refine lv_aload_n hx hb dX6_gate_12 rfl (lv_at hl 1 rfl) ?_
  refine lv_iload_n hx hb dX6_gate_13 rfl (lv_at hl 4 rfl) ?_
  obtain ⟨hz104, h⟩ := h
  refine x_p_72 (v := x2) C hR hK_a102 hS (zb_n hz104) (zb_f hz104) q_10_11 dX6_gate_14 (fun H locs hR hS => ?_)
  obtain ⟨S105, eS105⟩ : ∃ z : sT, z = s_sI S101 72 a102 x2 := ⟨_, rfl⟩
  rw [← eS105] at hR
  replace h := h S105 eS105
  have hK_a102 : s_K S105 a102 = 3 := by rw [eS105]; exact hK_a102
  refine lv_iload hx hb dX6_gate_17 (lv_at hl 0 rfl) ?_
  obtain ⟨hz106, h⟩ := h
  exact W.zret (v := x103) hx hb hr (zb_n hz106) (fun t ht hW => ⟨⟨x103, S105, rfl, h, x_rt ht hR⟩, hS.F ht⟩) hS.2.2 dX6_gate_19
theorem m_X6_gate (l : Launch) (gg : sG) (x0 : Nat) (x1 : Int32) (x2 : Int32) (S : sT) {Q : Int32 → sT → Prop} (h : w_X6_gate x0 x1 x2 S Q) : x_Mi l gg yX6_gate (x_ws yX6_gate cX6_gate 5 (some .boolean)) r_X6_gate [.ref x0, .int x1, .int x2] S Q 0 0 := by
  refine x_ofW (cc := cX6_gate) (own := RX6) (by decide +kernel) rfl (Nat.le_of_ble_eq_true rfl) ?_
  intro p e s m args below meth c C hml hr hlocks hin ht H locs ls hR hS hl
  exact t_X6_gate_b0 C hml hr hlocks h H locs ls hR hS (lv_sub (l' := [(0, .ref x0), (1, .int x1), (2, .int x2)]) hl [0, 1, 2] rfl)
def w_X6_stones_b0 (x0 : Nat) (x1 : Int32) (x2 : Int32) (S : sT)  (Q : Int32 → sT → Prop) : Prop :=
s_K S x0 = 8 ∧
    w_X6_fieldAt x0 x1 S (fun a102 S101 =>
    w_X6_isWithin x2 (0 : Int32) (5 : Int32) S101 (fun x104 S103 =>
    ((¬ x104 = 0 → s_K S103 a102 = 3 ∧
    ∀ x106 : Int32, x106 = s_I S103 71 a102 →
    ∀ S107 : sT, S107 = s_sI S103 71 a102 x2 →
    Q x106 S107) ∧
    (x104 = 0 → False))))
def w_X6_stones (x0 : Nat) (x1 : Int32) (x2 : Int32) (S : sT) (Q : Int32 → sT → Prop) : Prop := w_X6_stones_b0 x0 x1 x2 S Q
def r_X6_stones : Room := x_rm 4 85 0 0
theorem b_X6_stones : x_BV yX6_stones cX6_stones 5 (some .int) 2 := ⟨q_12_0, q_11_22, q_11_23, q_1_2, by decide +kernel⟩
set_option maxHeartbeats 4000000 in
theorem t_X6_stones_b0 {Q : Int32 → sT → Prop} (C : x_C p s m args c cX6_stones RX6 gg) (hml : c.maxLocals = 5) (hr : meth.sig.returnType = (some .int)) (hlocks : meth.locks = false) {x0 : Nat} {x1 : Int32} {x2 : Int32}  {S : sT}  (h : w_X6_stones_b0 x0 x1 x2 S  Q) : x_X p l e r_X6_stones s m args below meth c gg 5 0 0 (MQ below (va_Qi Q (fun S1 t => s_Rep gg S1 t.heap) (s_A gg)) args s 0 0 (s_A gg)) 0 [(0, .ref x0), (1, .int x1), (2, .int x2)] [] S := by
  unfold w_X6_stones_b0 at h
  obtain ⟨hx, hb, -⟩ := id C
  intro H locs ls hR hS hl
  refine lv_aload_n hx hb dX6_stones_0 rfl (lv_at hl 0 rfl) ?_
  refine lv_iload_n hx hb dX6_stones_1 rfl (lv_at hl 1 rfl) ?_
  obtain ⟨hK_x0, h⟩ := h
  refine x_kq (x_runV (As := [.int x1]) (rest := []) C hml hR hS (m_X6_fieldAt l gg x0 x1 S h) b_X6_fieldAt q_10_12 (by rw [hK_x0]; decide) (s_E_7 hK_x0) rfl rfl rfl rfl ⟨Nat.le_of_ble_eq_true rfl, Nat.le_of_ble_eq_true rfl⟩ rfl hl.1 (Nat.le_of_ble_eq_true rfl) dX6_stones_2 ⟨Nat.le_refl _, Nat.le_refl _⟩) hS (fun ra102 S101 H locs hn hR hS => ?_)
  replace h := hn
  clear hn
  obtain ⟨a102, za102, h⟩ := h
  refine x_some za102 ?_
  refine lv_astore_n (lv' := [(3, .ref a102), (0, .ref x0), (1, .int x1), (2, .int x2)]) hx hb dX6_stones_5 rfl hl (by decide) rfl (fun ls hl => ?_)
  refine lv_iload_n hx hb dX6_stones_6 rfl (lv_at hl 3 rfl) ?_
  refine lv_iconst (v := 0) hx hb dX6_stones_7 (by decide) ?_
  refine lv_iconst (v := 5) hx hb dX6_stones_8 (by decide) ?_
  refine x_ki (x_runS (As := [.int x2, .int (0 : Int32), .int (5 : Int32)]) (rest := []) C hml hR hS (m_X6_isWithin l gg x2 (0 : Int32) (5 : Int32) S101 h) b_X6_isWithin q_3_15 rfl rfl ⟨Nat.le_of_ble_eq_true rfl, Nat.le_of_ble_eq_true rfl⟩ rfl hl.1 (Nat.le_of_ble_eq_true rfl) dX6_stones_9 ⟨Nat.le_refl _, Nat.le_refl _⟩) hS (fun x104 S103 H locs hn hR hS => ?_)
  replace h := hn
  clear hn
  refine lv_if_ne (tgt := 25) hx hb dX6_stones_12 (by decide) (fun hc105 => ?_) (fun hc105 => ?_)
  · replace h := h.1 hc105
    refine lv_aload_n hx hb dX6_stones_25 rfl (lv_at hl 0 rfl) ?_
    obtain ⟨hK_a102, h⟩ := h
    refine x_g_71 C hR hK_a102 q_12_1 dX6_stones_26 ?_
    refine lv_topi (fun x106 ex106 => ?_)
    replace h := h x106 ex106
    refine lv_istore (lv' := [(4, .int x106), (3, .ref a102), (0, .ref x0), (1, .int x1), (2, .int x2)]) hx hb dX6_stones_29 hl (by decide) rfl (fun ls hl => ?_)
    refine lv_aload_n hx hb dX6_stones_31 rfl (lv_at hl 1 rfl) ?_
    refine lv_iload_n hx hb dX6_stones_32 rfl (lv_at hl 4 rfl) ?_
    refine x_p_71 (v := x2) C hR hK_a102 hS q_12_1 dX6_stones_33 (fun H locs hR hS => ?_)
    obtain ⟨S107, eS107⟩ : ∃ z : sT, z = s_sI S103 71 a102 x2 := ⟨_, rfl⟩
    rw [← eS107] at hR
    replace h := h S107 eS107
    have hK_a102 : s_K S107 a102 = 3 := by rw [eS107]; exact hK_a102
    refine lv_iload hx hb dX6_stones_36 (lv_at hl 0 rfl) ?_
    exact W.iret (v := x106) hx hb hr (fun t ht hW => ⟨⟨x106, S107, rfl, h, x_rt ht hR⟩, hS.F ht⟩) hS.2.2 dX6_stones_38
  · replace h := h.2 hc105
    exact h.elim
theorem m_X6_stones (l : Launch) (gg : sG) (x0 : Nat) (x1 : Int32) (x2 : Int32) (S : sT) {Q : Int32 → sT → Prop} (h : w_X6_stones x0 x1 x2 S Q) : x_Mi l gg yX6_stones (x_ws yX6_stones cX6_stones 5 (some .int)) r_X6_stones [.ref x0, .int x1, .int x2] S Q 0 0 := by
  refine x_ofW (cc := cX6_stones) (own := RX6) (by decide +kernel) rfl (Nat.le_of_ble_eq_true rfl) ?_
  intro p e s m args below meth c C hml hr hlocks hin ht H locs ls hR hS hl
  exact t_X6_stones_b0 C hml hr hlocks h H locs ls hR hS (lv_sub (l' := [(0, .ref x0), (1, .int x1), (2, .int x2)]) hl [0, 1, 2] rfl)
def w_X6_societyAt_b18  (S : sT)  (Q : Nat → sT → Prop) : Prop :=
False
def w_X6_societyAt_b0 (x0 : Nat) (x1 : Int32) (S : sT)  (Q : Nat → sT → Prop) : Prop :=
((x1 < 0 → w_X6_societyAt_b18  S  Q) ∧
    (¬ x1 < 0 → s_K S x0 = 8 ∧
    ∃ a102 : Nat, s_R S 224 x0 = some a102 ∧
    s_K S a102 = 4 ∧
    ∃ a103 : Nat, s_R S 96 a102 = some a103 ∧
    s_K S a103 = 1 ∧
    w_Jx4a65c_size_8abf5 a103 S (fun x105 S104 =>
    ((x1 < x105 → s_K S104 x0 = 8 ∧
    ∃ a107 : Nat, s_R S104 224 x0 = some a107 ∧
    s_K S104 a107 = 4 ∧
    ∃ a108 : Nat, s_R S104 96 a107 = some a108 ∧
    s_K S104 a108 = 1 ∧
    w_Jx4a65c_get_915e3 a108 x1 S104 (fun a110 S109 =>
    s_K S109 a110 = 7 ∧
    Q a110 S109)) ∧
    (¬ x1 < x105 → w_X6_societyAt_b18  S104  Q)))))
def w_X6_societyAt (x0 : Nat) (x1 : Int32) (S : sT) (Q : Nat → sT → Prop) : Prop := w_X6_societyAt_b0 x0 x1 S Q
def r_X6_societyAt : Room := x_rm 3 64 0 0
theorem b_X6_societyAt : x_BV yX6_societyAt cX6_societyAt 2 (some (.object "Subakhall$Society")) 1 := ⟨q_7_9, q_7_7, q_7_8, q_1_2, by decide +kernel⟩
set_option maxHeartbeats 4000000 in
theorem t_X6_societyAt_b18 {Q : Nat → sT → Prop} (C : x_C p s m args c cX6_societyAt RX6 gg) (hml : c.maxLocals = 2) (hr : meth.sig.returnType = (some (.object "Subakhall$Society"))) (hlocks : meth.locks = false)   {S : sT}  (h : w_X6_societyAt_b18  S  Q) : x_X p l e r_X6_societyAt s m args below meth c gg 2 0 0 (MQ below (va_Qq (fun r S1 => ∃ b : Nat, r = some b ∧ Q b S1) (fun S1 t => s_Rep gg S1 t.heap) (s_A gg)) args s 0 0 (s_A gg)) 18 [] [] S := by
  unfold w_X6_societyAt_b18 at h
  obtain ⟨hx, hb, -⟩ := id C
  intro H locs ls hR hS hl
  exact h.elim
set_option maxHeartbeats 4000000 in
theorem t_X6_societyAt_b0 {Q : Nat → sT → Prop} (C : x_C p s m args c cX6_societyAt RX6 gg) (hml : c.maxLocals = 2) (hr : meth.sig.returnType = (some (.object "Subakhall$Society"))) (hlocks : meth.locks = false) {x0 : Nat} {x1 : Int32}  {S : sT}  (h : w_X6_societyAt_b0 x0 x1 S  Q) : x_X p l e r_X6_societyAt s m args below meth c gg 2 0 0 (MQ below (va_Qq (fun r S1 => ∃ b : Nat, r = some b ∧ Q b S1) (fun S1 t => s_Rep gg S1 t.heap) (s_A gg)) args s 0 0 (s_A gg)) 0 [(0, .ref x0), (1, .int x1)] [] S := by
  unfold w_X6_societyAt_b0 at h
  obtain ⟨hx, hb, -⟩ := id C
  intro H locs ls hR hS hl
  refine lv_iload_n hx hb dX6_societyAt_0 rfl (lv_at hl 1 rfl) ?_
  refine lv_if_lt (tgt := 18) hx hb dX6_societyAt_1 (by decide) (fun hc101 => ?_) (fun hc101 => ?_)
  · replace h := h.1 hc101
    exact t_X6_societyAt_b18 C hml hr hlocks  h H locs ls hR hS (lv_sub (l' := []) hl [] rfl)
  · replace h := h.2 hc101
    refine lv_iload_n hx hb dX6_societyAt_4 rfl (lv_at hl 1 rfl) ?_
    refine lv_aload_n hx hb dX6_societyAt_5 rfl (lv_at hl 0 rfl) ?_
    obtain ⟨hK_x0, h⟩ := h
    refine x_g_224 C hR hK_x0 q_1_13 dX6_societyAt_6 ?_
    obtain ⟨a102, ea102, h⟩ := h
    refine x_some ea102 ?_
    obtain ⟨hK_a102, h⟩ := h
    refine x_g_96 C hR hK_a102 q_3_14 dX6_societyAt_9 ?_
    obtain ⟨a103, ea103, h⟩ := h
    refine x_some ea103 ?_
    obtain ⟨hK_a103, h⟩ := h
    refine x_ki (x_runV (As := []) (rest := [.int x1]) C hml hR hS (m_Jx4a65c_size_8abf5 l gg a103 S h) b_Jx4a65c_size_8abf5 q_3_18 (by rw [hK_a103]; decide) (s_E_0 hK_a103) rfl rfl rfl rfl ⟨Nat.le_of_ble_eq_true rfl, Nat.le_of_ble_eq_true rfl⟩ rfl hl.1 (Nat.le_of_ble_eq_true rfl) dX6_societyAt_12 ⟨Nat.le_refl _, Nat.le_refl _⟩) hS (fun x105 S104 H locs hn hR hS => ?_)
    replace h := hn
    clear hn
    refine lv_icmp_lt (tgt := 29) hx hb dX6_societyAt_15 (by decide) (fun hc106 => ?_) (fun hc106 => ?_)
    · replace h := h.1 hc106
      refine lv_aload_n hx hb dX6_societyAt_29 rfl (lv_at hl 0 rfl) ?_
      obtain ⟨hK_x0, h⟩ := h
      refine x_g_224 C hR hK_x0 q_1_13 dX6_societyAt_30 ?_
      obtain ⟨a107, ea107, h⟩ := h
      refine x_some ea107 ?_
      obtain ⟨hK_a107, h⟩ := h
      refine x_g_96 C hR hK_a107 q_3_14 dX6_societyAt_33 ?_
      obtain ⟨a108, ea108, h⟩ := h
      refine x_some ea108 ?_
      refine lv_iload_n hx hb dX6_societyAt_36 rfl (lv_at hl 1 rfl) ?_
      obtain ⟨hK_a108, h⟩ := h
      refine x_kq (x_runV (As := [.int x1]) (rest := []) C hml hR hS (m_Jx4a65c_get_915e3 l gg a108 x1 S104 h) b_Jx4a65c_get_915e3 q_7_13 (by rw [hK_a108]; decide) (s_E_0 hK_a108) rfl rfl rfl rfl ⟨Nat.le_of_ble_eq_true rfl, Nat.le_of_ble_eq_true rfl⟩ rfl hl.1 (Nat.le_of_ble_eq_true rfl) dX6_societyAt_37 ⟨Nat.le_refl _, Nat.le_refl _⟩) hS (fun ra110 S109 H locs hn hR hS => ?_)
      replace h := hn
      clear hn
      obtain ⟨a110, za110, h⟩ := h
      refine x_some za110 ?_
      obtain ⟨hK_a110, h⟩ := h
      refine x_cast (ci := 6) C hR (by rw [hK_a110]; decide) (s_E_6 hK_a110) rfl q_7_12 rfl dX6_societyAt_40 ?_
      exact W.aret (v := .ref a110) hx hb hr (Or.inl ⟨_, rfl⟩) (Or.inr ⟨_, rfl⟩) (fun t ht hW => ⟨⟨some a110, S109, rfl, ⟨_, rfl, h⟩, x_rt ht hR⟩, hS.F ht⟩) hS.2.2 dX6_societyAt_43
    · replace h := h.2 hc106
      exact t_X6_societyAt_b18 C hml hr hlocks  h H locs ls hR hS (lv_sub (l' := []) hl [] rfl)
theorem m_X6_societyAt (l : Launch) (gg : sG) (x0 : Nat) (x1 : Int32) (S : sT) {Q : Nat → sT → Prop} (h : w_X6_societyAt x0 x1 S Q) : x_Mq l gg yX6_societyAt (x_ws yX6_societyAt cX6_societyAt 2 (some (.object "Subakhall$Society"))) r_X6_societyAt [.ref x0, .int x1] S (fun r S1 => ∃ b : Nat, r = some b ∧ Q b S1) 0 0 := by
  refine x_ofW (cc := cX6_societyAt) (own := RX6) (by decide +kernel) rfl (Nat.le_of_ble_eq_true rfl) ?_
  intro p e s m args below meth c C hml hr hlocks hin ht H locs ls hR hS hl
  exact t_X6_societyAt_b0 C hml hr hlocks h H locs ls hR hS (lv_sub (l' := [(0, .ref x0), (1, .int x1)]) hl [0, 1] rfl)
def w_X6_rotate_b0 (x0 : Nat) (x1 : Int32) (x2 : Int32) (S : sT)  (Q : Int32 → sT → Prop) : Prop :=
s_K S x0 = 8 ∧
    w_X6_societyAt x0 x1 S (fun a102 S101 =>
    s_K S101 a102 = 7 ∧
    ∀ x103 : Int32, x103 = s_I S101 202 a102 →
    (x2 = 0 ∨ x2 = 1) ∧
    ∀ S105 : sT, S105 = s_sI S101 202 a102 x2 →
    (x103 = 0 ∨ x103 = 1) ∧
    Q x103 S105)
def w_X6_rotate (x0 : Nat) (x1 : Int32) (x2 : Int32) (S : sT) (Q : Int32 → sT → Prop) : Prop := w_X6_rotate_b0 x0 x1 x2 S Q
def r_X6_rotate : Room := x_rm 4 85 0 0
theorem b_X6_rotate : x_BV yX6_rotate cX6_rotate 5 (some .boolean) 2 := ⟨q_12_5, q_12_3, q_12_4, q_1_2, by decide +kernel⟩
set_option maxHeartbeats 4000000 in
theorem t_X6_rotate_b0 {Q : Int32 → sT → Prop} (C : x_C p s m args c cX6_rotate RX6 gg) (hml : c.maxLocals = 5) (hr : meth.sig.returnType = (some .boolean)) (hlocks : meth.locks = false) {x0 : Nat} {x1 : Int32} {x2 : Int32}  {S : sT}  (h : w_X6_rotate_b0 x0 x1 x2 S  Q) : x_X p l e r_X6_rotate s m args below meth c gg 5 0 0 (MQ below (va_Qi Q (fun S1 t => s_Rep gg S1 t.heap) (s_A gg)) args s 0 0 (s_A gg)) 0 [(0, .ref x0), (1, .int x1), (2, .int x2)] [] S := by
  unfold w_X6_rotate_b0 at h
  obtain ⟨hx, hb, -⟩ := id C
  intro H locs ls hR hS hl
  refine lv_aload_n hx hb dX6_rotate_0 rfl (lv_at hl 0 rfl) ?_
  refine lv_iload_n hx hb dX6_rotate_1 rfl (lv_at hl 1 rfl) ?_
  obtain ⟨hK_x0, h⟩ := h
  refine x_kq (x_runV (As := [.int x1]) (rest := []) C hml hR hS (m_X6_societyAt l gg x0 x1 S h) b_X6_societyAt q_7_6 (by rw [hK_x0]; decide) (s_E_7 hK_x0) rfl rfl rfl rfl ⟨Nat.le_of_ble_eq_true rfl, Nat.le_of_ble_eq_true rfl⟩ rfl hl.1 (Nat.le_of_ble_eq_true rfl) dX6_rotate_2 ⟨Nat.le_refl _, Nat.le_refl _⟩) hS (fun ra102 S101 H locs hn hR hS => ?_)
  replace h := hn
  clear hn
  obtain ⟨a102, za102, h⟩ := h
  refine x_some za102 ?_
  refine lv_astore_n (lv' := [(3, .ref a102), (0, .ref x0), (1, .int x1), (2, .int x2)]) hx hb dX6_rotate_5 rfl hl (by decide) rfl (fun ls hl => ?_)
  refine lv_aload_n hx hb dX6_rotate_6 rfl (lv_at hl 0 rfl) ?_
  obtain ⟨hK_a102, h⟩ := h
  refine x_g_202 C hR hK_a102 q_12_6 dX6_rotate_7 ?_
  refine lv_topi (fun x103 ex103 => ?_)
  replace h := h x103 ex103
  refine lv_istore (lv' := [(4, .int x103), (3, .ref a102), (0, .ref x0), (1, .int x1), (2, .int x2)]) hx hb dX6_rotate_10 hl (by decide) rfl (fun ls hl => ?_)
  refine lv_aload_n hx hb dX6_rotate_12 rfl (lv_at hl 1 rfl) ?_
  refine lv_iload_n hx hb dX6_rotate_13 rfl (lv_at hl 4 rfl) ?_
  obtain ⟨hz104, h⟩ := h
  refine x_p_202 (v := x2) C hR hK_a102 hS (zb_n hz104) (zb_f hz104) q_12_6 dX6_rotate_14 (fun H locs hR hS => ?_)
  obtain ⟨S105, eS105⟩ : ∃ z : sT, z = s_sI S101 202 a102 x2 := ⟨_, rfl⟩
  rw [← eS105] at hR
  replace h := h S105 eS105
  have hK_a102 : s_K S105 a102 = 7 := by rw [eS105]; exact hK_a102
  refine lv_iload hx hb dX6_rotate_17 (lv_at hl 0 rfl) ?_
  obtain ⟨hz106, h⟩ := h
  exact W.zret (v := x103) hx hb hr (zb_n hz106) (fun t ht hW => ⟨⟨x103, S105, rfl, h, x_rt ht hR⟩, hS.F ht⟩) hS.2.2 dX6_rotate_19
theorem m_X6_rotate (l : Launch) (gg : sG) (x0 : Nat) (x1 : Int32) (x2 : Int32) (S : sT) {Q : Int32 → sT → Prop} (h : w_X6_rotate x0 x1 x2 S Q) : x_Mi l gg yX6_rotate (x_ws yX6_rotate cX6_rotate 5 (some .boolean)) r_X6_rotate [.ref x0, .int x1, .int x2] S Q 0 0 := by
  refine x_ofW (cc := cX6_rotate) (own := RX6) (by decide +kernel) rfl (Nat.le_of_ble_eq_true rfl) ?_
  intro p e s m args below meth c C hml hr hlocks hin ht H locs ls hR hS hl
  exact t_X6_rotate_b0 C hml hr hlocks h H locs ls hR hS (lv_sub (l' := [(0, .ref x0), (1, .int x1), (2, .int x2)]) hl [0, 1, 2] rfl)
def w_X6_puddle_b25  (S : sT)  (Q : Int32 → sT → Prop) : Prop :=
False
def w_X6_puddle_b0 (x0 : Nat) (x1 : Int32) (S : sT)  (Q : Int32 → sT → Prop) : Prop :=
s_K S x0 = 8 ∧
    w_X6_fieldAt x0 x1 S (fun a102 S101 =>
    s_K S101 a102 = 3 ∧
    ∃ a103 : Nat, s_R S101 69 a102 = some a103 ∧
    s_K S101 a103 = 2 ∧
    ∀ x104 : Int32, x104 = s_I S101 32 a103 →
    ((¬ x104 = 0 → w_X6_puddle_b25  S101  Q) ∧
    (x104 = 0 → ∀ x106 : Int32, x106 = s_I S101 73 a102 →
    (((10 : Int32) ≤ x106 → ∃ a108 : Nat, s_R S101 69 a102 = some a108 ∧
    s_K S101 a108 = 2 ∧
    ∀ S109 : sT, S109 = s_sI S101 32 a108 (1 : Int32) →
    ∀ S110 : sT, S110 = s_sI S109 74 a102 (0 : Int32) →
    ∀ x111 : Int32, x111 = s_I S110 73 a102 →
    Q x111 S110) ∧
    (¬ (10 : Int32) ≤ x106 → w_X6_puddle_b25  S101  Q)))))
def w_X6_puddle (x0 : Nat) (x1 : Int32) (S : sT) (Q : Int32 → sT → Prop) : Prop := w_X6_puddle_b0 x0 x1 S Q
def r_X6_puddle : Room := x_rm 4 85 0 0
theorem b_X6_puddle : x_BV yX6_puddle cX6_puddle 3 (some .int) 1 := ⟨q_16_10, q_16_8, q_16_9, q_1_2, by decide +kernel⟩
set_option maxHeartbeats 4000000 in
theorem t_X6_puddle_b25 {Q : Int32 → sT → Prop} (C : x_C p s m args c cX6_puddle RX6 gg) (hml : c.maxLocals = 3) (hr : meth.sig.returnType = (some .int)) (hlocks : meth.locks = false)   {S : sT}  (h : w_X6_puddle_b25  S  Q) : x_X p l e r_X6_puddle s m args below meth c gg 3 0 0 (MQ below (va_Qi Q (fun S1 t => s_Rep gg S1 t.heap) (s_A gg)) args s 0 0 (s_A gg)) 25 [] [] S := by
  unfold w_X6_puddle_b25 at h
  obtain ⟨hx, hb, -⟩ := id C
  intro H locs ls hR hS hl
  exact h.elim
set_option maxHeartbeats 4000000 in
theorem t_X6_puddle_b0 {Q : Int32 → sT → Prop} (C : x_C p s m args c cX6_puddle RX6 gg) (hml : c.maxLocals = 3) (hr : meth.sig.returnType = (some .int)) (hlocks : meth.locks = false) {x0 : Nat} {x1 : Int32}  {S : sT}  (h : w_X6_puddle_b0 x0 x1 S  Q) : x_X p l e r_X6_puddle s m args below meth c gg 3 0 0 (MQ below (va_Qi Q (fun S1 t => s_Rep gg S1 t.heap) (s_A gg)) args s 0 0 (s_A gg)) 0 [(0, .ref x0), (1, .int x1)] [] S := by
  unfold w_X6_puddle_b0 at h
  obtain ⟨hx, hb, -⟩ := id C
  intro H locs ls hR hS hl
  refine lv_aload_n hx hb dX6_puddle_0 rfl (lv_at hl 0 rfl) ?_
  refine lv_iload_n hx hb dX6_puddle_1 rfl (lv_at hl 1 rfl) ?_
  obtain ⟨hK_x0, h⟩ := h
  refine x_kq (x_runV (As := [.int x1]) (rest := []) C hml hR hS (m_X6_fieldAt l gg x0 x1 S h) b_X6_fieldAt q_10_12 (by rw [hK_x0]; decide) (s_E_7 hK_x0) rfl rfl rfl rfl ⟨Nat.le_of_ble_eq_true rfl, Nat.le_of_ble_eq_true rfl⟩ rfl hl.1 (Nat.le_of_ble_eq_true rfl) dX6_puddle_2 ⟨Nat.le_refl _, Nat.le_refl _⟩) hS (fun ra102 S101 H locs hn hR hS => ?_)
  replace h := hn
  clear hn
  obtain ⟨a102, za102, h⟩ := h
  refine x_some za102 ?_
  refine lv_astore_n (lv' := [(2, .ref a102), (0, .ref x0), (1, .int x1)]) hx hb dX6_puddle_5 rfl hl (by decide) rfl (fun ls hl => ?_)
  refine lv_aload_n hx hb dX6_puddle_6 rfl (lv_at hl 0 rfl) ?_
  obtain ⟨hK_a102, h⟩ := h
  refine x_g_69 C hR hK_a102 q_11_2 dX6_puddle_7 ?_
  obtain ⟨a103, ea103, h⟩ := h
  refine x_some ea103 ?_
  obtain ⟨hK_a103, h⟩ := h
  refine x_g_32 C hR hK_a103 q_11_3 dX6_puddle_10 ?_
  refine lv_topi (fun x104 ex104 => ?_)
  replace h := h x104 ex104
  refine lv_if_ne (tgt := 25) hx hb dX6_puddle_13 (by decide) (fun hc105 => ?_) (fun hc105 => ?_)
  · replace h := h.1 hc105
    exact t_X6_puddle_b25 C hml hr hlocks  h H locs ls hR hS (lv_sub (l' := []) hl [] rfl)
  · replace h := h.2 hc105
    refine lv_aload_n hx hb dX6_puddle_16 rfl (lv_at hl 0 rfl) ?_
    refine x_g_73 C hR hK_a102 q_10_23 dX6_puddle_17 ?_
    refine lv_topi (fun x106 ex106 => ?_)
    replace h := h x106 ex106
    refine lv_bipush (v := 10) hx hb dX6_puddle_20 (by decide) ?_
    refine lv_icmp_ge (tgt := 35) hx hb dX6_puddle_22 (by decide) (fun hc107 => ?_) (fun hc107 => ?_)
    · replace h := h.1 hc107
      refine lv_aload_n hx hb dX6_puddle_35 rfl (lv_at hl 0 rfl) ?_
      refine x_g_69 C hR hK_a102 q_11_2 dX6_puddle_36 ?_
      obtain ⟨a108, ea108, h⟩ := h
      refine x_some ea108 ?_
      refine lv_iconst (v := 1) hx hb dX6_puddle_39 (by decide) ?_
      obtain ⟨hK_a108, h⟩ := h
      refine x_p_32 (v := (1 : Int32)) C hR hK_a108 hS q_11_3 dX6_puddle_40 (fun H locs hR hS => ?_)
      obtain ⟨S109, eS109⟩ : ∃ z : sT, z = s_sI S101 32 a108 (1 : Int32) := ⟨_, rfl⟩
      rw [← eS109] at hR
      replace h := h S109 eS109
      have hK_a102 : s_K S109 a102 = 3 := by rw [eS109]; exact hK_a102
      have hK_a103 : s_K S109 a103 = 2 := by rw [eS109]; exact hK_a103
      have hK_a108 : s_K S109 a108 = 2 := by rw [eS109]; exact hK_a108
      refine lv_aload_n hx hb dX6_puddle_43 rfl (lv_at hl 0 rfl) ?_
      refine lv_iconst (v := 0) hx hb dX6_puddle_44 (by decide) ?_
      refine x_p_74 (v := (0 : Int32)) C hR hK_a102 hS q_11_0 dX6_puddle_45 (fun H locs hR hS => ?_)
      obtain ⟨S110, eS110⟩ : ∃ z : sT, z = s_sI S109 74 a102 (0 : Int32) := ⟨_, rfl⟩
      rw [← eS110] at hR
      replace h := h S110 eS110
      have hK_a102 : s_K S110 a102 = 3 := by rw [eS110]; exact hK_a102
      have hK_a103 : s_K S110 a103 = 2 := by rw [eS110]; exact hK_a103
      have hK_a108 : s_K S110 a108 = 2 := by rw [eS110]; exact hK_a108
      refine lv_aload_n hx hb dX6_puddle_48 rfl (lv_at hl 0 rfl) ?_
      refine x_g_73 C hR hK_a102 q_10_23 dX6_puddle_49 ?_
      refine lv_topi (fun x111 ex111 => ?_)
      replace h := h x111 ex111
      exact W.iret (v := x111) hx hb hr (fun t ht hW => ⟨⟨x111, S110, rfl, h, x_rt ht hR⟩, hS.F ht⟩) hS.2.2 dX6_puddle_52
    · replace h := h.2 hc107
      exact t_X6_puddle_b25 C hml hr hlocks  h H locs ls hR hS (lv_sub (l' := []) hl [] rfl)
theorem m_X6_puddle (l : Launch) (gg : sG) (x0 : Nat) (x1 : Int32) (S : sT) {Q : Int32 → sT → Prop} (h : w_X6_puddle x0 x1 S Q) : x_Mi l gg yX6_puddle (x_ws yX6_puddle cX6_puddle 3 (some .int)) r_X6_puddle [.ref x0, .int x1] S Q 0 0 := by
  refine x_ofW (cc := cX6_puddle) (own := RX6) (by decide +kernel) rfl (Nat.le_of_ble_eq_true rfl) ?_
  intro p e s m args below meth c C hml hr hlocks hin ht H locs ls hR hS hl
  exact t_X6_puddle_b0 C hml hr hlocks h H locs ls hR hS (lv_sub (l' := [(0, .ref x0), (1, .int x1)]) hl [0, 1] rfl)
def w_X6_checkKind_b0 (x0 : Int32) (S : sT)  (Q : sT → Prop) : Prop :=
w_X6_isWithin x0 (0 : Int32) (2 : Int32) S (fun x102 S101 =>
    ((¬ x102 = 0 → Q S101) ∧
    (x102 = 0 → False)))
def w_X6_checkKind (x0 : Int32) (S : sT) (Q : sT → Prop) : Prop := w_X6_checkKind_b0 x0 S Q
def r_X6_checkKind : Room := x_rm 1 22 0 0
theorem b_X6_checkKind : x_BS yX6_checkKind cX6_checkKind 1 none 1 := ⟨q_18_3, q_18_2, q_1_2, by decide +kernel⟩
set_option maxHeartbeats 4000000 in
theorem t_X6_checkKind_b0 {Q : sT → Prop} (C : x_C p s m args c cX6_checkKind RX6 gg) (hml : c.maxLocals = 1) (hr : meth.sig.returnType = none) (hlocks : meth.locks = false) {x0 : Int32}  {S : sT}  (h : w_X6_checkKind_b0 x0 S  Q) : x_X p l e r_X6_checkKind s m args below meth c gg 1 0 0 (MQ below (va_Qv Q (fun S1 t => s_Rep gg S1 t.heap) (s_A gg)) args s 0 0 (s_A gg)) 0 [(0, .int x0)] [] S := by
  unfold w_X6_checkKind_b0 at h
  obtain ⟨hx, hb, -⟩ := id C
  intro H locs ls hR hS hl
  refine lv_iload_n hx hb dX6_checkKind_0 rfl (lv_at hl 0 rfl) ?_
  refine lv_iconst (v := 0) hx hb dX6_checkKind_1 (by decide) ?_
  refine lv_iconst (v := 2) hx hb dX6_checkKind_2 (by decide) ?_
  refine x_ki (x_runS (As := [.int x0, .int (0 : Int32), .int (2 : Int32)]) (rest := []) C hml hR hS (m_X6_isWithin l gg x0 (0 : Int32) (2 : Int32) S h) b_X6_isWithin q_3_15 rfl rfl ⟨Nat.le_of_ble_eq_true rfl, Nat.le_of_ble_eq_true rfl⟩ rfl hl.1 (Nat.le_of_ble_eq_true rfl) dX6_checkKind_3 ⟨Nat.le_refl _, Nat.le_refl _⟩) hS (fun x102 S101 H locs hn hR hS => ?_)
  replace h := hn
  clear hn
  refine lv_if_ne (tgt := 20) hx hb dX6_checkKind_6 (by decide) (fun hc103 => ?_) (fun hc103 => ?_)
  · replace h := h.1 hc103
    exact W.vret hx hb hr (fun t ht hW => ⟨⟨S101, rfl, h, x_rt ht hR⟩, hS.F ht⟩) hS.2.2 dX6_checkKind_20
  · replace h := h.2 hc103
    exact h.elim
theorem m_X6_checkKind (l : Launch) (gg : sG) (x0 : Int32) (S : sT) {Q : sT → Prop} (h : w_X6_checkKind x0 S Q) : x_Mv l gg yX6_checkKind (x_ws yX6_checkKind cX6_checkKind 1 none) r_X6_checkKind [.int x0] S Q 0 0 := by
  refine x_ofW (cc := cX6_checkKind) (own := RX6) (by decide +kernel) rfl (Nat.le_of_ble_eq_true rfl) ?_
  intro p e s m args below meth c C hml hr hlocks hin ht H locs ls hR hS hl
  exact t_X6_checkKind_b0 C hml hr hlocks h H locs ls hR hS (lv_sub (l' := [(0, .int x0)]) hl [0] rfl)
def w_X6_plant_b42  (S : sT)  (Q : Int32 → sT → Prop) : Prop :=
False
def w_X6_plant_b0 (x0 : Nat) (x1 : Int32) (x2 : Int32) (S : sT)  (Q : Int32 → sT → Prop) : Prop :=
s_K S x0 = 8 ∧
    w_X6_fieldAt x0 x1 S (fun a102 S101 =>
    w_X6_checkKind x2 S101 (fun S103 =>
    s_K S103 a102 = 3 ∧
    ∃ a104 : Nat, s_R S103 69 a102 = some a104 ∧
    s_K S103 a104 = 2 ∧
    ∀ x105 : Int32, x105 = s_I S103 32 a104 →
    ((¬ x105 = (1 : Int32) → w_X6_plant_b42  S103  Q) ∧
    (x105 = (1 : Int32) → s_K S103 x0 = 8 ∧
    ∃ a107 : Nat, s_R S103 224 x0 = some a107 ∧
    s_K S103 a107 = 4 ∧
    w_X2_isDark a107 S103 (fun x109 S108 =>
    ((¬ x109 = 0 → w_X6_plant_b42  S108  Q) ∧
    (x109 = 0 → s_K S108 a102 = 3 ∧
    ∃ a111 : Nat, s_R S108 69 a102 = some a111 ∧
    s_K S108 a111 = 2 ∧
    ∀ x112 : Int32, x112 = s_I S108 37 a111 →
    (((3 : Int32) ≤ x112 → ∃ a114 : Nat, s_R S108 69 a102 = some a114 ∧
    s_K S108 a114 = 2 ∧
    w_X0_begin a114 x2 S108 (fun S115 =>
    s_K S115 x0 = 8 ∧
    ∃ a116 : Nat, s_R S115 224 x0 = some a116 ∧
    s_K S115 a116 = 4 ∧
    ∀ x117 : Int32, x117 = s_I S115 99 a116 →
    Q x117 S115)) ∧
    (¬ (3 : Int32) ≤ x112 → w_X6_plant_b42  S108  Q)))))))))
def w_X6_plant (x0 : Nat) (x1 : Int32) (x2 : Int32) (S : sT) (Q : Int32 → sT → Prop) : Prop := w_X6_plant_b0 x0 x1 x2 S Q
def r_X6_plant : Room := x_rm 4 85 0 0
theorem b_X6_plant : x_BV yX6_plant cX6_plant 4 (some .int) 2 := ⟨q_18_0, q_17_22, q_17_23, q_1_2, by decide +kernel⟩
set_option maxHeartbeats 4000000 in
theorem t_X6_plant_b42 {Q : Int32 → sT → Prop} (C : x_C p s m args c cX6_plant RX6 gg) (hml : c.maxLocals = 4) (hr : meth.sig.returnType = (some .int)) (hlocks : meth.locks = false)   {S : sT}  (h : w_X6_plant_b42  S  Q) : x_X p l e r_X6_plant s m args below meth c gg 4 0 0 (MQ below (va_Qi Q (fun S1 t => s_Rep gg S1 t.heap) (s_A gg)) args s 0 0 (s_A gg)) 42 [] [] S := by
  unfold w_X6_plant_b42 at h
  obtain ⟨hx, hb, -⟩ := id C
  intro H locs ls hR hS hl
  exact h.elim
set_option maxHeartbeats 4000000 in
theorem t_X6_plant_b0 {Q : Int32 → sT → Prop} (C : x_C p s m args c cX6_plant RX6 gg) (hml : c.maxLocals = 4) (hr : meth.sig.returnType = (some .int)) (hlocks : meth.locks = false) {x0 : Nat} {x1 : Int32} {x2 : Int32}  {S : sT}  (h : w_X6_plant_b0 x0 x1 x2 S  Q) : x_X p l e r_X6_plant s m args below meth c gg 4 0 0 (MQ below (va_Qi Q (fun S1 t => s_Rep gg S1 t.heap) (s_A gg)) args s 0 0 (s_A gg)) 0 [(0, .ref x0), (1, .int x1), (2, .int x2)] [] S := by
  unfold w_X6_plant_b0 at h
  obtain ⟨hx, hb, -⟩ := id C
  intro H locs ls hR hS hl
  refine lv_aload_n hx hb dX6_plant_0 rfl (lv_at hl 0 rfl) ?_
  refine lv_iload_n hx hb dX6_plant_1 rfl (lv_at hl 1 rfl) ?_
  obtain ⟨hK_x0, h⟩ := h
  refine x_kq (x_runV (As := [.int x1]) (rest := []) C hml hR hS (m_X6_fieldAt l gg x0 x1 S h) b_X6_fieldAt q_10_12 (by rw [hK_x0]; decide) (s_E_7 hK_x0) rfl rfl rfl rfl ⟨Nat.le_of_ble_eq_true rfl, Nat.le_of_ble_eq_true rfl⟩ rfl hl.1 (Nat.le_of_ble_eq_true rfl) dX6_plant_2 ⟨Nat.le_refl _, Nat.le_refl _⟩) hS (fun ra102 S101 H locs hn hR hS => ?_)
  replace h := hn
  clear hn
  obtain ⟨a102, za102, h⟩ := h
  refine x_some za102 ?_
  refine lv_astore_n (lv' := [(3, .ref a102), (0, .ref x0), (1, .int x1), (2, .int x2)]) hx hb dX6_plant_5 rfl hl (by decide) rfl (fun ls hl => ?_)
  refine lv_iload_n hx hb dX6_plant_6 rfl (lv_at hl 3 rfl) ?_
  refine x_kv (x_runS (As := [.int x2]) (rest := []) C hml hR hS (m_X6_checkKind l gg x2 S101 h) b_X6_checkKind q_18_1 rfl rfl ⟨Nat.le_of_ble_eq_true rfl, Nat.le_of_ble_eq_true rfl⟩ rfl hl.1 (Nat.le_of_ble_eq_true rfl) dX6_plant_7 ⟨Nat.le_refl _, Nat.le_refl _⟩) hS (fun S103 H locs hn hR hS => ?_)
  replace h := hn
  clear hn
  refine lv_aload_n hx hb dX6_plant_10 rfl (lv_at hl 0 rfl) ?_
  obtain ⟨hK_a102, h⟩ := h
  refine x_g_69 C hR hK_a102 q_11_2 dX6_plant_11 ?_
  obtain ⟨a104, ea104, h⟩ := h
  refine x_some ea104 ?_
  obtain ⟨hK_a104, h⟩ := h
  refine x_g_32 C hR hK_a104 q_11_3 dX6_plant_14 ?_
  refine lv_topi (fun x105 ex105 => ?_)
  replace h := h x105 ex105
  refine lv_iconst (v := 1) hx hb dX6_plant_17 (by decide) ?_
  refine lv_icmp_ne (tgt := 42) hx hb dX6_plant_18 (by decide) (fun hc106 => ?_) (fun hc106 => ?_)
  · replace h := h.1 hc106
    exact t_X6_plant_b42 C hml hr hlocks  h H locs ls hR hS (lv_sub (l' := []) hl [] rfl)
  · replace h := h.2 hc106
    refine lv_aload_n hx hb dX6_plant_21 rfl (lv_at hl 1 rfl) ?_
    obtain ⟨hK_x0, h⟩ := h
    refine x_g_224 C hR hK_x0 q_1_13 dX6_plant_22 ?_
    obtain ⟨a107, ea107, h⟩ := h
    refine x_some ea107 ?_
    obtain ⟨hK_a107, h⟩ := h
    refine x_ki (x_runV (As := []) (rest := []) C hml hR hS (m_X2_isDark l gg a107 S103 h) b_X2_isDark q_16_22 (by rw [hK_a107]; decide) (s_E_3 hK_a107) rfl rfl rfl rfl ⟨Nat.le_of_ble_eq_true rfl, Nat.le_of_ble_eq_true rfl⟩ rfl hl.1 (Nat.le_of_ble_eq_true rfl) dX6_plant_25 ⟨Nat.le_refl _, Nat.le_refl _⟩) hS (fun x109 S108 H locs hn hR hS => ?_)
    replace h := hn
    clear hn
    refine lv_if_ne (tgt := 42) hx hb dX6_plant_28 (by decide) (fun hc110 => ?_) (fun hc110 => ?_)
    · replace h := h.1 hc110
      exact t_X6_plant_b42 C hml hr hlocks  h H locs ls hR hS (lv_sub (l' := []) hl [] rfl)
    · replace h := h.2 hc110
      refine lv_aload_n hx hb dX6_plant_31 rfl (lv_at hl 0 rfl) ?_
      obtain ⟨hK_a102, h⟩ := h
      refine x_g_69 C hR hK_a102 q_11_2 dX6_plant_32 ?_
      obtain ⟨a111, ea111, h⟩ := h
      refine x_some ea111 ?_
      obtain ⟨hK_a111, h⟩ := h
      refine x_g_37 C hR hK_a111 q_11_9 dX6_plant_35 ?_
      refine lv_topi (fun x112 ex112 => ?_)
      replace h := h x112 ex112
      refine lv_iconst (v := 3) hx hb dX6_plant_38 (by decide) ?_
      refine lv_icmp_ge (tgt := 52) hx hb dX6_plant_39 (by decide) (fun hc113 => ?_) (fun hc113 => ?_)
      · replace h := h.1 hc113
        refine lv_aload_n hx hb dX6_plant_52 rfl (lv_at hl 0 rfl) ?_
        refine x_g_69 C hR hK_a102 q_11_2 dX6_plant_53 ?_
        obtain ⟨a114, ea114, h⟩ := h
        refine x_some ea114 ?_
        refine lv_iload_n hx hb dX6_plant_56 rfl (lv_at hl 3 rfl) ?_
        obtain ⟨hK_a114, h⟩ := h
        refine x_kv (x_runV (As := [.int x2]) (rest := []) C hml hR hS (m_X0_begin l gg a114 x2 S108 h) b_X0_begin q_18_4 (by rw [hK_a114]; decide) (s_E_1 hK_a114) rfl rfl rfl rfl ⟨Nat.le_of_ble_eq_true rfl, Nat.le_of_ble_eq_true rfl⟩ rfl hl.1 (Nat.le_of_ble_eq_true rfl) dX6_plant_57 ⟨Nat.le_refl _, Nat.le_refl _⟩) hS (fun S115 H locs hn hR hS => ?_)
        replace h := hn
        clear hn
        refine lv_aload_n hx hb dX6_plant_60 rfl (lv_at hl 1 rfl) ?_
        obtain ⟨hK_x0, h⟩ := h
        refine x_g_224 C hR hK_x0 q_1_13 dX6_plant_61 ?_
        obtain ⟨a116, ea116, h⟩ := h
        refine x_some ea116 ?_
        obtain ⟨hK_a116, h⟩ := h
        refine x_g_99 C hR hK_a116 q_16_19 dX6_plant_64 ?_
        refine lv_topi (fun x117 ex117 => ?_)
        replace h := h x117 ex117
        exact W.iret (v := x117) hx hb hr (fun t ht hW => ⟨⟨x117, S115, rfl, h, x_rt ht hR⟩, hS.F ht⟩) hS.2.2 dX6_plant_67
      · replace h := h.2 hc113
        exact t_X6_plant_b42 C hml hr hlocks  h H locs ls hR hS (lv_sub (l' := []) hl [] rfl)
theorem m_X6_plant (l : Launch) (gg : sG) (x0 : Nat) (x1 : Int32) (x2 : Int32) (S : sT) {Q : Int32 → sT → Prop} (h : w_X6_plant x0 x1 x2 S Q) : x_Mi l gg yX6_plant (x_ws yX6_plant cX6_plant 4 (some .int)) r_X6_plant [.ref x0, .int x1, .int x2] S Q 0 0 := by
  refine x_ofW (cc := cX6_plant) (own := RX6) (by decide +kernel) rfl (Nat.le_of_ble_eq_true rfl) ?_
  intro p e s m args below meth c C hml hr hlocks hin ht H locs ls hR hS hl
  exact t_X6_plant_b0 C hml hr hlocks h H locs ls hR hS (lv_sub (l' := [(0, .ref x0), (1, .int x1), (2, .int x2)]) hl [0, 1, 2] rfl)
def w_X6_help_b0 (x0 : Nat) (x1 : Int32) (x2 : Int32) (S : sT)  (Q : Int32 → sT → Prop) : Prop :=
s_K S x0 = 8 ∧
    w_X6_fieldAt x0 x1 S (fun a102 S101 =>
    s_K S101 a102 = 3 ∧
    ∃ a103 : Nat, s_R S101 68 a102 = some a103 ∧
    s_K S101 x0 = 8 ∧
    w_X6_fieldAt x0 x2 S101 (fun a105 S104 =>
    s_K S104 a103 = 6 ∧
    ∀ x106 : Int32, x106 = s_I S104 161 a103 →
    ∀ x107 : Int32, x107 = x106 + (1 : Int32) →
    ∀ S108 : sT, S108 = s_sI S104 161 a103 x107 →
    s_K S108 a105 = 3 ∧
    ∃ a109 : Nat, s_R S108 68 a105 = some a109 ∧
    s_K S108 a109 = 6 ∧
    ∀ x110 : Int32, x110 = s_I S108 161 a109 →
    ∀ x111 : Int32, x111 = x110 - (1 : Int32) →
    ∀ S112 : sT, S112 = s_sI S108 161 a109 x111 →
    ∃ a113 : Nat, s_R S112 69 a105 = some a113 ∧
    s_K S112 a113 = 2 ∧
    ∀ x114 : Int32, x114 = s_I S112 37 a113 →
    ∀ x115 : Int32, x115 = x114 + (1 : Int32) →
    ∀ S116 : sT, S116 = s_sI S112 37 a113 x115 →
    ∃ a117 : Nat, s_R S116 69 a105 = some a117 ∧
    s_K S116 a117 = 2 ∧
    ∀ x118 : Int32, x118 = s_I S116 37 a117 →
    Q x118 S116))
def w_X6_help (x0 : Nat) (x1 : Int32) (x2 : Int32) (S : sT) (Q : Int32 → sT → Prop) : Prop := w_X6_help_b0 x0 x1 x2 S Q
def r_X6_help : Room := x_rm 4 85 0 0
theorem b_X6_help : x_BV yX6_help cX6_help 5 (some .int) 2 := ⟨q_16_14, q_16_12, q_16_13, q_1_2, by decide +kernel⟩
set_option maxHeartbeats 4000000 in
theorem t_X6_help_b0 {Q : Int32 → sT → Prop} (C : x_C p s m args c cX6_help RX6 gg) (hml : c.maxLocals = 5) (hr : meth.sig.returnType = (some .int)) (hlocks : meth.locks = false) {x0 : Nat} {x1 : Int32} {x2 : Int32}  {S : sT}  (h : w_X6_help_b0 x0 x1 x2 S  Q) : x_X p l e r_X6_help s m args below meth c gg 5 0 0 (MQ below (va_Qi Q (fun S1 t => s_Rep gg S1 t.heap) (s_A gg)) args s 0 0 (s_A gg)) 0 [(0, .ref x0), (1, .int x1), (2, .int x2)] [] S := by
  unfold w_X6_help_b0 at h
  obtain ⟨hx, hb, -⟩ := id C
  intro H locs ls hR hS hl
  refine lv_aload_n hx hb dX6_help_0 rfl (lv_at hl 0 rfl) ?_
  refine lv_iload_n hx hb dX6_help_1 rfl (lv_at hl 1 rfl) ?_
  obtain ⟨hK_x0, h⟩ := h
  refine x_kq (x_runV (As := [.int x1]) (rest := []) C hml hR hS (m_X6_fieldAt l gg x0 x1 S h) b_X6_fieldAt q_10_12 (by rw [hK_x0]; decide) (s_E_7 hK_x0) rfl rfl rfl rfl ⟨Nat.le_of_ble_eq_true rfl, Nat.le_of_ble_eq_true rfl⟩ rfl hl.1 (Nat.le_of_ble_eq_true rfl) dX6_help_2 ⟨Nat.le_refl _, Nat.le_refl _⟩) hS (fun ra102 S101 H locs hn hR hS => ?_)
  replace h := hn
  clear hn
  obtain ⟨a102, za102, h⟩ := h
  refine x_some za102 ?_
  obtain ⟨hK_a102, h⟩ := h
  refine x_g_68 C hR hK_a102 q_15_19 dX6_help_5 ?_
  obtain ⟨a103, ea103, h⟩ := h
  refine x_some ea103 ?_
  refine lv_astore_n (lv' := [(3, .ref a103), (0, .ref x0), (1, .int x1), (2, .int x2)]) hx hb dX6_help_8 rfl hl (by decide) rfl (fun ls hl => ?_)
  refine lv_aload_n hx hb dX6_help_9 rfl (lv_at hl 1 rfl) ?_
  refine lv_iload_n hx hb dX6_help_10 rfl (lv_at hl 3 rfl) ?_
  obtain ⟨hK_x0, h⟩ := h
  refine x_kq (x_runV (As := [.int x2]) (rest := []) C hml hR hS (m_X6_fieldAt l gg x0 x2 S101 h) b_X6_fieldAt q_10_12 (by rw [hK_x0]; decide) (s_E_7 hK_x0) rfl rfl rfl rfl ⟨Nat.le_of_ble_eq_true rfl, Nat.le_of_ble_eq_true rfl⟩ rfl hl.1 (Nat.le_of_ble_eq_true rfl) dX6_help_11 ⟨Nat.le_refl _, Nat.le_refl _⟩) hS (fun ra105 S104 H locs hn hR hS => ?_)
  replace h := hn
  clear hn
  obtain ⟨a105, za105, h⟩ := h
  refine x_some za105 ?_
  refine lv_astore (lv' := [(4, .ref a105), (3, .ref a103), (0, .ref x0), (1, .int x1), (2, .int x2)]) hx hb dX6_help_14 hl (by decide) rfl (fun ls hl => ?_)
  refine lv_aload_n hx hb dX6_help_16 rfl (lv_at hl 1 rfl) ?_
  refine lv_dup hx hb dX6_help_17 rfl ?_
  obtain ⟨hK_a103, h⟩ := h
  refine x_g_161 C hR hK_a103 q_15_21 dX6_help_18 ?_
  refine lv_topi (fun x106 ex106 => ?_)
  replace h := h x106 ex106
  refine lv_iconst (v := 1) hx hb dX6_help_21 (by decide) ?_
  refine lv_iadd hx hb dX6_help_22 ?_
  refine lv_topi (fun x107 ex107 => ?_)
  replace h := h x107 ex107
  refine x_p_161 (v := x107) C hR hK_a103 hS q_15_21 dX6_help_23 (fun H locs hR hS => ?_)
  obtain ⟨S108, eS108⟩ : ∃ z : sT, z = s_sI S104 161 a103 x107 := ⟨_, rfl⟩
  rw [← eS108] at hR
  replace h := h S108 eS108
  have hK_a103 : s_K S108 a103 = 6 := by rw [eS108]; exact hK_a103
  refine lv_aload hx hb dX6_help_26 (lv_at hl 0 rfl) ?_
  obtain ⟨hK_a105, h⟩ := h
  refine x_g_68 C hR hK_a105 q_15_19 dX6_help_28 ?_
  obtain ⟨a109, ea109, h⟩ := h
  refine x_some ea109 ?_
  refine lv_dup hx hb dX6_help_31 rfl ?_
  obtain ⟨hK_a109, h⟩ := h
  refine x_g_161 C hR hK_a109 q_15_21 dX6_help_32 ?_
  refine lv_topi (fun x110 ex110 => ?_)
  replace h := h x110 ex110
  refine lv_iconst (v := 1) hx hb dX6_help_35 (by decide) ?_
  refine lv_isub hx hb dX6_help_36 ?_
  refine lv_topi (fun x111 ex111 => ?_)
  replace h := h x111 ex111
  refine x_p_161 (v := x111) C hR hK_a109 hS q_15_21 dX6_help_37 (fun H locs hR hS => ?_)
  obtain ⟨S112, eS112⟩ : ∃ z : sT, z = s_sI S108 161 a109 x111 := ⟨_, rfl⟩
  rw [← eS112] at hR
  replace h := h S112 eS112
  have hK_a103 : s_K S112 a103 = 6 := by rw [eS112]; exact hK_a103
  have hK_a105 : s_K S112 a105 = 3 := by rw [eS112]; exact hK_a105
  have hK_a109 : s_K S112 a109 = 6 := by rw [eS112]; exact hK_a109
  refine lv_aload hx hb dX6_help_40 (lv_at hl 0 rfl) ?_
  refine x_g_69 C hR hK_a105 q_11_2 dX6_help_42 ?_
  obtain ⟨a113, ea113, h⟩ := h
  refine x_some ea113 ?_
  refine lv_dup hx hb dX6_help_45 rfl ?_
  obtain ⟨hK_a113, h⟩ := h
  refine x_g_37 C hR hK_a113 q_11_9 dX6_help_46 ?_
  refine lv_topi (fun x114 ex114 => ?_)
  replace h := h x114 ex114
  refine lv_iconst (v := 1) hx hb dX6_help_49 (by decide) ?_
  refine lv_iadd hx hb dX6_help_50 ?_
  refine lv_topi (fun x115 ex115 => ?_)
  replace h := h x115 ex115
  refine x_p_37 (v := x115) C hR hK_a113 hS q_11_9 dX6_help_51 (fun H locs hR hS => ?_)
  obtain ⟨S116, eS116⟩ : ∃ z : sT, z = s_sI S112 37 a113 x115 := ⟨_, rfl⟩
  rw [← eS116] at hR
  replace h := h S116 eS116
  have hK_a103 : s_K S116 a103 = 6 := by rw [eS116]; exact hK_a103
  have hK_a105 : s_K S116 a105 = 3 := by rw [eS116]; exact hK_a105
  have hK_a109 : s_K S116 a109 = 6 := by rw [eS116]; exact hK_a109
  have hK_a113 : s_K S116 a113 = 2 := by rw [eS116]; exact hK_a113
  refine lv_aload hx hb dX6_help_54 (lv_at hl 0 rfl) ?_
  refine x_g_69 C hR hK_a105 q_11_2 dX6_help_56 ?_
  obtain ⟨a117, ea117, h⟩ := h
  refine x_some ea117 ?_
  obtain ⟨hK_a117, h⟩ := h
  refine x_g_37 C hR hK_a117 q_11_9 dX6_help_59 ?_
  refine lv_topi (fun x118 ex118 => ?_)
  replace h := h x118 ex118
  exact W.iret (v := x118) hx hb hr (fun t ht hW => ⟨⟨x118, S116, rfl, h, x_rt ht hR⟩, hS.F ht⟩) hS.2.2 dX6_help_62
theorem m_X6_help (l : Launch) (gg : sG) (x0 : Nat) (x1 : Int32) (x2 : Int32) (S : sT) {Q : Int32 → sT → Prop} (h : w_X6_help x0 x1 x2 S Q) : x_Mi l gg yX6_help (x_ws yX6_help cX6_help 5 (some .int)) r_X6_help [.ref x0, .int x1, .int x2] S Q 0 0 := by
  refine x_ofW (cc := cX6_help) (own := RX6) (by decide +kernel) rfl (Nat.le_of_ble_eq_true rfl) ?_
  intro p e s m args below meth c C hml hr hlocks hin ht H locs ls hR hS hl
  exact t_X6_help_b0 C hml hr hlocks h H locs ls hR hS (lv_sub (l' := [(0, .ref x0), (1, .int x1), (2, .int x2)]) hl [0, 1, 2] rfl)
def w_X6_ducks_b0 (x0 : Nat) (x1 : Int32) (x2 : Int32) (S : sT)  (Q : Int32 → sT → Prop) : Prop :=
s_K S x0 = 8 ∧
    w_X6_fieldAt x0 x1 S (fun a102 S101 =>
    s_K S101 a102 = 3 ∧
    (x2 = 0 ∨ x2 = 1) ∧
    ∀ S104 : sT, S104 = s_sI S101 77 a102 x2 →
    ∀ x105 : Int32, x105 = s_I S104 76 a102 →
    Q x105 S104)
def w_X6_ducks (x0 : Nat) (x1 : Int32) (x2 : Int32) (S : sT) (Q : Int32 → sT → Prop) : Prop := w_X6_ducks_b0 x0 x1 x2 S Q
def r_X6_ducks : Room := x_rm 4 85 0 0
theorem b_X6_ducks : x_BV yX6_ducks cX6_ducks 4 (some .int) 2 := ⟨q_12_22, q_12_20, q_12_21, q_1_2, by decide +kernel⟩
set_option maxHeartbeats 4000000 in
theorem t_X6_ducks_b0 {Q : Int32 → sT → Prop} (C : x_C p s m args c cX6_ducks RX6 gg) (hml : c.maxLocals = 4) (hr : meth.sig.returnType = (some .int)) (hlocks : meth.locks = false) {x0 : Nat} {x1 : Int32} {x2 : Int32}  {S : sT}  (h : w_X6_ducks_b0 x0 x1 x2 S  Q) : x_X p l e r_X6_ducks s m args below meth c gg 4 0 0 (MQ below (va_Qi Q (fun S1 t => s_Rep gg S1 t.heap) (s_A gg)) args s 0 0 (s_A gg)) 0 [(0, .ref x0), (1, .int x1), (2, .int x2)] [] S := by
  unfold w_X6_ducks_b0 at h
  obtain ⟨hx, hb, -⟩ := id C
  intro H locs ls hR hS hl
  refine lv_aload_n hx hb dX6_ducks_0 rfl (lv_at hl 0 rfl) ?_
  refine lv_iload_n hx hb dX6_ducks_1 rfl (lv_at hl 1 rfl) ?_
  obtain ⟨hK_x0, h⟩ := h
  refine x_kq (x_runV (As := [.int x1]) (rest := []) C hml hR hS (m_X6_fieldAt l gg x0 x1 S h) b_X6_fieldAt q_10_12 (by rw [hK_x0]; decide) (s_E_7 hK_x0) rfl rfl rfl rfl ⟨Nat.le_of_ble_eq_true rfl, Nat.le_of_ble_eq_true rfl⟩ rfl hl.1 (Nat.le_of_ble_eq_true rfl) dX6_ducks_2 ⟨Nat.le_refl _, Nat.le_refl _⟩) hS (fun ra102 S101 H locs hn hR hS => ?_)
  replace h := hn
  clear hn
  obtain ⟨a102, za102, h⟩ := h
  refine x_some za102 ?_
  refine lv_astore_n (lv' := [(3, .ref a102), (0, .ref x0), (1, .int x1), (2, .int x2)]) hx hb dX6_ducks_5 rfl hl (by decide) rfl (fun ls hl => ?_)
  refine lv_aload_n hx hb dX6_ducks_6 rfl (lv_at hl 0 rfl) ?_
  refine lv_iload_n hx hb dX6_ducks_7 rfl (lv_at hl 3 rfl) ?_
  obtain ⟨hK_a102, h⟩ := h
  obtain ⟨hz103, h⟩ := h
  refine x_p_77 (v := x2) C hR hK_a102 hS (zb_n hz103) (zb_f hz103) q_12_23 dX6_ducks_8 (fun H locs hR hS => ?_)
  obtain ⟨S104, eS104⟩ : ∃ z : sT, z = s_sI S101 77 a102 x2 := ⟨_, rfl⟩
  rw [← eS104] at hR
  replace h := h S104 eS104
  have hK_a102 : s_K S104 a102 = 3 := by rw [eS104]; exact hK_a102
  refine lv_aload_n hx hb dX6_ducks_11 rfl (lv_at hl 0 rfl) ?_
  refine x_g_76 C hR hK_a102 q_11_7 dX6_ducks_12 ?_
  refine lv_topi (fun x105 ex105 => ?_)
  replace h := h x105 ex105
  exact W.iret (v := x105) hx hb hr (fun t ht hW => ⟨⟨x105, S104, rfl, h, x_rt ht hR⟩, hS.F ht⟩) hS.2.2 dX6_ducks_15
theorem m_X6_ducks (l : Launch) (gg : sG) (x0 : Nat) (x1 : Int32) (x2 : Int32) (S : sT) {Q : Int32 → sT → Prop} (h : w_X6_ducks x0 x1 x2 S Q) : x_Mi l gg yX6_ducks (x_ws yX6_ducks cX6_ducks 4 (some .int)) r_X6_ducks [.ref x0, .int x1, .int x2] S Q 0 0 := by
  refine x_ofW (cc := cX6_ducks) (own := RX6) (by decide +kernel) rfl (Nat.le_of_ble_eq_true rfl) ?_
  intro p e s m args below meth c C hml hr hlocks hin ht H locs ls hR hS hl
  exact t_X6_ducks_b0 C hml hr hlocks h H locs ls hR hS (lv_sub (l' := [(0, .ref x0), (1, .int x1), (2, .int x2)]) hl [0, 1, 2] rfl)
def w_X6_ripeFieldAt_b0 (x0 : Nat) (x1 : Int32) (S : sT)  (Q : Nat → sT → Prop) : Prop :=
s_K S x0 = 8 ∧
    w_X6_fieldAt x0 x1 S (fun a102 S101 =>
    s_K S101 a102 = 3 ∧
    ∃ a103 : Nat, s_R S101 69 a102 = some a103 ∧
    s_K S101 a103 = 2 ∧
    ∀ x104 : Int32, x104 = s_I S101 32 a103 →
    ((x104 = (5 : Int32) → Q a102 S101) ∧
    (¬ x104 = (5 : Int32) → False)))
def w_X6_ripeFieldAt (x0 : Nat) (x1 : Int32) (S : sT) (Q : Nat → sT → Prop) : Prop := w_X6_ripeFieldAt_b0 x0 x1 S Q
def r_X6_ripeFieldAt : Room := x_rm 4 85 0 0
theorem b_X6_ripeFieldAt : x_BV yX6_ripeFieldAt cX6_ripeFieldAt 3 (some (.object "Subakhall$Field")) 1 := ⟨q_18_18, q_18_16, q_18_17, q_1_2, by decide +kernel⟩
set_option maxHeartbeats 4000000 in
theorem t_X6_ripeFieldAt_b0 {Q : Nat → sT → Prop} (C : x_C p s m args c cX6_ripeFieldAt RX6 gg) (hml : c.maxLocals = 3) (hr : meth.sig.returnType = (some (.object "Subakhall$Field"))) (hlocks : meth.locks = false) {x0 : Nat} {x1 : Int32}  {S : sT}  (h : w_X6_ripeFieldAt_b0 x0 x1 S  Q) : x_X p l e r_X6_ripeFieldAt s m args below meth c gg 3 0 0 (MQ below (va_Qq (fun r S1 => ∃ b : Nat, r = some b ∧ Q b S1) (fun S1 t => s_Rep gg S1 t.heap) (s_A gg)) args s 0 0 (s_A gg)) 0 [(0, .ref x0), (1, .int x1)] [] S := by
  unfold w_X6_ripeFieldAt_b0 at h
  obtain ⟨hx, hb, -⟩ := id C
  intro H locs ls hR hS hl
  refine lv_aload_n hx hb dX6_ripeFieldAt_0 rfl (lv_at hl 0 rfl) ?_
  refine lv_iload_n hx hb dX6_ripeFieldAt_1 rfl (lv_at hl 1 rfl) ?_
  obtain ⟨hK_x0, h⟩ := h
  refine x_kq (x_runV (As := [.int x1]) (rest := []) C hml hR hS (m_X6_fieldAt l gg x0 x1 S h) b_X6_fieldAt q_10_12 (by rw [hK_x0]; decide) (s_E_7 hK_x0) rfl rfl rfl rfl ⟨Nat.le_of_ble_eq_true rfl, Nat.le_of_ble_eq_true rfl⟩ rfl hl.1 (Nat.le_of_ble_eq_true rfl) dX6_ripeFieldAt_2 ⟨Nat.le_refl _, Nat.le_refl _⟩) hS (fun ra102 S101 H locs hn hR hS => ?_)
  replace h := hn
  clear hn
  obtain ⟨a102, za102, h⟩ := h
  refine x_some za102 ?_
  refine lv_astore_n (lv' := [(2, .ref a102), (0, .ref x0), (1, .int x1)]) hx hb dX6_ripeFieldAt_5 rfl hl (by decide) rfl (fun ls hl => ?_)
  refine lv_aload_n hx hb dX6_ripeFieldAt_6 rfl (lv_at hl 0 rfl) ?_
  obtain ⟨hK_a102, h⟩ := h
  refine x_g_69 C hR hK_a102 q_11_2 dX6_ripeFieldAt_7 ?_
  obtain ⟨a103, ea103, h⟩ := h
  refine x_some ea103 ?_
  obtain ⟨hK_a103, h⟩ := h
  refine x_g_32 C hR hK_a103 q_11_3 dX6_ripeFieldAt_10 ?_
  refine lv_topi (fun x104 ex104 => ?_)
  replace h := h x104 ex104
  refine lv_iconst (v := 5) hx hb dX6_ripeFieldAt_13 (by decide) ?_
  refine lv_icmp_eq (tgt := 28) hx hb dX6_ripeFieldAt_14 (by decide) (fun hc105 => ?_) (fun hc105 => ?_)
  · replace h := h.1 hc105
    refine lv_aload_n hx hb dX6_ripeFieldAt_28 rfl (lv_at hl 0 rfl) ?_
    exact W.aret (v := .ref a102) hx hb hr (Or.inl ⟨_, rfl⟩) (Or.inr ⟨_, rfl⟩) (fun t ht hW => ⟨⟨some a102, S101, rfl, ⟨_, rfl, h⟩, x_rt ht hR⟩, hS.F ht⟩) hS.2.2 dX6_ripeFieldAt_29
  · replace h := h.2 hc105
    exact h.elim
theorem m_X6_ripeFieldAt (l : Launch) (gg : sG) (x0 : Nat) (x1 : Int32) (S : sT) {Q : Nat → sT → Prop} (h : w_X6_ripeFieldAt x0 x1 S Q) : x_Mq l gg yX6_ripeFieldAt (x_ws yX6_ripeFieldAt cX6_ripeFieldAt 3 (some (.object "Subakhall$Field"))) r_X6_ripeFieldAt [.ref x0, .int x1] S (fun r S1 => ∃ b : Nat, r = some b ∧ Q b S1) 0 0 := by
  refine x_ofW (cc := cX6_ripeFieldAt) (own := RX6) (by decide +kernel) rfl (Nat.le_of_ble_eq_true rfl) ?_
  intro p e s m args below meth c C hml hr hlocks hin ht H locs ls hR hS hl
  exact t_X6_ripeFieldAt_b0 C hml hr hlocks h H locs ls hR hS (lv_sub (l' := [(0, .ref x0), (1, .int x1)]) hl [0, 1] rfl)
def w_X6_harvest_b0 (x0 : Nat) (x1 : Int32) (x2 : Int32) (S : sT)  (Q : Int32 → sT → Prop) : Prop :=
s_K S x0 = 8 ∧
    w_X6_ripeFieldAt x0 x1 S (fun a102 S101 =>
    s_K S101 a102 = 3 ∧
    ∃ a103 : Nat, s_R S101 69 a102 = some a103 ∧
    s_K S101 a103 = 2 ∧
    w_X0_ripeYield a103 S101 (fun x105 S104 =>
    ∀ x106 : Int32, x106 = x105 / (10 : Int32) →
    s_K S104 a102 = 3 ∧
    ∃ a107 : Nat, s_R S104 65 a102 = some a107 ∧
    s_K S104 a107 = 7 ∧
    ∀ x108 : Int32, x108 = s_I S104 198 a107 →
    ∀ x109 : Int32, x109 = x108 + x106 →
    ∀ S110 : sT, S110 = s_sI S104 198 a107 x109 →
    ∃ a111 : Nat, s_R S110 65 a102 = some a111 ∧
    s_K S110 a111 = 7 ∧
    ∀ x112 : Int32, x112 = s_I S110 200 a111 →
    ∀ x113 : Int32, x113 = x112 + x105 →
    ∀ S114 : sT, S114 = s_sI S110 200 a111 x113 →
    ∃ a115 : Nat, s_R S114 68 a102 = some a115 ∧
    s_K S114 a115 = 6 ∧
    ∀ x116 : Int32, x116 = s_I S114 162 a115 →
    ∀ x117 : Int32, x117 = x105 - x106 →
    ∀ x118 : Int32, x118 = x116 + x117 →
    ∀ S119 : sT, S119 = s_sI S114 162 a115 x118 →
    s_K S119 x0 = 8 ∧
    ∃ a120 : Nat, s_R S119 224 x0 = some a120 ∧
    s_K S119 a120 = 4 ∧
    ∀ x121 : Int32, x121 = s_I S119 102 a120 →
    ∀ x122 : Int32, x122 = x121 + x105 →
    ∀ S123 : sT, S123 = s_sI S119 102 a120 x122 →
    w_X1_clear a102 x2 S123 (fun S124 =>
    Q x105 S124)))
def w_X6_harvest (x0 : Nat) (x1 : Int32) (x2 : Int32) (S : sT) (Q : Int32 → sT → Prop) : Prop := w_X6_harvest_b0 x0 x1 x2 S Q
def r_X6_harvest : Room := x_rm 5 107 0 0
theorem b_X6_harvest : x_BV yX6_harvest cX6_harvest 6 (some .int) 2 := ⟨q_19_11, q_19_9, q_19_10, q_1_2, by decide +kernel⟩
set_option maxHeartbeats 4000000 in
theorem t_X6_harvest_b0 {Q : Int32 → sT → Prop} (C : x_C p s m args c cX6_harvest RX6 gg) (hml : c.maxLocals = 6) (hr : meth.sig.returnType = (some .int)) (hlocks : meth.locks = false) {x0 : Nat} {x1 : Int32} {x2 : Int32}  {S : sT}  (h : w_X6_harvest_b0 x0 x1 x2 S  Q) : x_X p l e r_X6_harvest s m args below meth c gg 6 0 0 (MQ below (va_Qi Q (fun S1 t => s_Rep gg S1 t.heap) (s_A gg)) args s 0 0 (s_A gg)) 0 [(0, .ref x0), (1, .int x1), (2, .int x2)] [] S := by
  unfold w_X6_harvest_b0 at h
  obtain ⟨hx, hb, -⟩ := id C
  intro H locs ls hR hS hl
  refine lv_aload_n hx hb dX6_harvest_0 rfl (lv_at hl 0 rfl) ?_
  refine lv_iload_n hx hb dX6_harvest_1 rfl (lv_at hl 1 rfl) ?_
  obtain ⟨hK_x0, h⟩ := h
  refine x_kq (x_runV (As := [.int x1]) (rest := []) C hml hR hS (m_X6_ripeFieldAt l gg x0 x1 S h) b_X6_ripeFieldAt q_18_15 (by rw [hK_x0]; decide) (s_E_7 hK_x0) rfl rfl rfl rfl ⟨Nat.le_of_ble_eq_true rfl, Nat.le_of_ble_eq_true rfl⟩ rfl hl.1 (Nat.le_of_ble_eq_true rfl) dX6_harvest_2 ⟨Nat.le_refl _, Nat.le_refl _⟩) hS (fun ra102 S101 H locs hn hR hS => ?_)
  replace h := hn
  clear hn
  obtain ⟨a102, za102, h⟩ := h
  refine x_some za102 ?_
  refine lv_astore_n (lv' := [(3, .ref a102), (0, .ref x0), (1, .int x1), (2, .int x2)]) hx hb dX6_harvest_5 rfl hl (by decide) rfl (fun ls hl => ?_)
  refine lv_aload_n hx hb dX6_harvest_6 rfl (lv_at hl 0 rfl) ?_
  obtain ⟨hK_a102, h⟩ := h
  refine x_g_69 C hR hK_a102 q_11_2 dX6_harvest_7 ?_
  obtain ⟨a103, ea103, h⟩ := h
  refine x_some ea103 ?_
  obtain ⟨hK_a103, h⟩ := h
  refine x_ki (x_runV (As := []) (rest := []) C hml hR hS (m_X0_ripeYield l gg a103 S101 h) b_X0_ripeYield q_11_11 (by rw [hK_a103]; decide) (s_E_1 hK_a103) rfl rfl rfl rfl ⟨Nat.le_of_ble_eq_true rfl, Nat.le_of_ble_eq_true rfl⟩ rfl hl.1 (Nat.le_of_ble_eq_true rfl) dX6_harvest_10 ⟨Nat.le_refl _, Nat.le_refl _⟩) hS (fun x105 S104 H locs hn hR hS => ?_)
  replace h := hn
  clear hn
  refine lv_istore (lv' := [(4, .int x105), (3, .ref a102), (0, .ref x0), (1, .int x1), (2, .int x2)]) hx hb dX6_harvest_13 hl (by decide) rfl (fun ls hl => ?_)
  refine lv_iload hx hb dX6_harvest_15 (lv_at hl 0 rfl) ?_
  refine lv_bipush (v := 10) hx hb dX6_harvest_17 (by decide) ?_
  refine lv_idiv hx hb dX6_harvest_19 (by decide) ?_
  refine lv_topi (fun x106 ex106 => ?_)
  replace h := h x106 ex106
  refine lv_istore (lv' := [(5, .int x106), (4, .int x105), (3, .ref a102), (0, .ref x0), (1, .int x1), (2, .int x2)]) hx hb dX6_harvest_20 hl (by decide) rfl (fun ls hl => ?_)
  refine lv_aload_n hx hb dX6_harvest_22 rfl (lv_at hl 2 rfl) ?_
  obtain ⟨hK_a102, h⟩ := h
  refine x_g_65 C hR hK_a102 q_10_21 dX6_harvest_23 ?_
  obtain ⟨a107, ea107, h⟩ := h
  refine x_some ea107 ?_
  refine lv_dup hx hb dX6_harvest_26 rfl ?_
  obtain ⟨hK_a107, h⟩ := h
  refine x_g_198 C hR hK_a107 q_14_7 dX6_harvest_27 ?_
  refine lv_topi (fun x108 ex108 => ?_)
  replace h := h x108 ex108
  refine lv_iload hx hb dX6_harvest_30 (lv_at hl 0 rfl) ?_
  refine lv_iadd hx hb dX6_harvest_32 ?_
  refine lv_topi (fun x109 ex109 => ?_)
  replace h := h x109 ex109
  refine x_p_198 (v := x109) C hR hK_a107 hS q_14_7 dX6_harvest_33 (fun H locs hR hS => ?_)
  obtain ⟨S110, eS110⟩ : ∃ z : sT, z = s_sI S104 198 a107 x109 := ⟨_, rfl⟩
  rw [← eS110] at hR
  replace h := h S110 eS110
  have hK_a102 : s_K S110 a102 = 3 := by rw [eS110]; exact hK_a102
  have hK_a107 : s_K S110 a107 = 7 := by rw [eS110]; exact hK_a107
  refine lv_aload_n hx hb dX6_harvest_36 rfl (lv_at hl 2 rfl) ?_
  refine x_g_65 C hR hK_a102 q_10_21 dX6_harvest_37 ?_
  obtain ⟨a111, ea111, h⟩ := h
  refine x_some ea111 ?_
  refine lv_dup hx hb dX6_harvest_40 rfl ?_
  obtain ⟨hK_a111, h⟩ := h
  refine x_g_200 C hR hK_a111 q_13_7 dX6_harvest_41 ?_
  refine lv_topi (fun x112 ex112 => ?_)
  replace h := h x112 ex112
  refine lv_iload hx hb dX6_harvest_44 (lv_at hl 1 rfl) ?_
  refine lv_iadd hx hb dX6_harvest_46 ?_
  refine lv_topi (fun x113 ex113 => ?_)
  replace h := h x113 ex113
  refine x_p_200 (v := x113) C hR hK_a111 hS q_13_7 dX6_harvest_47 (fun H locs hR hS => ?_)
  obtain ⟨S114, eS114⟩ : ∃ z : sT, z = s_sI S110 200 a111 x113 := ⟨_, rfl⟩
  rw [← eS114] at hR
  replace h := h S114 eS114
  have hK_a102 : s_K S114 a102 = 3 := by rw [eS114]; exact hK_a102
  have hK_a107 : s_K S114 a107 = 7 := by rw [eS114]; exact hK_a107
  have hK_a111 : s_K S114 a111 = 7 := by rw [eS114]; exact hK_a111
  refine lv_aload_n hx hb dX6_harvest_50 rfl (lv_at hl 2 rfl) ?_
  refine x_g_68 C hR hK_a102 q_15_19 dX6_harvest_51 ?_
  obtain ⟨a115, ea115, h⟩ := h
  refine x_some ea115 ?_
  refine lv_dup hx hb dX6_harvest_54 rfl ?_
  obtain ⟨hK_a115, h⟩ := h
  refine x_g_162 C hR hK_a115 q_15_22 dX6_harvest_55 ?_
  refine lv_topi (fun x116 ex116 => ?_)
  replace h := h x116 ex116
  refine lv_iload hx hb dX6_harvest_58 (lv_at hl 1 rfl) ?_
  refine lv_iload hx hb dX6_harvest_60 (lv_at hl 0 rfl) ?_
  refine lv_isub hx hb dX6_harvest_62 ?_
  refine lv_topi (fun x117 ex117 => ?_)
  replace h := h x117 ex117
  refine lv_iadd hx hb dX6_harvest_63 ?_
  refine lv_topi (fun x118 ex118 => ?_)
  replace h := h x118 ex118
  refine x_p_162 (v := x118) C hR hK_a115 hS q_15_22 dX6_harvest_64 (fun H locs hR hS => ?_)
  obtain ⟨S119, eS119⟩ : ∃ z : sT, z = s_sI S114 162 a115 x118 := ⟨_, rfl⟩
  rw [← eS119] at hR
  replace h := h S119 eS119
  have hK_a102 : s_K S119 a102 = 3 := by rw [eS119]; exact hK_a102
  have hK_a107 : s_K S119 a107 = 7 := by rw [eS119]; exact hK_a107
  have hK_a111 : s_K S119 a111 = 7 := by rw [eS119]; exact hK_a111
  have hK_a115 : s_K S119 a115 = 6 := by rw [eS119]; exact hK_a115
  refine lv_aload_n hx hb dX6_harvest_67 rfl (lv_at hl 3 rfl) ?_
  obtain ⟨hK_x0, h⟩ := h
  refine x_g_224 C hR hK_x0 q_1_13 dX6_harvest_68 ?_
  obtain ⟨a120, ea120, h⟩ := h
  refine x_some ea120 ?_
  refine lv_dup hx hb dX6_harvest_71 rfl ?_
  obtain ⟨hK_a120, h⟩ := h
  refine x_g_102 C hR hK_a120 q_16_21 dX6_harvest_72 ?_
  refine lv_topi (fun x121 ex121 => ?_)
  replace h := h x121 ex121
  refine lv_iload hx hb dX6_harvest_75 (lv_at hl 1 rfl) ?_
  refine lv_iadd hx hb dX6_harvest_77 ?_
  refine lv_topi (fun x122 ex122 => ?_)
  replace h := h x122 ex122
  refine x_p_102 (v := x122) C hR hK_a120 hS q_16_21 dX6_harvest_78 (fun H locs hR hS => ?_)
  obtain ⟨S123, eS123⟩ : ∃ z : sT, z = s_sI S119 102 a120 x122 := ⟨_, rfl⟩
  rw [← eS123] at hR
  replace h := h S123 eS123
  have hK_a102 : s_K S123 a102 = 3 := by rw [eS123]; exact hK_a102
  have hK_a107 : s_K S123 a107 = 7 := by rw [eS123]; exact hK_a107
  have hK_a111 : s_K S123 a111 = 7 := by rw [eS123]; exact hK_a111
  have hK_a115 : s_K S123 a115 = 6 := by rw [eS123]; exact hK_a115
  have hK_x0 : s_K S123 x0 = 8 := by rw [eS123]; exact hK_x0
  have hK_a120 : s_K S123 a120 = 4 := by rw [eS123]; exact hK_a120
  refine lv_aload_n hx hb dX6_harvest_81 rfl (lv_at hl 2 rfl) ?_
  refine lv_iload_n hx hb dX6_harvest_82 rfl (lv_at hl 5 rfl) ?_
  refine x_kv (x_runV (As := [.int x2]) (rest := []) C hml hR hS (m_X1_clear l gg a102 x2 S123 h) b_X1_clear q_19_12 (by rw [hK_a102]; decide) (s_E_2 hK_a102) rfl rfl rfl rfl ⟨Nat.le_of_ble_eq_true rfl, Nat.le_of_ble_eq_true rfl⟩ rfl hl.1 (Nat.le_of_ble_eq_true rfl) dX6_harvest_83 ⟨Nat.le_refl _, Nat.le_refl _⟩) hS (fun S124 H locs hn hR hS => ?_)
  replace h := hn
  clear hn
  refine lv_iload hx hb dX6_harvest_86 (lv_at hl 1 rfl) ?_
  exact W.iret (v := x105) hx hb hr (fun t ht hW => ⟨⟨x105, S124, rfl, h, x_rt ht hR⟩, hS.F ht⟩) hS.2.2 dX6_harvest_88
theorem m_X6_harvest (l : Launch) (gg : sG) (x0 : Nat) (x1 : Int32) (x2 : Int32) (S : sT) {Q : Int32 → sT → Prop} (h : w_X6_harvest x0 x1 x2 S Q) : x_Mi l gg yX6_harvest (x_ws yX6_harvest cX6_harvest 6 (some .int)) r_X6_harvest [.ref x0, .int x1, .int x2] S Q 0 0 := by
  refine x_ofW (cc := cX6_harvest) (own := RX6) (by decide +kernel) rfl (Nat.le_of_ble_eq_true rfl) ?_
  intro p e s m args below meth c C hml hr hlocks hin ht H locs ls hR hS hl
  exact t_X6_harvest_b0 C hml hr hlocks h H locs ls hR hS (lv_sub (l' := [(0, .ref x0), (1, .int x1), (2, .int x2)]) hl [0, 1, 2] rfl)
def w_X6_cut_b0 (x0 : Nat) (x1 : Int32) (S : sT)  (Q : Int32 → sT → Prop) : Prop :=
s_K S x0 = 8 ∧
    w_X6_ripeFieldAt x0 x1 S (fun a102 S101 =>
    s_K S101 x0 = 8 ∧
    ∃ a103 : Nat, s_R S101 224 x0 = some a103 ∧
    s_K S101 a103 = 4 ∧
    ∀ x104 : Int32, x104 = s_I S101 99 a103 →
    ∀ x105 : Int32, x105 = (7 : Int32) * x104 →
    s_K S101 a102 = 3 ∧
    ∀ x106 : Int32, x106 = s_I S101 64 a102 →
    ∀ x107 : Int32, x107 = (13 : Int32) * x106 →
    ∀ x108 : Int32, x108 = x105 + x107 →
    ∃ a109 : Nat, s_R S101 224 x0 = some a109 ∧
    s_K S101 a109 = 4 ∧
    ∀ x110 : Int32, x110 = s_I S101 101 a109 →
    ∀ x111 : Int32, x111 = (5 : Int32) * x110 →
    ∀ x112 : Int32, x112 = x108 + x111 →
    w_J9_floorMod_7cf53 x112 (21 : Int32) S101 (fun x114 S113 =>
    s_K S113 a102 = 3 ∧
    ∃ a115 : Nat, s_R S113 69 a102 = some a115 ∧
    s_K S113 a115 = 2 ∧
    w_X0_ripeYield a115 S113 (fun x117 S116 =>
    ∀ x118 : Int32, x118 = (90 : Int32) + x114 →
    ∀ x119 : Int32, x119 = x117 * x118 →
    ∀ x120 : Int32, x120 = x119 / (100 : Int32) →
    s_K S116 a102 = 3 ∧
    ∃ a121 : Nat, s_R S116 69 a102 = some a121 ∧
    s_K S116 a121 = 2 ∧
    w_X0_learn a121 x120 S116 (fun S122 =>
    s_K S122 x0 = 8 ∧
    ∃ a123 : Nat, s_R S122 224 x0 = some a123 ∧
    s_K S122 a123 = 4 ∧
    ∀ x124 : Int32, x124 = s_I S122 101 a123 →
    ∀ x125 : Int32, x125 = x124 + (1 : Int32) →
    ∀ S126 : sT, S126 = s_sI S122 101 a123 x125 →
    Q x120 S126))))
def w_X6_cut (x0 : Nat) (x1 : Int32) (S : sT) (Q : Int32 → sT → Prop) : Prop := w_X6_cut_b0 x0 x1 S Q
def r_X6_cut : Room := x_rm 5 107 0 0
theorem b_X6_cut : x_BV yX6_cut cX6_cut 5 (some .int) 1 := ⟨q_18_14, q_18_12, q_18_13, q_1_2, by decide +kernel⟩
set_option maxHeartbeats 4000000 in
theorem t_X6_cut_b0 {Q : Int32 → sT → Prop} (C : x_C p s m args c cX6_cut RX6 gg) (hml : c.maxLocals = 5) (hr : meth.sig.returnType = (some .int)) (hlocks : meth.locks = false) {x0 : Nat} {x1 : Int32}  {S : sT}  (h : w_X6_cut_b0 x0 x1 S  Q) : x_X p l e r_X6_cut s m args below meth c gg 5 0 0 (MQ below (va_Qi Q (fun S1 t => s_Rep gg S1 t.heap) (s_A gg)) args s 0 0 (s_A gg)) 0 [(0, .ref x0), (1, .int x1)] [] S := by
  unfold w_X6_cut_b0 at h
  obtain ⟨hx, hb, -⟩ := id C
  intro H locs ls hR hS hl
  refine lv_aload_n hx hb dX6_cut_0 rfl (lv_at hl 0 rfl) ?_
  refine lv_iload_n hx hb dX6_cut_1 rfl (lv_at hl 1 rfl) ?_
  obtain ⟨hK_x0, h⟩ := h
  refine x_kq (x_runV (As := [.int x1]) (rest := []) C hml hR hS (m_X6_ripeFieldAt l gg x0 x1 S h) b_X6_ripeFieldAt q_18_15 (by rw [hK_x0]; decide) (s_E_7 hK_x0) rfl rfl rfl rfl ⟨Nat.le_of_ble_eq_true rfl, Nat.le_of_ble_eq_true rfl⟩ rfl hl.1 (Nat.le_of_ble_eq_true rfl) dX6_cut_2 ⟨Nat.le_refl _, Nat.le_refl _⟩) hS (fun ra102 S101 H locs hn hR hS => ?_)
  replace h := hn
  clear hn
  obtain ⟨a102, za102, h⟩ := h
  refine x_some za102 ?_
  refine lv_astore_n (lv' := [(2, .ref a102), (0, .ref x0), (1, .int x1)]) hx hb dX6_cut_5 rfl hl (by decide) rfl (fun ls hl => ?_)
  refine lv_bipush (v := 7) hx hb dX6_cut_6 (by decide) ?_
  refine lv_aload_n hx hb dX6_cut_8 rfl (lv_at hl 1 rfl) ?_
  obtain ⟨hK_x0, h⟩ := h
  refine x_g_224 C hR hK_x0 q_1_13 dX6_cut_9 ?_
  obtain ⟨a103, ea103, h⟩ := h
  refine x_some ea103 ?_
  obtain ⟨hK_a103, h⟩ := h
  refine x_g_99 C hR hK_a103 q_16_19 dX6_cut_12 ?_
  refine lv_topi (fun x104 ex104 => ?_)
  replace h := h x104 ex104
  refine lv_imul hx hb dX6_cut_15 ?_
  refine lv_topi (fun x105 ex105 => ?_)
  replace h := h x105 ex105
  refine lv_bipush (v := 13) hx hb dX6_cut_16 (by decide) ?_
  refine lv_aload_n hx hb dX6_cut_18 rfl (lv_at hl 0 rfl) ?_
  obtain ⟨hK_a102, h⟩ := h
  refine x_g_64 C hR hK_a102 q_15_14 dX6_cut_19 ?_
  refine lv_topi (fun x106 ex106 => ?_)
  replace h := h x106 ex106
  refine lv_imul hx hb dX6_cut_22 ?_
  refine lv_topi (fun x107 ex107 => ?_)
  replace h := h x107 ex107
  refine lv_iadd hx hb dX6_cut_23 ?_
  refine lv_topi (fun x108 ex108 => ?_)
  replace h := h x108 ex108
  refine lv_iconst (v := 5) hx hb dX6_cut_24 (by decide) ?_
  refine lv_aload_n hx hb dX6_cut_25 rfl (lv_at hl 1 rfl) ?_
  refine x_g_224 C hR hK_x0 q_1_13 dX6_cut_26 ?_
  obtain ⟨a109, ea109, h⟩ := h
  refine x_some ea109 ?_
  obtain ⟨hK_a109, h⟩ := h
  refine x_g_101 C hR hK_a109 q_16_20 dX6_cut_29 ?_
  refine lv_topi (fun x110 ex110 => ?_)
  replace h := h x110 ex110
  refine lv_imul hx hb dX6_cut_32 ?_
  refine lv_topi (fun x111 ex111 => ?_)
  replace h := h x111 ex111
  refine lv_iadd hx hb dX6_cut_33 ?_
  refine lv_topi (fun x112 ex112 => ?_)
  replace h := h x112 ex112
  refine lv_bipush (v := 21) hx hb dX6_cut_34 (by decide) ?_
  refine x_ki (x_runS (As := [.int x112, .int (21 : Int32)]) (rest := []) C hml hR hS (m_J9_floorMod_7cf53 l gg x112 (21 : Int32) S101 h) b_J9_floorMod_7cf53 q_18_19 rfl rfl ⟨Nat.le_of_ble_eq_true rfl, Nat.le_of_ble_eq_true rfl⟩ rfl hl.1 (Nat.le_of_ble_eq_true rfl) dX6_cut_36 ⟨Nat.le_refl _, Nat.le_refl _⟩) hS (fun x114 S113 H locs hn hR hS => ?_)
  replace h := hn
  clear hn
  refine lv_istore_n (lv' := [(3, .int x114), (2, .ref a102), (0, .ref x0), (1, .int x1)]) hx hb dX6_cut_39 rfl hl (by decide) rfl (fun ls hl => ?_)
  refine lv_aload_n hx hb dX6_cut_40 rfl (lv_at hl 1 rfl) ?_
  obtain ⟨hK_a102, h⟩ := h
  refine x_g_69 C hR hK_a102 q_11_2 dX6_cut_41 ?_
  obtain ⟨a115, ea115, h⟩ := h
  refine x_some ea115 ?_
  obtain ⟨hK_a115, h⟩ := h
  refine x_ki (x_runV (As := []) (rest := []) C hml hR hS (m_X0_ripeYield l gg a115 S113 h) b_X0_ripeYield q_11_11 (by rw [hK_a115]; decide) (s_E_1 hK_a115) rfl rfl rfl rfl ⟨Nat.le_of_ble_eq_true rfl, Nat.le_of_ble_eq_true rfl⟩ rfl hl.1 (Nat.le_of_ble_eq_true rfl) dX6_cut_44 ⟨Nat.le_refl _, Nat.le_refl _⟩) hS (fun x117 S116 H locs hn hR hS => ?_)
  replace h := hn
  clear hn
  refine lv_bipush (v := 90) hx hb dX6_cut_47 (by decide) ?_
  refine lv_iload_n hx hb dX6_cut_49 rfl (lv_at hl 0 rfl) ?_
  refine lv_iadd hx hb dX6_cut_50 ?_
  refine lv_topi (fun x118 ex118 => ?_)
  replace h := h x118 ex118
  refine lv_imul hx hb dX6_cut_51 ?_
  refine lv_topi (fun x119 ex119 => ?_)
  replace h := h x119 ex119
  refine lv_bipush (v := 100) hx hb dX6_cut_52 (by decide) ?_
  refine lv_idiv hx hb dX6_cut_54 (by decide) ?_
  refine lv_topi (fun x120 ex120 => ?_)
  replace h := h x120 ex120
  refine lv_istore (lv' := [(4, .int x120), (3, .int x114), (2, .ref a102), (0, .ref x0), (1, .int x1)]) hx hb dX6_cut_55 hl (by decide) rfl (fun ls hl => ?_)
  refine lv_aload_n hx hb dX6_cut_57 rfl (lv_at hl 2 rfl) ?_
  obtain ⟨hK_a102, h⟩ := h
  refine x_g_69 C hR hK_a102 q_11_2 dX6_cut_58 ?_
  obtain ⟨a121, ea121, h⟩ := h
  refine x_some ea121 ?_
  refine lv_iload hx hb dX6_cut_61 (lv_at hl 0 rfl) ?_
  obtain ⟨hK_a121, h⟩ := h
  refine x_kv (x_runV (As := [.int x120]) (rest := []) C hml hR hS (m_X0_learn l gg a121 x120 S116 h) b_X0_learn q_18_20 (by rw [hK_a121]; decide) (s_E_1 hK_a121) rfl rfl rfl rfl ⟨Nat.le_of_ble_eq_true rfl, Nat.le_of_ble_eq_true rfl⟩ rfl hl.1 (Nat.le_of_ble_eq_true rfl) dX6_cut_63 ⟨Nat.le_refl _, Nat.le_refl _⟩) hS (fun S122 H locs hn hR hS => ?_)
  replace h := hn
  clear hn
  refine lv_aload_n hx hb dX6_cut_66 rfl (lv_at hl 3 rfl) ?_
  obtain ⟨hK_x0, h⟩ := h
  refine x_g_224 C hR hK_x0 q_1_13 dX6_cut_67 ?_
  obtain ⟨a123, ea123, h⟩ := h
  refine x_some ea123 ?_
  refine lv_dup hx hb dX6_cut_70 rfl ?_
  obtain ⟨hK_a123, h⟩ := h
  refine x_g_101 C hR hK_a123 q_16_20 dX6_cut_71 ?_
  refine lv_topi (fun x124 ex124 => ?_)
  replace h := h x124 ex124
  refine lv_iconst (v := 1) hx hb dX6_cut_74 (by decide) ?_
  refine lv_iadd hx hb dX6_cut_75 ?_
  refine lv_topi (fun x125 ex125 => ?_)
  replace h := h x125 ex125
  refine x_p_101 (v := x125) C hR hK_a123 hS q_16_20 dX6_cut_76 (fun H locs hR hS => ?_)
  obtain ⟨S126, eS126⟩ : ∃ z : sT, z = s_sI S122 101 a123 x125 := ⟨_, rfl⟩
  rw [← eS126] at hR
  replace h := h S126 eS126
  have hK_x0 : s_K S126 x0 = 8 := by rw [eS126]; exact hK_x0
  have hK_a123 : s_K S126 a123 = 4 := by rw [eS126]; exact hK_a123
  refine lv_iload hx hb dX6_cut_79 (lv_at hl 0 rfl) ?_
  exact W.iret (v := x120) hx hb hr (fun t ht hW => ⟨⟨x120, S126, rfl, h, x_rt ht hR⟩, hS.F ht⟩) hS.2.2 dX6_cut_81
theorem m_X6_cut (l : Launch) (gg : sG) (x0 : Nat) (x1 : Int32) (S : sT) {Q : Int32 → sT → Prop} (h : w_X6_cut x0 x1 S Q) : x_Mi l gg yX6_cut (x_ws yX6_cut cX6_cut 5 (some .int)) r_X6_cut [.ref x0, .int x1] S Q 0 0 := by
  refine x_ofW (cc := cX6_cut) (own := RX6) (by decide +kernel) rfl (Nat.le_of_ble_eq_true rfl) ?_
  intro p e s m args below meth c C hml hr hlocks hin ht H locs ls hR hS hl
  exact t_X6_cut_b0 C hml hr hlocks h H locs ls hR hS (lv_sub (l' := [(0, .ref x0), (1, .int x1)]) hl [0, 1] rfl)
def w_X6_day_b31  (S : sT)  (Q : Int32 → sT → Prop) : Prop :=
False
def w_X6_day_b0 (x0 : Nat) (x1 : Int32) (x2 : Int32) (x3 : Int32) (S : sT)  (Q : Int32 → sT → Prop) : Prop :=
w_X6_isWithin x1 (0 : Int32) (200 : Int32) S (fun x102 S101 =>
    ((x102 = 0 → w_X6_day_b31  S101  Q) ∧
    (¬ x102 = 0 → w_X6_isWithin x2 (0 : Int32) (40 : Int32) S101 (fun x105 S104 =>
    ((x105 = 0 → w_X6_day_b31  S104  Q) ∧
    (¬ x105 = 0 → w_X6_isWithin x3 (0 : Int32) (30 : Int32) S104 (fun x108 S107 =>
    ((¬ x108 = 0 → s_K S107 x0 = 8 ∧
    ∃ a110 : Nat, s_R S107 224 x0 = some a110 ∧
    s_K S107 a110 = 4 ∧
    w_X2_passDay a110 x1 x2 x3 S107 (fun S111 =>
    s_K S111 x0 = 8 ∧
    ∃ a112 : Nat, s_R S111 224 x0 = some a112 ∧
    s_K S111 a112 = 4 ∧
    ∀ x113 : Int32, x113 = s_I S111 99 a112 →
    Q x113 S111)) ∧
    (x108 = 0 → w_X6_day_b31  S107  Q)))))))))
def w_X6_day (x0 : Nat) (x1 : Int32) (x2 : Int32) (x3 : Int32) (S : sT) (Q : Int32 → sT → Prop) : Prop := w_X6_day_b0 x0 x1 x2 x3 S Q
def r_X6_day : Room := x_rm 6 139 0 0
theorem b_X6_day : x_BV yX6_day cX6_day 4 (some .int) 3 := ⟨q_20_2, q_20_0, q_20_1, q_1_2, by decide +kernel⟩
set_option maxHeartbeats 4000000 in
theorem t_X6_day_b31 {Q : Int32 → sT → Prop} (C : x_C p s m args c cX6_day RX6 gg) (hml : c.maxLocals = 4) (hr : meth.sig.returnType = (some .int)) (hlocks : meth.locks = false)   {S : sT}  (h : w_X6_day_b31  S  Q) : x_X p l e r_X6_day s m args below meth c gg 4 0 0 (MQ below (va_Qi Q (fun S1 t => s_Rep gg S1 t.heap) (s_A gg)) args s 0 0 (s_A gg)) 31 [] [] S := by
  unfold w_X6_day_b31 at h
  obtain ⟨hx, hb, -⟩ := id C
  intro H locs ls hR hS hl
  exact h.elim
set_option maxHeartbeats 4000000 in
theorem t_X6_day_b0 {Q : Int32 → sT → Prop} (C : x_C p s m args c cX6_day RX6 gg) (hml : c.maxLocals = 4) (hr : meth.sig.returnType = (some .int)) (hlocks : meth.locks = false) {x0 : Nat} {x1 : Int32} {x2 : Int32} {x3 : Int32}  {S : sT}  (h : w_X6_day_b0 x0 x1 x2 x3 S  Q) : x_X p l e r_X6_day s m args below meth c gg 4 0 0 (MQ below (va_Qi Q (fun S1 t => s_Rep gg S1 t.heap) (s_A gg)) args s 0 0 (s_A gg)) 0 [(0, .ref x0), (1, .int x1), (2, .int x2), (3, .int x3)] [] S := by
  unfold w_X6_day_b0 at h
  obtain ⟨hx, hb, -⟩ := id C
  intro H locs ls hR hS hl
  refine lv_iload_n hx hb dX6_day_0 rfl (lv_at hl 1 rfl) ?_
  refine lv_iconst (v := 0) hx hb dX6_day_1 (by decide) ?_
  refine lv_sipush (v := 200) hx hb dX6_day_2 (by decide) ?_
  refine x_ki (x_runS (As := [.int x1, .int (0 : Int32), .int (200 : Int32)]) (rest := []) C hml hR hS (m_X6_isWithin l gg x1 (0 : Int32) (200 : Int32) S h) b_X6_isWithin q_3_15 rfl rfl ⟨Nat.le_of_ble_eq_true rfl, Nat.le_of_ble_eq_true rfl⟩ rfl hl.1 (Nat.le_of_ble_eq_true rfl) dX6_day_5 ⟨Nat.le_refl _, Nat.le_refl _⟩) hS (fun x102 S101 H locs hn hR hS => ?_)
  replace h := hn
  clear hn
  refine lv_if_eq (tgt := 31) hx hb dX6_day_8 (by decide) (fun hc103 => ?_) (fun hc103 => ?_)
  · replace h := h.1 hc103
    exact t_X6_day_b31 C hml hr hlocks  h H locs ls hR hS (lv_sub (l' := []) hl [] rfl)
  · replace h := h.2 hc103
    refine lv_iload_n hx hb dX6_day_11 rfl (lv_at hl 2 rfl) ?_
    refine lv_iconst (v := 0) hx hb dX6_day_12 (by decide) ?_
    refine lv_bipush (v := 40) hx hb dX6_day_13 (by decide) ?_
    refine x_ki (x_runS (As := [.int x2, .int (0 : Int32), .int (40 : Int32)]) (rest := []) C hml hR hS (m_X6_isWithin l gg x2 (0 : Int32) (40 : Int32) S101 h) b_X6_isWithin q_3_15 rfl rfl ⟨Nat.le_of_ble_eq_true rfl, Nat.le_of_ble_eq_true rfl⟩ rfl hl.1 (Nat.le_of_ble_eq_true rfl) dX6_day_15 ⟨Nat.le_refl _, Nat.le_refl _⟩) hS (fun x105 S104 H locs hn hR hS => ?_)
    replace h := hn
    clear hn
    refine lv_if_eq (tgt := 31) hx hb dX6_day_18 (by decide) (fun hc106 => ?_) (fun hc106 => ?_)
    · replace h := h.1 hc106
      exact t_X6_day_b31 C hml hr hlocks  h H locs ls hR hS (lv_sub (l' := []) hl [] rfl)
    · replace h := h.2 hc106
      refine lv_iload_n hx hb dX6_day_21 rfl (lv_at hl 3 rfl) ?_
      refine lv_iconst (v := 0) hx hb dX6_day_22 (by decide) ?_
      refine lv_bipush (v := 30) hx hb dX6_day_23 (by decide) ?_
      refine x_ki (x_runS (As := [.int x3, .int (0 : Int32), .int (30 : Int32)]) (rest := []) C hml hR hS (m_X6_isWithin l gg x3 (0 : Int32) (30 : Int32) S104 h) b_X6_isWithin q_3_15 rfl rfl ⟨Nat.le_of_ble_eq_true rfl, Nat.le_of_ble_eq_true rfl⟩ rfl hl.1 (Nat.le_of_ble_eq_true rfl) dX6_day_25 ⟨Nat.le_refl _, Nat.le_refl _⟩) hS (fun x108 S107 H locs hn hR hS => ?_)
      replace h := hn
      clear hn
      refine lv_if_ne (tgt := 41) hx hb dX6_day_28 (by decide) (fun hc109 => ?_) (fun hc109 => ?_)
      · replace h := h.1 hc109
        refine lv_aload_n hx hb dX6_day_41 rfl (lv_at hl 0 rfl) ?_
        obtain ⟨hK_x0, h⟩ := h
        refine x_g_224 C hR hK_x0 q_1_13 dX6_day_42 ?_
        obtain ⟨a110, ea110, h⟩ := h
        refine x_some ea110 ?_
        refine lv_iload_n hx hb dX6_day_45 rfl (lv_at hl 1 rfl) ?_
        refine lv_iload_n hx hb dX6_day_46 rfl (lv_at hl 2 rfl) ?_
        refine lv_iload_n hx hb dX6_day_47 rfl (lv_at hl 3 rfl) ?_
        obtain ⟨hK_a110, h⟩ := h
        refine x_kv (x_runV (As := [.int x1, .int x2, .int x3]) (rest := []) C hml hR hS (m_X2_passDay l gg a110 x1 x2 x3 S107 h) b_X2_passDay q_20_3 (by rw [hK_a110]; decide) (s_E_3 hK_a110) rfl rfl rfl rfl ⟨Nat.le_of_ble_eq_true rfl, Nat.le_of_ble_eq_true rfl⟩ rfl hl.1 (Nat.le_of_ble_eq_true rfl) dX6_day_48 ⟨Nat.le_refl _, Nat.le_refl _⟩) hS (fun S111 H locs hn hR hS => ?_)
        replace h := hn
        clear hn
        refine lv_aload_n hx hb dX6_day_51 rfl (lv_at hl 0 rfl) ?_
        obtain ⟨hK_x0, h⟩ := h
        refine x_g_224 C hR hK_x0 q_1_13 dX6_day_52 ?_
        obtain ⟨a112, ea112, h⟩ := h
        refine x_some ea112 ?_
        obtain ⟨hK_a112, h⟩ := h
        refine x_g_99 C hR hK_a112 q_16_19 dX6_day_55 ?_
        refine lv_topi (fun x113 ex113 => ?_)
        replace h := h x113 ex113
        exact W.iret (v := x113) hx hb hr (fun t ht hW => ⟨⟨x113, S111, rfl, h, x_rt ht hR⟩, hS.F ht⟩) hS.2.2 dX6_day_58
      · replace h := h.2 hc109
        exact t_X6_day_b31 C hml hr hlocks  h H locs ls hR hS (lv_sub (l' := []) hl [] rfl)
theorem m_X6_day (l : Launch) (gg : sG) (x0 : Nat) (x1 : Int32) (x2 : Int32) (x3 : Int32) (S : sT) {Q : Int32 → sT → Prop} (h : w_X6_day x0 x1 x2 x3 S Q) : x_Mi l gg yX6_day (x_ws yX6_day cX6_day 4 (some .int)) r_X6_day [.ref x0, .int x1, .int x2, .int x3] S Q 0 0 := by
  refine x_ofW (cc := cX6_day) (own := RX6) (by decide +kernel) rfl (Nat.le_of_ble_eq_true rfl) ?_
  intro p e s m args below meth c C hml hr hlocks hin ht H locs ls hR hS hl
  exact t_X6_day_b0 C hml hr hlocks h H locs ls hR hS (lv_sub (l' := [(0, .ref x0), (1, .int x1), (2, .int x2), (3, .int x3)]) hl [0, 1, 2, 3] rfl)
def w_X6_inspect_b0 (x0 : Nat) (x1 : Int32) (S : sT)  (Q : Int32 → sT → Prop) : Prop :=
s_K S x0 = 8 ∧
    w_X6_societyAt x0 x1 S (fun a102 S101 =>
    s_K S101 a102 = 7 ∧
    w_X5_fineStones a102 S101 (fun x104 S103 =>
    Q x104 S103))
def w_X6_inspect (x0 : Nat) (x1 : Int32) (S : sT) (Q : Int32 → sT → Prop) : Prop := w_X6_inspect_b0 x0 x1 S Q
def r_X6_inspect : Room := x_rm 4 88 0 0
theorem b_X6_inspect : x_BV yX6_inspect cX6_inspect 2 (some .int) 1 := ⟨q_12_10, q_12_8, q_12_9, q_1_2, by decide +kernel⟩
set_option maxHeartbeats 4000000 in
theorem t_X6_inspect_b0 {Q : Int32 → sT → Prop} (C : x_C p s m args c cX6_inspect RX6 gg) (hml : c.maxLocals = 2) (hr : meth.sig.returnType = (some .int)) (hlocks : meth.locks = false) {x0 : Nat} {x1 : Int32}  {S : sT}  (h : w_X6_inspect_b0 x0 x1 S  Q) : x_X p l e r_X6_inspect s m args below meth c gg 2 0 0 (MQ below (va_Qi Q (fun S1 t => s_Rep gg S1 t.heap) (s_A gg)) args s 0 0 (s_A gg)) 0 [(0, .ref x0), (1, .int x1)] [] S := by
  unfold w_X6_inspect_b0 at h
  obtain ⟨hx, hb, -⟩ := id C
  intro H locs ls hR hS hl
  refine lv_aload_n hx hb dX6_inspect_0 rfl (lv_at hl 0 rfl) ?_
  refine lv_iload_n hx hb dX6_inspect_1 rfl (lv_at hl 1 rfl) ?_
  obtain ⟨hK_x0, h⟩ := h
  refine x_kq (x_runV (As := [.int x1]) (rest := []) C hml hR hS (m_X6_societyAt l gg x0 x1 S h) b_X6_societyAt q_7_6 (by rw [hK_x0]; decide) (s_E_7 hK_x0) rfl rfl rfl rfl ⟨Nat.le_of_ble_eq_true rfl, Nat.le_of_ble_eq_true rfl⟩ rfl hl.1 (Nat.le_of_ble_eq_true rfl) dX6_inspect_2 ⟨Nat.le_refl _, Nat.le_refl _⟩) hS (fun ra102 S101 H locs hn hR hS => ?_)
  replace h := hn
  clear hn
  obtain ⟨a102, za102, h⟩ := h
  refine x_some za102 ?_
  obtain ⟨hK_a102, h⟩ := h
  refine x_ki (x_runV (As := []) (rest := []) C hml hR hS (m_X5_fineStones l gg a102 S101 h) b_X5_fineStones q_12_11 (by rw [hK_a102]; decide) (s_E_6 hK_a102) rfl rfl rfl rfl ⟨Nat.le_of_ble_eq_true rfl, Nat.le_of_ble_eq_true rfl⟩ rfl hl.1 (Nat.le_of_ble_eq_true rfl) dX6_inspect_5 ⟨Nat.le_refl _, Nat.le_refl _⟩) hS (fun x104 S103 H locs hn hR hS => ?_)
  replace h := hn
  clear hn
  exact W.iret (v := x104) hx hb hr (fun t ht hW => ⟨⟨x104, S103, rfl, h, x_rt ht hR⟩, hS.F ht⟩) hS.2.2 dX6_inspect_8
theorem m_X6_inspect (l : Launch) (gg : sG) (x0 : Nat) (x1 : Int32) (S : sT) {Q : Int32 → sT → Prop} (h : w_X6_inspect x0 x1 S Q) : x_Mi l gg yX6_inspect (x_ws yX6_inspect cX6_inspect 2 (some .int)) r_X6_inspect [.ref x0, .int x1] S Q 0 0 := by
  refine x_ofW (cc := cX6_inspect) (own := RX6) (by decide +kernel) rfl (Nat.le_of_ble_eq_true rfl) ?_
  intro p e s m args below meth c C hml hr hlocks hin ht H locs ls hR hS hl
  exact t_X6_inspect_b0 C hml hr hlocks h H locs ls hR hS (lv_sub (l' := [(0, .ref x0), (1, .int x1)]) hl [0, 1] rfl)
def w_X6_sell_b0 (x0 : Nat) (x1 : Int32) (x2 : Int32) (S : sT)  (Q : Int32 → sT → Prop) : Prop :=
s_K S x0 = 8 ∧
    w_X6_fieldAt x0 x1 S (fun a102 S101 =>
    s_K S101 a102 = 3 ∧
    ∃ a103 : Nat, s_R S101 68 a102 = some a103 ∧
    (((1 : Int32) ≤ x2 → s_K S101 a103 = 6 ∧
    ∀ x105 : Int32, x105 = s_I S101 162 a103 →
    ((x2 ≤ x105 → ∀ x107 : Int32, x107 = s_I S101 162 a103 →
    ∀ x108 : Int32, x108 = x107 - x2 →
    ∀ S109 : sT, S109 = s_sI S101 162 a103 x108 →
    ∀ x110 : Int32, x110 = s_I S109 160 a103 →
    ∀ x111 : Int32, x111 = x110 + x2 →
    ∀ S112 : sT, S112 = s_sI S109 160 a103 x111 →
    ∀ x113 : Int32, x113 = s_I S112 160 a103 →
    Q x113 S112) ∧
    (¬ x2 ≤ x105 → False))) ∧
    (¬ (1 : Int32) ≤ x2 → False)))
def w_X6_sell (x0 : Nat) (x1 : Int32) (x2 : Int32) (S : sT) (Q : Int32 → sT → Prop) : Prop := w_X6_sell_b0 x0 x1 x2 S Q
def r_X6_sell : Room := x_rm 4 85 0 0
theorem b_X6_sell : x_BV yX6_sell cX6_sell 4 (some .int) 2 := ⟨q_16_6, q_16_4, q_16_5, q_1_2, by decide +kernel⟩
set_option maxHeartbeats 4000000 in
theorem t_X6_sell_b0 {Q : Int32 → sT → Prop} (C : x_C p s m args c cX6_sell RX6 gg) (hml : c.maxLocals = 4) (hr : meth.sig.returnType = (some .int)) (hlocks : meth.locks = false) {x0 : Nat} {x1 : Int32} {x2 : Int32}  {S : sT}  (h : w_X6_sell_b0 x0 x1 x2 S  Q) : x_X p l e r_X6_sell s m args below meth c gg 4 0 0 (MQ below (va_Qi Q (fun S1 t => s_Rep gg S1 t.heap) (s_A gg)) args s 0 0 (s_A gg)) 0 [(0, .ref x0), (1, .int x1), (2, .int x2)] [] S := by
  unfold w_X6_sell_b0 at h
  obtain ⟨hx, hb, -⟩ := id C
  intro H locs ls hR hS hl
  refine lv_aload_n hx hb dX6_sell_0 rfl (lv_at hl 0 rfl) ?_
  refine lv_iload_n hx hb dX6_sell_1 rfl (lv_at hl 1 rfl) ?_
  obtain ⟨hK_x0, h⟩ := h
  refine x_kq (x_runV (As := [.int x1]) (rest := []) C hml hR hS (m_X6_fieldAt l gg x0 x1 S h) b_X6_fieldAt q_10_12 (by rw [hK_x0]; decide) (s_E_7 hK_x0) rfl rfl rfl rfl ⟨Nat.le_of_ble_eq_true rfl, Nat.le_of_ble_eq_true rfl⟩ rfl hl.1 (Nat.le_of_ble_eq_true rfl) dX6_sell_2 ⟨Nat.le_refl _, Nat.le_refl _⟩) hS (fun ra102 S101 H locs hn hR hS => ?_)
  replace h := hn
  clear hn
  obtain ⟨a102, za102, h⟩ := h
  refine x_some za102 ?_
  obtain ⟨hK_a102, h⟩ := h
  refine x_g_68 C hR hK_a102 q_15_19 dX6_sell_5 ?_
  obtain ⟨a103, ea103, h⟩ := h
  refine x_some ea103 ?_
  refine lv_astore_n (lv' := [(3, .ref a103), (0, .ref x0), (1, .int x1), (2, .int x2)]) hx hb dX6_sell_8 rfl hl (by decide) rfl (fun ls hl => ?_)
  refine lv_iload_n hx hb dX6_sell_9 rfl (lv_at hl 3 rfl) ?_
  refine lv_iconst (v := 1) hx hb dX6_sell_10 (by decide) ?_
  refine lv_icmp_ge (tgt := 24) hx hb dX6_sell_11 (by decide) (fun hc104 => ?_) (fun hc104 => ?_)
  · replace h := h.1 hc104
    refine lv_aload_n hx hb dX6_sell_24 rfl (lv_at hl 0 rfl) ?_
    obtain ⟨hK_a103, h⟩ := h
    refine x_g_162 C hR hK_a103 q_15_22 dX6_sell_25 ?_
    refine lv_topi (fun x105 ex105 => ?_)
    replace h := h x105 ex105
    refine lv_iload_n hx hb dX6_sell_28 rfl (lv_at hl 3 rfl) ?_
    refine lv_icmp_ge (tgt := 42) hx hb dX6_sell_29 (by decide) (fun hc106 => ?_) (fun hc106 => ?_)
    · replace h := h.1 hc106
      refine lv_aload_n hx hb dX6_sell_42 rfl (lv_at hl 0 rfl) ?_
      refine lv_dup hx hb dX6_sell_43 rfl ?_
      refine x_g_162 C hR hK_a103 q_15_22 dX6_sell_44 ?_
      refine lv_topi (fun x107 ex107 => ?_)
      replace h := h x107 ex107
      refine lv_iload_n hx hb dX6_sell_47 rfl (lv_at hl 3 rfl) ?_
      refine lv_isub hx hb dX6_sell_48 ?_
      refine lv_topi (fun x108 ex108 => ?_)
      replace h := h x108 ex108
      refine x_p_162 (v := x108) C hR hK_a103 hS q_15_22 dX6_sell_49 (fun H locs hR hS => ?_)
      obtain ⟨S109, eS109⟩ : ∃ z : sT, z = s_sI S101 162 a103 x108 := ⟨_, rfl⟩
      rw [← eS109] at hR
      replace h := h S109 eS109
      have hK_a102 : s_K S109 a102 = 3 := by rw [eS109]; exact hK_a102
      have hK_a103 : s_K S109 a103 = 6 := by rw [eS109]; exact hK_a103
      refine lv_aload_n hx hb dX6_sell_52 rfl (lv_at hl 0 rfl) ?_
      refine lv_dup hx hb dX6_sell_53 rfl ?_
      refine x_g_160 C hR hK_a103 q_15_20 dX6_sell_54 ?_
      refine lv_topi (fun x110 ex110 => ?_)
      replace h := h x110 ex110
      refine lv_iload_n hx hb dX6_sell_57 rfl (lv_at hl 3 rfl) ?_
      refine lv_iadd hx hb dX6_sell_58 ?_
      refine lv_topi (fun x111 ex111 => ?_)
      replace h := h x111 ex111
      refine x_p_160 (v := x111) C hR hK_a103 hS q_15_20 dX6_sell_59 (fun H locs hR hS => ?_)
      obtain ⟨S112, eS112⟩ : ∃ z : sT, z = s_sI S109 160 a103 x111 := ⟨_, rfl⟩
      rw [← eS112] at hR
      replace h := h S112 eS112
      have hK_a102 : s_K S112 a102 = 3 := by rw [eS112]; exact hK_a102
      have hK_a103 : s_K S112 a103 = 6 := by rw [eS112]; exact hK_a103
      refine lv_aload_n hx hb dX6_sell_62 rfl (lv_at hl 0 rfl) ?_
      refine x_g_160 C hR hK_a103 q_15_20 dX6_sell_63 ?_
      refine lv_topi (fun x113 ex113 => ?_)
      replace h := h x113 ex113
      exact W.iret (v := x113) hx hb hr (fun t ht hW => ⟨⟨x113, S112, rfl, h, x_rt ht hR⟩, hS.F ht⟩) hS.2.2 dX6_sell_66
    · replace h := h.2 hc106
      exact h.elim
  · replace h := h.2 hc104
    exact h.elim
theorem m_X6_sell (l : Launch) (gg : sG) (x0 : Nat) (x1 : Int32) (x2 : Int32) (S : sT) {Q : Int32 → sT → Prop} (h : w_X6_sell x0 x1 x2 S Q) : x_Mi l gg yX6_sell (x_ws yX6_sell cX6_sell 4 (some .int)) r_X6_sell [.ref x0, .int x1, .int x2] S Q 0 0 := by
  refine x_ofW (cc := cX6_sell) (own := RX6) (by decide +kernel) rfl (Nat.le_of_ble_eq_true rfl) ?_
  intro p e s m args below meth c C hml hr hlocks hin ht H locs ls hR hS hl
  exact t_X6_sell_b0 C hml hr hlocks h H locs ls hR hS (lv_sub (l' := [(0, .ref x0), (1, .int x1), (2, .int x2)]) hl [0, 1, 2] rfl)
def w_X6_vote_b56 (x2 : Nat) (x4 : Int32) (S : sT)  (Q : Int32 → sT → Prop) : Prop :=
s_K S x2 = 7 ∧
    ∀ S101 : sT, S101 = s_sI S 200 x2 (0 : Int32) →
    Q x4 S101
def w_X6_vote_b0 (x0 : Nat) (x1 : Int32) (S : sT)  (Q : Int32 → sT → Prop) : Prop :=
s_K S x0 = 8 ∧
    w_X6_societyAt x0 x1 S (fun a102 S101 =>
    s_K S101 x0 = 8 ∧
    ∃ a103 : Nat, s_R S101 224 x0 = some a103 ∧
    s_K S101 a103 = 4 ∧
    w_X2_modelOf a103 x1 S101 (fun r105 S104 =>
    s_K S104 a102 = 7 ∧
    w_X5_countYes a102 r105 S104 (fun x107 S106 =>
    ((r105 = none → w_X6_vote_b56 a102 x107 S106  Q) ∧
    (∀ a108 : Nat, r105 = some a108 → ∀ x110 : Int32, x110 = (2 : Int32) * x107 →
    s_K S106 a102 = 7 ∧
    ∃ a111 : Nat, s_R S106 195 a102 = some a111 ∧
    s_K S106 a111 = 1 ∧
    w_Jx4a65c_size_8abf5 a111 S106 (fun x113 S112 =>
    ((x110 ≤ x113 → w_X6_vote_b56 a102 x107 S112  Q) ∧
    (¬ x110 ≤ x113 → s_K S112 a108 = 7 ∧
    ∀ x115 : Int32, x115 = s_I S112 196 a108 →
    s_K S112 a102 = 7 ∧
    ∀ S116 : sT, S116 = s_sI S112 196 a102 x115 →
    ∀ x117 : Int32, x117 = s_I S116 197 a108 →
    ∀ S118 : sT, S118 = s_sI S116 197 a102 x117 →
    w_X6_vote_b56 a102 x107 S118  Q))))))))
def w_X6_vote (x0 : Nat) (x1 : Int32) (S : sT) (Q : Int32 → sT → Prop) : Prop := w_X6_vote_b0 x0 x1 S Q
def r_X6_vote : Room := x_rm 5 108 0 0
theorem b_X6_vote : x_BV yX6_vote cX6_vote 5 (some .int) 1 := ⟨q_13_3, q_13_1, q_13_2, q_1_2, by decide +kernel⟩
set_option maxHeartbeats 4000000 in
theorem t_X6_vote_b56 {Q : Int32 → sT → Prop} (C : x_C p s m args c cX6_vote RX6 gg) (hml : c.maxLocals = 5) (hr : meth.sig.returnType = (some .int)) (hlocks : meth.locks = false) {x2 : Nat} {x4 : Int32}  {S : sT}  (h : w_X6_vote_b56 x2 x4 S  Q) : x_X p l e r_X6_vote s m args below meth c gg 5 0 0 (MQ below (va_Qi Q (fun S1 t => s_Rep gg S1 t.heap) (s_A gg)) args s 0 0 (s_A gg)) 56 [(2, .ref x2), (4, .int x4)] [] S := by
  unfold w_X6_vote_b56 at h
  obtain ⟨hx, hb, -⟩ := id C
  intro H locs ls hR hS hl
  refine lv_aload_n hx hb dX6_vote_56 rfl (lv_at hl 0 rfl) ?_
  refine lv_iconst (v := 0) hx hb dX6_vote_57 (by decide) ?_
  obtain ⟨hK_x2, h⟩ := h
  refine x_p_200 (v := (0 : Int32)) C hR hK_x2 hS q_13_7 dX6_vote_58 (fun H locs hR hS => ?_)
  obtain ⟨S101, eS101⟩ : ∃ z : sT, z = s_sI S 200 x2 (0 : Int32) := ⟨_, rfl⟩
  rw [← eS101] at hR
  replace h := h S101 eS101
  have hK_x2 : s_K S101 x2 = 7 := by rw [eS101]; exact hK_x2
  refine lv_iload hx hb dX6_vote_61 (lv_at hl 1 rfl) ?_
  exact W.iret (v := x4) hx hb hr (fun t ht hW => ⟨⟨x4, S101, rfl, h, x_rt ht hR⟩, hS.F ht⟩) hS.2.2 dX6_vote_63
set_option maxHeartbeats 4000000 in
theorem t_X6_vote_b0 {Q : Int32 → sT → Prop} (C : x_C p s m args c cX6_vote RX6 gg) (hml : c.maxLocals = 5) (hr : meth.sig.returnType = (some .int)) (hlocks : meth.locks = false) {x0 : Nat} {x1 : Int32}  {S : sT}  (h : w_X6_vote_b0 x0 x1 S  Q) : x_X p l e r_X6_vote s m args below meth c gg 5 0 0 (MQ below (va_Qi Q (fun S1 t => s_Rep gg S1 t.heap) (s_A gg)) args s 0 0 (s_A gg)) 0 [(0, .ref x0), (1, .int x1)] [] S := by
  unfold w_X6_vote_b0 at h
  obtain ⟨hx, hb, -⟩ := id C
  intro H locs ls hR hS hl
  refine lv_aload_n hx hb dX6_vote_0 rfl (lv_at hl 0 rfl) ?_
  refine lv_iload_n hx hb dX6_vote_1 rfl (lv_at hl 1 rfl) ?_
  obtain ⟨hK_x0, h⟩ := h
  refine x_kq (x_runV (As := [.int x1]) (rest := []) C hml hR hS (m_X6_societyAt l gg x0 x1 S h) b_X6_societyAt q_7_6 (by rw [hK_x0]; decide) (s_E_7 hK_x0) rfl rfl rfl rfl ⟨Nat.le_of_ble_eq_true rfl, Nat.le_of_ble_eq_true rfl⟩ rfl hl.1 (Nat.le_of_ble_eq_true rfl) dX6_vote_2 ⟨Nat.le_refl _, Nat.le_refl _⟩) hS (fun ra102 S101 H locs hn hR hS => ?_)
  replace h := hn
  clear hn
  obtain ⟨a102, za102, h⟩ := h
  refine x_some za102 ?_
  refine lv_astore_n (lv' := [(2, .ref a102), (0, .ref x0), (1, .int x1)]) hx hb dX6_vote_5 rfl hl (by decide) rfl (fun ls hl => ?_)
  refine lv_aload_n hx hb dX6_vote_6 rfl (lv_at hl 1 rfl) ?_
  obtain ⟨hK_x0, h⟩ := h
  refine x_g_224 C hR hK_x0 q_1_13 dX6_vote_7 ?_
  obtain ⟨a103, ea103, h⟩ := h
  refine x_some ea103 ?_
  refine lv_iload_n hx hb dX6_vote_10 rfl (lv_at hl 2 rfl) ?_
  obtain ⟨hK_a103, h⟩ := h
  refine x_kq (x_runV (As := [.int x1]) (rest := []) C hml hR hS (m_X2_modelOf l gg a103 x1 S101 h) b_X2_modelOf q_13_8 (by rw [hK_a103]; decide) (s_E_3 hK_a103) rfl rfl rfl rfl ⟨Nat.le_of_ble_eq_true rfl, Nat.le_of_ble_eq_true rfl⟩ rfl hl.1 (Nat.le_of_ble_eq_true rfl) dX6_vote_11 ⟨Nat.le_refl _, Nat.le_refl _⟩) hS (fun r105 S104 H locs hn hR hS => ?_)
  replace h := hn
  clear hn
  refine x_astore_n (lv' := [(3, va_rf r105), (2, .ref a102), (0, .ref x0), (1, .int x1)]) hx hb dX6_vote_14 rfl hl (by decide) (by cases r105 <;> rfl) (fun ls hl => ?_)
  refine lv_aload_n hx hb dX6_vote_15 rfl (lv_at hl 1 rfl) ?_
  refine x_aload_n hx hb dX6_vote_16 rfl (lv_at hl 0 rfl) ?_
  obtain ⟨hK_a102, h⟩ := h
  refine x_ki (x_runV (As := [va_rf r105]) (rest := []) C hml hR hS (m_X5_countYes l gg a102 r105 S104 h) b_X5_countYes q_13_21 (by rw [hK_a102]; decide) (s_E_6 hK_a102) rfl rfl rfl rfl ⟨Nat.le_of_ble_eq_true rfl, Nat.le_of_ble_eq_true rfl⟩ rfl hl.1 (Nat.le_of_ble_eq_true rfl) dX6_vote_17 ⟨Nat.le_refl _, Nat.le_refl _⟩) hS (fun x107 S106 H locs hn hR hS => ?_)
  replace h := hn
  clear hn
  refine lv_istore (lv' := [(4, .int x107), (3, va_rf r105), (2, .ref a102), (0, .ref x0), (1, .int x1)]) hx hb dX6_vote_20 hl (by decide) (by cases r105 <;> rfl) (fun ls hl => ?_)
  refine x_aload_n hx hb dX6_vote_22 rfl (lv_at hl 1 rfl) ?_
  refine x_ifnull (tgt := 56) hx hb dX6_vote_23 (by decide) (fun hc109 => ?_) (fun a108 hc109 => ?_)
  · replace h := h.1 hc109
    have z2 : va_rf r105 = Value.null := by rw [hc109]; rfl
    rw [show va_rf r105 = va_rf none from z2] at hl
    exact t_X6_vote_b56 C hml hr hlocks  h H locs ls hR hS (lv_sub (l' := [(2, .ref a102), (4, .int x107)]) hl [2, 0] rfl)
  · replace h := h.2 a108 hc109
    have z2 : va_rf r105 = Value.ref a108 := by rw [hc109]; rfl
    rw [z2] at hl
    refine lv_iconst (v := 2) hx hb dX6_vote_26 (by decide) ?_
    refine lv_iload hx hb dX6_vote_27 (lv_at hl 0 rfl) ?_
    refine lv_imul hx hb dX6_vote_29 ?_
    refine lv_topi (fun x110 ex110 => ?_)
    replace h := h x110 ex110
    refine lv_aload_n hx hb dX6_vote_30 rfl (lv_at hl 2 rfl) ?_
    obtain ⟨hK_a102, h⟩ := h
    refine x_g_195 C hR hK_a102 q_13_4 dX6_vote_31 ?_
    obtain ⟨a111, ea111, h⟩ := h
    refine x_some ea111 ?_
    obtain ⟨hK_a111, h⟩ := h
    refine x_ki (x_runV (As := []) (rest := [.int x110]) C hml hR hS (m_Jx4a65c_size_8abf5 l gg a111 S106 h) b_Jx4a65c_size_8abf5 q_3_18 (by rw [hK_a111]; decide) (s_E_0 hK_a111) rfl rfl rfl rfl ⟨Nat.le_of_ble_eq_true rfl, Nat.le_of_ble_eq_true rfl⟩ rfl hl.1 (Nat.le_of_ble_eq_true rfl) dX6_vote_34 ⟨Nat.le_refl _, Nat.le_refl _⟩) hS (fun x113 S112 H locs hn hR hS => ?_)
    replace h := hn
    clear hn
    refine lv_icmp_le (tgt := 56) hx hb dX6_vote_37 (by decide) (fun hc114 => ?_) (fun hc114 => ?_)
    · replace h := h.1 hc114
      exact t_X6_vote_b56 C hml hr hlocks  h H locs ls hR hS (lv_sub (l' := [(2, .ref a102), (4, .int x107)]) hl [2, 0] rfl)
    · replace h := h.2 hc114
      refine lv_aload_n hx hb dX6_vote_40 rfl (lv_at hl 2 rfl) ?_
      refine lv_aload_n hx hb dX6_vote_41 rfl (lv_at hl 1 rfl) ?_
      obtain ⟨hK_a108, h⟩ := h
      refine x_g_196 C hR hK_a108 q_13_5 dX6_vote_42 ?_
      refine lv_topi (fun x115 ex115 => ?_)
      replace h := h x115 ex115
      obtain ⟨hK_a102, h⟩ := h
      refine x_p_196 (v := x115) C hR hK_a102 hS q_13_5 dX6_vote_45 (fun H locs hR hS => ?_)
      obtain ⟨S116, eS116⟩ : ∃ z : sT, z = s_sI S112 196 a102 x115 := ⟨_, rfl⟩
      rw [← eS116] at hR
      replace h := h S116 eS116
      have hK_a108 : s_K S116 a108 = 7 := by rw [eS116]; exact hK_a108
      have hK_a102 : s_K S116 a102 = 7 := by rw [eS116]; exact hK_a102
      refine lv_aload_n hx hb dX6_vote_48 rfl (lv_at hl 2 rfl) ?_
      refine lv_aload_n hx hb dX6_vote_49 rfl (lv_at hl 1 rfl) ?_
      refine x_g_197 C hR hK_a108 q_13_6 dX6_vote_50 ?_
      refine lv_topi (fun x117 ex117 => ?_)
      replace h := h x117 ex117
      refine x_p_197 (v := x117) C hR hK_a102 hS q_13_6 dX6_vote_53 (fun H locs hR hS => ?_)
      obtain ⟨S118, eS118⟩ : ∃ z : sT, z = s_sI S116 197 a102 x117 := ⟨_, rfl⟩
      rw [← eS118] at hR
      replace h := h S118 eS118
      have hK_a108 : s_K S118 a108 = 7 := by rw [eS118]; exact hK_a108
      have hK_a102 : s_K S118 a102 = 7 := by rw [eS118]; exact hK_a102
      exact t_X6_vote_b56 C hml hr hlocks  h H locs ls hR hS (lv_sub (l' := [(2, .ref a102), (4, .int x107)]) hl [2, 0] rfl)
theorem m_X6_vote (l : Launch) (gg : sG) (x0 : Nat) (x1 : Int32) (S : sT) {Q : Int32 → sT → Prop} (h : w_X6_vote x0 x1 S Q) : x_Mi l gg yX6_vote (x_ws yX6_vote cX6_vote 5 (some .int)) r_X6_vote [.ref x0, .int x1] S Q 0 0 := by
  refine x_ofW (cc := cX6_vote) (own := RX6) (by decide +kernel) rfl (Nat.le_of_ble_eq_true rfl) ?_
  intro p e s m args below meth c C hml hr hlocks hin ht H locs ls hR hS hl
  exact t_X6_vote_b0 C hml hr hlocks h H locs ls hR hS (lv_sub (l' := [(0, .ref x0), (1, .int x1)]) hl [0, 1] rfl)
def w_X6_ofField_b0 (x0 : Nat) (x1 : Int32) (x2 : Int32) (S : sT)  (Q : Int32 → sT → Prop) : Prop :=
s_K S x0 = 8 ∧
    w_X6_fieldAt x0 x1 S (fun a102 S101 =>
    ((x2 = 0 → s_K S101 a102 = 3 ∧
    ∃ a104 : Nat, s_R S101 65 a102 = some a104 ∧
    s_K S101 a104 = 7 ∧
    ∀ x105 : Int32, x105 = s_I S101 192 a104 →
    Q x105 S101) ∧
    (x2 = 1 → s_K S101 a102 = 3 ∧
    ∀ x107 : Int32, x107 = s_I S101 73 a102 →
    Q x107 S101) ∧
    (x2 = 2 → s_K S101 a102 = 3 ∧
    ∀ x109 : Int32, x109 = s_I S101 74 a102 →
    Q x109 S101) ∧
    (x2 = 3 → s_K S101 a102 = 3 ∧
    ∀ x111 : Int32, x111 = s_I S101 75 a102 →
    Q x111 S101) ∧
    (x2 = 4 → s_K S101 a102 = 3 ∧
    ∃ a113 : Nat, s_R S101 69 a102 = some a113 ∧
    s_K S101 a113 = 2 ∧
    ∀ x114 : Int32, x114 = s_I S101 32 a113 →
    Q x114 S101) ∧
    (x2 = 5 → s_K S101 a102 = 3 ∧
    ∃ a116 : Nat, s_R S101 69 a102 = some a116 ∧
    s_K S101 a116 = 2 ∧
    ∀ x117 : Int32, x117 = s_I S101 33 a116 →
    Q x117 S101) ∧
    (x2 = 6 → s_K S101 a102 = 3 ∧
    ∃ a119 : Nat, s_R S101 69 a102 = some a119 ∧
    s_K S101 a119 = 2 ∧
    ∀ x120 : Int32, x120 = s_I S101 34 a119 →
    Q x120 S101) ∧
    (x2 = 7 → s_K S101 a102 = 3 ∧
    ∃ a122 : Nat, s_R S101 69 a102 = some a122 ∧
    s_K S101 a122 = 2 ∧
    ∀ x123 : Int32, x123 = s_I S101 35 a122 →
    Q x123 S101) ∧
    (x2 = 8 → s_K S101 a102 = 3 ∧
    ∀ x125 : Int32, x125 = s_I S101 76 a102 →
    Q x125 S101) ∧
    (x2 = 9 → s_K S101 a102 = 3 ∧
    ∃ a127 : Nat, s_R S101 69 a102 = some a127 ∧
    s_K S101 a127 = 2 ∧
    ∀ x128 : Int32, x128 = s_I S101 36 a127 →
    Q x128 S101) ∧
    (x2 = 10 → s_K S101 a102 = 3 ∧
    ∃ a130 : Nat, s_R S101 69 a102 = some a130 ∧
    s_K S101 a130 = 2 ∧
    w_X0_ripeYield a130 S101 (fun x132 S131 =>
    Q x132 S131)) ∧
    (x2 = 11 → s_K S101 a102 = 3 ∧
    ∃ a134 : Nat, s_R S101 69 a102 = some a134 ∧
    s_K S101 a134 = 2 ∧
    ∀ x135 : Int32, x135 = s_I S101 37 a134 →
    Q x135 S101) ∧
    (x2 = 12 → s_K S101 a102 = 3 ∧
    ∀ x137 : Int32, x137 = s_I S101 78 a102 →
    Q x137 S101) ∧
    (x2 = 13 → s_K S101 a102 = 3 ∧
    ∀ x139 : Int32, x139 = s_I S101 72 a102 →
    w_X6_oneIf x139 S101 (fun x141 S140 =>
    Q x141 S140)) ∧
    ((¬ x2 = 0 ∧ ¬ x2 = 1 ∧ ¬ x2 = 2 ∧ ¬ x2 = 3 ∧ ¬ x2 = 4 ∧ ¬ x2 = 5 ∧ ¬ x2 = 6 ∧ ¬ x2 = 7 ∧ ¬ x2 = 8 ∧ ¬ x2 = 9 ∧ ¬ x2 = 10 ∧ ¬ x2 = 11 ∧ ¬ x2 = 12 ∧ ¬ x2 = 13) → False)))
def w_X6_ofField (x0 : Nat) (x1 : Int32) (x2 : Int32) (S : sT) (Q : Int32 → sT → Prop) : Prop := w_X6_ofField_b0 x0 x1 x2 S Q
def r_X6_ofField : Room := x_rm 4 85 0 0
theorem b_X6_ofField : x_BV yX6_ofField cX6_ofField 4 (some .int) 2 := ⟨q_10_20, q_10_18, q_10_19, q_1_2, by decide +kernel⟩
set_option maxHeartbeats 4000000 in
theorem t_X6_ofField_b0 {Q : Int32 → sT → Prop} (C : x_C p s m args c cX6_ofField RX6 gg) (hml : c.maxLocals = 4) (hr : meth.sig.returnType = (some .int)) (hlocks : meth.locks = false) {x0 : Nat} {x1 : Int32} {x2 : Int32}  {S : sT}  (h : w_X6_ofField_b0 x0 x1 x2 S  Q) : x_X p l e r_X6_ofField s m args below meth c gg 4 0 0 (MQ below (va_Qi Q (fun S1 t => s_Rep gg S1 t.heap) (s_A gg)) args s 0 0 (s_A gg)) 0 [(0, .ref x0), (1, .int x1), (2, .int x2)] [] S := by
  unfold w_X6_ofField_b0 at h
  obtain ⟨hx, hb, -⟩ := id C
  intro H locs ls hR hS hl
  refine lv_aload_n hx hb dX6_ofField_0 rfl (lv_at hl 0 rfl) ?_
  refine lv_iload_n hx hb dX6_ofField_1 rfl (lv_at hl 1 rfl) ?_
  obtain ⟨hK_x0, h⟩ := h
  refine x_kq (x_runV (As := [.int x1]) (rest := []) C hml hR hS (m_X6_fieldAt l gg x0 x1 S h) b_X6_fieldAt q_10_12 (by rw [hK_x0]; decide) (s_E_7 hK_x0) rfl rfl rfl rfl ⟨Nat.le_of_ble_eq_true rfl, Nat.le_of_ble_eq_true rfl⟩ rfl hl.1 (Nat.le_of_ble_eq_true rfl) dX6_ofField_2 ⟨Nat.le_refl _, Nat.le_refl _⟩) hS (fun ra102 S101 H locs hn hR hS => ?_)
  replace h := hn
  clear hn
  obtain ⟨a102, za102, h⟩ := h
  refine x_some za102 ?_
  refine lv_astore_n (lv' := [(3, .ref a102), (0, .ref x0), (1, .int x1), (2, .int x2)]) hx hb dX6_ofField_5 rfl hl (by decide) rfl (fun ls hl => ?_)
  refine lv_iload_n hx hb dX6_ofField_6 rfl (lv_at hl 3 rfl) ?_
  by_cases hc103 : x2 = 0
  · have h := h.1 hc103
    refine lv_tableIn (off := 69) (tgt := 76) hx hb dX6_ofField_7 (by rw [hc103]; decide) (by rw [hc103]; decide) (by rw [hc103]; rfl) (by decide) ?_
    refine lv_aload_n hx hb dX6_ofField_76 rfl (lv_at hl 0 rfl) ?_
    obtain ⟨hK_a102, h⟩ := h
    refine x_g_65 C hR hK_a102 q_10_21 dX6_ofField_77 ?_
    obtain ⟨a104, ea104, h⟩ := h
    refine x_some ea104 ?_
    obtain ⟨hK_a104, h⟩ := h
    refine x_g_192 C hR hK_a104 q_10_22 dX6_ofField_80 ?_
    refine lv_topi (fun x105 ex105 => ?_)
    replace h := h x105 ex105
    exact W.iret (v := x105) hx hb hr (fun t ht hW => ⟨⟨x105, S101, rfl, h, x_rt ht hR⟩, hS.F ht⟩) hS.2.2 dX6_ofField_83
  · by_cases hc106 : x2 = 1
    · have h := h.2.1 hc106
      refine lv_tableIn (off := 77) (tgt := 84) hx hb dX6_ofField_7 (by rw [hc106]; decide) (by rw [hc106]; decide) (by rw [hc106]; rfl) (by decide) ?_
      refine lv_aload_n hx hb dX6_ofField_84 rfl (lv_at hl 0 rfl) ?_
      obtain ⟨hK_a102, h⟩ := h
      refine x_g_73 C hR hK_a102 q_10_23 dX6_ofField_85 ?_
      refine lv_topi (fun x107 ex107 => ?_)
      replace h := h x107 ex107
      exact W.iret (v := x107) hx hb hr (fun t ht hW => ⟨⟨x107, S101, rfl, h, x_rt ht hR⟩, hS.F ht⟩) hS.2.2 dX6_ofField_88
    · by_cases hc108 : x2 = 2
      · have h := h.2.2.1 hc108
        refine lv_tableIn (off := 82) (tgt := 89) hx hb dX6_ofField_7 (by rw [hc108]; decide) (by rw [hc108]; decide) (by rw [hc108]; rfl) (by decide) ?_
        refine lv_aload_n hx hb dX6_ofField_89 rfl (lv_at hl 0 rfl) ?_
        obtain ⟨hK_a102, h⟩ := h
        refine x_g_74 C hR hK_a102 q_11_0 dX6_ofField_90 ?_
        refine lv_topi (fun x109 ex109 => ?_)
        replace h := h x109 ex109
        exact W.iret (v := x109) hx hb hr (fun t ht hW => ⟨⟨x109, S101, rfl, h, x_rt ht hR⟩, hS.F ht⟩) hS.2.2 dX6_ofField_93
      · by_cases hc110 : x2 = 3
        · have h := h.2.2.2.1 hc110
          refine lv_tableIn (off := 87) (tgt := 94) hx hb dX6_ofField_7 (by rw [hc110]; decide) (by rw [hc110]; decide) (by rw [hc110]; rfl) (by decide) ?_
          refine lv_aload_n hx hb dX6_ofField_94 rfl (lv_at hl 0 rfl) ?_
          obtain ⟨hK_a102, h⟩ := h
          refine x_g_75 C hR hK_a102 q_11_1 dX6_ofField_95 ?_
          refine lv_topi (fun x111 ex111 => ?_)
          replace h := h x111 ex111
          exact W.iret (v := x111) hx hb hr (fun t ht hW => ⟨⟨x111, S101, rfl, h, x_rt ht hR⟩, hS.F ht⟩) hS.2.2 dX6_ofField_98
        · by_cases hc112 : x2 = 4
          · have h := h.2.2.2.2.1 hc112
            refine lv_tableIn (off := 92) (tgt := 99) hx hb dX6_ofField_7 (by rw [hc112]; decide) (by rw [hc112]; decide) (by rw [hc112]; rfl) (by decide) ?_
            refine lv_aload_n hx hb dX6_ofField_99 rfl (lv_at hl 0 rfl) ?_
            obtain ⟨hK_a102, h⟩ := h
            refine x_g_69 C hR hK_a102 q_11_2 dX6_ofField_100 ?_
            obtain ⟨a113, ea113, h⟩ := h
            refine x_some ea113 ?_
            obtain ⟨hK_a113, h⟩ := h
            refine x_g_32 C hR hK_a113 q_11_3 dX6_ofField_103 ?_
            refine lv_topi (fun x114 ex114 => ?_)
            replace h := h x114 ex114
            exact W.iret (v := x114) hx hb hr (fun t ht hW => ⟨⟨x114, S101, rfl, h, x_rt ht hR⟩, hS.F ht⟩) hS.2.2 dX6_ofField_106
          · by_cases hc115 : x2 = 5
            · have h := h.2.2.2.2.2.1 hc115
              refine lv_tableIn (off := 100) (tgt := 107) hx hb dX6_ofField_7 (by rw [hc115]; decide) (by rw [hc115]; decide) (by rw [hc115]; rfl) (by decide) ?_
              refine lv_aload_n hx hb dX6_ofField_107 rfl (lv_at hl 0 rfl) ?_
              obtain ⟨hK_a102, h⟩ := h
              refine x_g_69 C hR hK_a102 q_11_2 dX6_ofField_108 ?_
              obtain ⟨a116, ea116, h⟩ := h
              refine x_some ea116 ?_
              obtain ⟨hK_a116, h⟩ := h
              refine x_g_33 C hR hK_a116 q_11_4 dX6_ofField_111 ?_
              refine lv_topi (fun x117 ex117 => ?_)
              replace h := h x117 ex117
              exact W.iret (v := x117) hx hb hr (fun t ht hW => ⟨⟨x117, S101, rfl, h, x_rt ht hR⟩, hS.F ht⟩) hS.2.2 dX6_ofField_114
            · by_cases hc118 : x2 = 6
              · have h := h.2.2.2.2.2.2.1 hc118
                refine lv_tableIn (off := 108) (tgt := 115) hx hb dX6_ofField_7 (by rw [hc118]; decide) (by rw [hc118]; decide) (by rw [hc118]; rfl) (by decide) ?_
                refine lv_aload_n hx hb dX6_ofField_115 rfl (lv_at hl 0 rfl) ?_
                obtain ⟨hK_a102, h⟩ := h
                refine x_g_69 C hR hK_a102 q_11_2 dX6_ofField_116 ?_
                obtain ⟨a119, ea119, h⟩ := h
                refine x_some ea119 ?_
                obtain ⟨hK_a119, h⟩ := h
                refine x_g_34 C hR hK_a119 q_11_5 dX6_ofField_119 ?_
                refine lv_topi (fun x120 ex120 => ?_)
                replace h := h x120 ex120
                exact W.iret (v := x120) hx hb hr (fun t ht hW => ⟨⟨x120, S101, rfl, h, x_rt ht hR⟩, hS.F ht⟩) hS.2.2 dX6_ofField_122
              · by_cases hc121 : x2 = 7
                · have h := h.2.2.2.2.2.2.2.1 hc121
                  refine lv_tableIn (off := 116) (tgt := 123) hx hb dX6_ofField_7 (by rw [hc121]; decide) (by rw [hc121]; decide) (by rw [hc121]; rfl) (by decide) ?_
                  refine lv_aload_n hx hb dX6_ofField_123 rfl (lv_at hl 0 rfl) ?_
                  obtain ⟨hK_a102, h⟩ := h
                  refine x_g_69 C hR hK_a102 q_11_2 dX6_ofField_124 ?_
                  obtain ⟨a122, ea122, h⟩ := h
                  refine x_some ea122 ?_
                  obtain ⟨hK_a122, h⟩ := h
                  refine x_g_35 C hR hK_a122 q_11_6 dX6_ofField_127 ?_
                  refine lv_topi (fun x123 ex123 => ?_)
                  replace h := h x123 ex123
                  exact W.iret (v := x123) hx hb hr (fun t ht hW => ⟨⟨x123, S101, rfl, h, x_rt ht hR⟩, hS.F ht⟩) hS.2.2 dX6_ofField_130
                · by_cases hc124 : x2 = 8
                  · have h := h.2.2.2.2.2.2.2.2.1 hc124
                    refine lv_tableIn (off := 124) (tgt := 131) hx hb dX6_ofField_7 (by rw [hc124]; decide) (by rw [hc124]; decide) (by rw [hc124]; rfl) (by decide) ?_
                    refine lv_aload_n hx hb dX6_ofField_131 rfl (lv_at hl 0 rfl) ?_
                    obtain ⟨hK_a102, h⟩ := h
                    refine x_g_76 C hR hK_a102 q_11_7 dX6_ofField_132 ?_
                    refine lv_topi (fun x125 ex125 => ?_)
                    replace h := h x125 ex125
                    exact W.iret (v := x125) hx hb hr (fun t ht hW => ⟨⟨x125, S101, rfl, h, x_rt ht hR⟩, hS.F ht⟩) hS.2.2 dX6_ofField_135
                  · by_cases hc126 : x2 = 9
                    · have h := h.2.2.2.2.2.2.2.2.2.1 hc126
                      refine lv_tableIn (off := 129) (tgt := 136) hx hb dX6_ofField_7 (by rw [hc126]; decide) (by rw [hc126]; decide) (by rw [hc126]; rfl) (by decide) ?_
                      refine lv_aload_n hx hb dX6_ofField_136 rfl (lv_at hl 0 rfl) ?_
                      obtain ⟨hK_a102, h⟩ := h
                      refine x_g_69 C hR hK_a102 q_11_2 dX6_ofField_137 ?_
                      obtain ⟨a127, ea127, h⟩ := h
                      refine x_some ea127 ?_
                      obtain ⟨hK_a127, h⟩ := h
                      refine x_g_36 C hR hK_a127 q_11_8 dX6_ofField_140 ?_
                      refine lv_topi (fun x128 ex128 => ?_)
                      replace h := h x128 ex128
                      exact W.iret (v := x128) hx hb hr (fun t ht hW => ⟨⟨x128, S101, rfl, h, x_rt ht hR⟩, hS.F ht⟩) hS.2.2 dX6_ofField_143
                    · by_cases hc129 : x2 = 10
                      · have h := h.2.2.2.2.2.2.2.2.2.2.1 hc129
                        refine lv_tableIn (off := 137) (tgt := 144) hx hb dX6_ofField_7 (by rw [hc129]; decide) (by rw [hc129]; decide) (by rw [hc129]; rfl) (by decide) ?_
                        refine lv_aload_n hx hb dX6_ofField_144 rfl (lv_at hl 0 rfl) ?_
                        obtain ⟨hK_a102, h⟩ := h
                        refine x_g_69 C hR hK_a102 q_11_2 dX6_ofField_145 ?_
                        obtain ⟨a130, ea130, h⟩ := h
                        refine x_some ea130 ?_
                        obtain ⟨hK_a130, h⟩ := h
                        refine x_ki (x_runV (As := []) (rest := []) C hml hR hS (m_X0_ripeYield l gg a130 S101 h) b_X0_ripeYield q_11_11 (by rw [hK_a130]; decide) (s_E_1 hK_a130) rfl rfl rfl rfl ⟨Nat.le_of_ble_eq_true rfl, Nat.le_of_ble_eq_true rfl⟩ rfl hl.1 (Nat.le_of_ble_eq_true rfl) dX6_ofField_148 ⟨Nat.le_refl _, Nat.le_refl _⟩) hS (fun x132 S131 H locs hn hR hS => ?_)
                        replace h := hn
                        clear hn
                        exact W.iret (v := x132) hx hb hr (fun t ht hW => ⟨⟨x132, S131, rfl, h, x_rt ht hR⟩, hS.F ht⟩) hS.2.2 dX6_ofField_151
                      · by_cases hc133 : x2 = 11
                        · have h := h.2.2.2.2.2.2.2.2.2.2.2.1 hc133
                          refine lv_tableIn (off := 145) (tgt := 152) hx hb dX6_ofField_7 (by rw [hc133]; decide) (by rw [hc133]; decide) (by rw [hc133]; rfl) (by decide) ?_
                          refine lv_aload_n hx hb dX6_ofField_152 rfl (lv_at hl 0 rfl) ?_
                          obtain ⟨hK_a102, h⟩ := h
                          refine x_g_69 C hR hK_a102 q_11_2 dX6_ofField_153 ?_
                          obtain ⟨a134, ea134, h⟩ := h
                          refine x_some ea134 ?_
                          obtain ⟨hK_a134, h⟩ := h
                          refine x_g_37 C hR hK_a134 q_11_9 dX6_ofField_156 ?_
                          refine lv_topi (fun x135 ex135 => ?_)
                          replace h := h x135 ex135
                          exact W.iret (v := x135) hx hb hr (fun t ht hW => ⟨⟨x135, S101, rfl, h, x_rt ht hR⟩, hS.F ht⟩) hS.2.2 dX6_ofField_159
                        · by_cases hc136 : x2 = 12
                          · have h := h.2.2.2.2.2.2.2.2.2.2.2.2.1 hc136
                            refine lv_tableIn (off := 153) (tgt := 160) hx hb dX6_ofField_7 (by rw [hc136]; decide) (by rw [hc136]; decide) (by rw [hc136]; rfl) (by decide) ?_
                            refine lv_aload_n hx hb dX6_ofField_160 rfl (lv_at hl 0 rfl) ?_
                            obtain ⟨hK_a102, h⟩ := h
                            refine x_g_78 C hR hK_a102 q_11_10 dX6_ofField_161 ?_
                            refine lv_topi (fun x137 ex137 => ?_)
                            replace h := h x137 ex137
                            exact W.iret (v := x137) hx hb hr (fun t ht hW => ⟨⟨x137, S101, rfl, h, x_rt ht hR⟩, hS.F ht⟩) hS.2.2 dX6_ofField_164
                          · by_cases hc138 : x2 = 13
                            · have h := h.2.2.2.2.2.2.2.2.2.2.2.2.2.1 hc138
                              refine lv_tableIn (off := 158) (tgt := 165) hx hb dX6_ofField_7 (by rw [hc138]; decide) (by rw [hc138]; decide) (by rw [hc138]; rfl) (by decide) ?_
                              refine lv_aload_n hx hb dX6_ofField_165 rfl (lv_at hl 0 rfl) ?_
                              obtain ⟨hK_a102, h⟩ := h
                              refine x_g_72 C hR hK_a102 q_10_11 dX6_ofField_166 ?_
                              refine lv_topi (fun x139 ex139 => ?_)
                              replace h := h x139 ex139
                              refine x_ki (x_runS (As := [.int x139]) (rest := []) C hml hR hS (m_X6_oneIf l gg x139 S101 h) b_X6_oneIf q_11_18 rfl rfl ⟨Nat.le_of_ble_eq_true rfl, Nat.le_of_ble_eq_true rfl⟩ rfl hl.1 (Nat.le_of_ble_eq_true rfl) dX6_ofField_169 ⟨Nat.le_refl _, Nat.le_refl _⟩) hS (fun x141 S140 H locs hn hR hS => ?_)
                              replace h := hn
                              clear hn
                              exact W.iret (v := x141) hx hb hr (fun t ht hW => ⟨⟨x141, S140, rfl, h, x_rt ht hR⟩, hS.F ht⟩) hS.2.2 dX6_ofField_172
                            · have h := h.2.2.2.2.2.2.2.2.2.2.2.2.2.2 ⟨hc103, hc106, hc108, hc110, hc112, hc115, hc118, hc121, hc124, hc126, hc129, hc133, hc136, hc138⟩
                              refine lv_tableOut (tgt := 173) hx hb dX6_ofField_7 (x_tout 0 13 (fun q1 q2 => ?_)) (by decide) ?_
                              · rcases (show x2.toInt = 0 ∨ x2.toInt = 1 ∨ x2.toInt = 2 ∨ x2.toInt = 3 ∨ x2.toInt = 4 ∨ x2.toInt = 5 ∨ x2.toInt = 6 ∨ x2.toInt = 7 ∨ x2.toInt = 8 ∨ x2.toInt = 9 ∨ x2.toInt = 10 ∨ x2.toInt = 11 ∨ x2.toInt = 12 ∨ x2.toInt = 13 by omega) with z | z | z | z | z | z | z | z | z | z | z | z | z | z
                                · exact hc103 (x_ti z (by decide))
                                · exact hc106 (x_ti z (by decide))
                                · exact hc108 (x_ti z (by decide))
                                · exact hc110 (x_ti z (by decide))
                                · exact hc112 (x_ti z (by decide))
                                · exact hc115 (x_ti z (by decide))
                                · exact hc118 (x_ti z (by decide))
                                · exact hc121 (x_ti z (by decide))
                                · exact hc124 (x_ti z (by decide))
                                · exact hc126 (x_ti z (by decide))
                                · exact hc129 (x_ti z (by decide))
                                · exact hc133 (x_ti z (by decide))
                                · exact hc136 (x_ti z (by decide))
                                · exact hc138 (x_ti z (by decide))
                              exact h.elim
theorem m_X6_ofField (l : Launch) (gg : sG) (x0 : Nat) (x1 : Int32) (x2 : Int32) (S : sT) {Q : Int32 → sT → Prop} (h : w_X6_ofField x0 x1 x2 S Q) : x_Mi l gg yX6_ofField (x_ws yX6_ofField cX6_ofField 4 (some .int)) r_X6_ofField [.ref x0, .int x1, .int x2] S Q 0 0 := by
  refine x_ofW (cc := cX6_ofField) (own := RX6) (by decide +kernel) rfl (Nat.le_of_ble_eq_true rfl) ?_
  intro p e s m args below meth c C hml hr hlocks hin ht H locs ls hR hS hl
  exact t_X6_ofField_b0 C hml hr hlocks h H locs ls hR hS (lv_sub (l' := [(0, .ref x0), (1, .int x1), (2, .int x2)]) hl [0, 1, 2] rfl)
def w_X6_ofOwner_b0 (x0 : Nat) (x1 : Int32) (x2 : Int32) (S : sT)  (Q : Int32 → sT → Prop) : Prop :=
s_K S x0 = 8 ∧
    w_X6_fieldAt x0 x1 S (fun a102 S101 =>
    s_K S101 a102 = 3 ∧
    ∃ a103 : Nat, s_R S101 68 a102 = some a103 ∧
    ((x2 = 0 → s_K S101 a103 = 6 ∧
    ∀ x105 : Int32, x105 = s_I S101 160 a103 →
    Q x105 S101) ∧
    (x2 = 1 → s_K S101 a103 = 6 ∧
    ∀ x107 : Int32, x107 = s_I S101 161 a103 →
    Q x107 S101) ∧
    (x2 = 2 → s_K S101 a103 = 6 ∧
    ∀ x109 : Int32, x109 = s_I S101 162 a103 →
    Q x109 S101) ∧
    (x2 = 3 → s_K S101 a103 = 6 ∧
    w_X4_isExcluded a103 S101 (fun x112 S111 =>
    w_X6_oneIf x112 S111 (fun x114 S113 =>
    Q x114 S113))) ∧
    ((¬ x2 = 0 ∧ ¬ x2 = 1 ∧ ¬ x2 = 2 ∧ ¬ x2 = 3) → False)))
def w_X6_ofOwner (x0 : Nat) (x1 : Int32) (x2 : Int32) (S : sT) (Q : Int32 → sT → Prop) : Prop := w_X6_ofOwner_b0 x0 x1 x2 S Q
def r_X6_ofOwner : Room := x_rm 4 85 0 0
theorem b_X6_ofOwner : x_BV yX6_ofOwner cX6_ofOwner 4 (some .int) 2 := ⟨q_15_18, q_15_16, q_15_17, q_1_2, by decide +kernel⟩
set_option maxHeartbeats 4000000 in
theorem t_X6_ofOwner_b0 {Q : Int32 → sT → Prop} (C : x_C p s m args c cX6_ofOwner RX6 gg) (hml : c.maxLocals = 4) (hr : meth.sig.returnType = (some .int)) (hlocks : meth.locks = false) {x0 : Nat} {x1 : Int32} {x2 : Int32}  {S : sT}  (h : w_X6_ofOwner_b0 x0 x1 x2 S  Q) : x_X p l e r_X6_ofOwner s m args below meth c gg 4 0 0 (MQ below (va_Qi Q (fun S1 t => s_Rep gg S1 t.heap) (s_A gg)) args s 0 0 (s_A gg)) 0 [(0, .ref x0), (1, .int x1), (2, .int x2)] [] S := by
  unfold w_X6_ofOwner_b0 at h
  obtain ⟨hx, hb, -⟩ := id C
  intro H locs ls hR hS hl
  refine lv_aload_n hx hb dX6_ofOwner_0 rfl (lv_at hl 0 rfl) ?_
  refine lv_iload_n hx hb dX6_ofOwner_1 rfl (lv_at hl 1 rfl) ?_
  obtain ⟨hK_x0, h⟩ := h
  refine x_kq (x_runV (As := [.int x1]) (rest := []) C hml hR hS (m_X6_fieldAt l gg x0 x1 S h) b_X6_fieldAt q_10_12 (by rw [hK_x0]; decide) (s_E_7 hK_x0) rfl rfl rfl rfl ⟨Nat.le_of_ble_eq_true rfl, Nat.le_of_ble_eq_true rfl⟩ rfl hl.1 (Nat.le_of_ble_eq_true rfl) dX6_ofOwner_2 ⟨Nat.le_refl _, Nat.le_refl _⟩) hS (fun ra102 S101 H locs hn hR hS => ?_)
  replace h := hn
  clear hn
  obtain ⟨a102, za102, h⟩ := h
  refine x_some za102 ?_
  obtain ⟨hK_a102, h⟩ := h
  refine x_g_68 C hR hK_a102 q_15_19 dX6_ofOwner_5 ?_
  obtain ⟨a103, ea103, h⟩ := h
  refine x_some ea103 ?_
  refine lv_astore_n (lv' := [(3, .ref a103), (0, .ref x0), (1, .int x1), (2, .int x2)]) hx hb dX6_ofOwner_8 rfl hl (by decide) rfl (fun ls hl => ?_)
  refine lv_iload_n hx hb dX6_ofOwner_9 rfl (lv_at hl 3 rfl) ?_
  by_cases hc104 : x2 = 0
  · have h := h.1 hc104
    refine lv_tableIn (off := 30) (tgt := 40) hx hb dX6_ofOwner_10 (by rw [hc104]; decide) (by rw [hc104]; decide) (by rw [hc104]; rfl) (by decide) ?_
    refine lv_aload_n hx hb dX6_ofOwner_40 rfl (lv_at hl 0 rfl) ?_
    obtain ⟨hK_a103, h⟩ := h
    refine x_g_160 C hR hK_a103 q_15_20 dX6_ofOwner_41 ?_
    refine lv_topi (fun x105 ex105 => ?_)
    replace h := h x105 ex105
    exact W.iret (v := x105) hx hb hr (fun t ht hW => ⟨⟨x105, S101, rfl, h, x_rt ht hR⟩, hS.F ht⟩) hS.2.2 dX6_ofOwner_44
  · by_cases hc106 : x2 = 1
    · have h := h.2.1 hc106
      refine lv_tableIn (off := 35) (tgt := 45) hx hb dX6_ofOwner_10 (by rw [hc106]; decide) (by rw [hc106]; decide) (by rw [hc106]; rfl) (by decide) ?_
      refine lv_aload_n hx hb dX6_ofOwner_45 rfl (lv_at hl 0 rfl) ?_
      obtain ⟨hK_a103, h⟩ := h
      refine x_g_161 C hR hK_a103 q_15_21 dX6_ofOwner_46 ?_
      refine lv_topi (fun x107 ex107 => ?_)
      replace h := h x107 ex107
      exact W.iret (v := x107) hx hb hr (fun t ht hW => ⟨⟨x107, S101, rfl, h, x_rt ht hR⟩, hS.F ht⟩) hS.2.2 dX6_ofOwner_49
    · by_cases hc108 : x2 = 2
      · have h := h.2.2.1 hc108
        refine lv_tableIn (off := 40) (tgt := 50) hx hb dX6_ofOwner_10 (by rw [hc108]; decide) (by rw [hc108]; decide) (by rw [hc108]; rfl) (by decide) ?_
        refine lv_aload_n hx hb dX6_ofOwner_50 rfl (lv_at hl 0 rfl) ?_
        obtain ⟨hK_a103, h⟩ := h
        refine x_g_162 C hR hK_a103 q_15_22 dX6_ofOwner_51 ?_
        refine lv_topi (fun x109 ex109 => ?_)
        replace h := h x109 ex109
        exact W.iret (v := x109) hx hb hr (fun t ht hW => ⟨⟨x109, S101, rfl, h, x_rt ht hR⟩, hS.F ht⟩) hS.2.2 dX6_ofOwner_54
      · by_cases hc110 : x2 = 3
        · have h := h.2.2.2.1 hc110
          refine lv_tableIn (off := 45) (tgt := 55) hx hb dX6_ofOwner_10 (by rw [hc110]; decide) (by rw [hc110]; decide) (by rw [hc110]; rfl) (by decide) ?_
          refine lv_aload_n hx hb dX6_ofOwner_55 rfl (lv_at hl 0 rfl) ?_
          obtain ⟨hK_a103, h⟩ := h
          refine x_ki (x_runV (As := []) (rest := []) C hml hR hS (m_X4_isExcluded l gg a103 S101 h) b_X4_isExcluded q_15_23 (by rw [hK_a103]; decide) (s_E_5 hK_a103) rfl rfl rfl rfl ⟨Nat.le_of_ble_eq_true rfl, Nat.le_of_ble_eq_true rfl⟩ rfl hl.1 (Nat.le_of_ble_eq_true rfl) dX6_ofOwner_56 ⟨Nat.le_refl _, Nat.le_refl _⟩) hS (fun x112 S111 H locs hn hR hS => ?_)
          replace h := hn
          clear hn
          refine x_ki (x_runS (As := [.int x112]) (rest := []) C hml hR hS (m_X6_oneIf l gg x112 S111 h) b_X6_oneIf q_11_18 rfl rfl ⟨Nat.le_of_ble_eq_true rfl, Nat.le_of_ble_eq_true rfl⟩ rfl hl.1 (Nat.le_of_ble_eq_true rfl) dX6_ofOwner_59 ⟨Nat.le_refl _, Nat.le_refl _⟩) hS (fun x114 S113 H locs hn hR hS => ?_)
          replace h := hn
          clear hn
          exact W.iret (v := x114) hx hb hr (fun t ht hW => ⟨⟨x114, S113, rfl, h, x_rt ht hR⟩, hS.F ht⟩) hS.2.2 dX6_ofOwner_62
        · have h := h.2.2.2.2 ⟨hc104, hc106, hc108, hc110⟩
          refine lv_tableOut (tgt := 63) hx hb dX6_ofOwner_10 (x_tout 0 3 (fun q1 q2 => ?_)) (by decide) ?_
          · rcases (show x2.toInt = 0 ∨ x2.toInt = 1 ∨ x2.toInt = 2 ∨ x2.toInt = 3 by omega) with z | z | z | z
            · exact hc104 (x_ti z (by decide))
            · exact hc106 (x_ti z (by decide))
            · exact hc108 (x_ti z (by decide))
            · exact hc110 (x_ti z (by decide))
          exact h.elim
theorem m_X6_ofOwner (l : Launch) (gg : sG) (x0 : Nat) (x1 : Int32) (x2 : Int32) (S : sT) {Q : Int32 → sT → Prop} (h : w_X6_ofOwner x0 x1 x2 S Q) : x_Mi l gg yX6_ofOwner (x_ws yX6_ofOwner cX6_ofOwner 4 (some .int)) r_X6_ofOwner [.ref x0, .int x1, .int x2] S Q 0 0 := by
  refine x_ofW (cc := cX6_ofOwner) (own := RX6) (by decide +kernel) rfl (Nat.le_of_ble_eq_true rfl) ?_
  intro p e s m args below meth c C hml hr hlocks hin ht H locs ls hR hS hl
  exact t_X6_ofOwner_b0 C hml hr hlocks h H locs ls hR hS (lv_sub (l' := [(0, .ref x0), (1, .int x1), (2, .int x2)]) hl [0, 1, 2] rfl)
def w_X6_ofSociety_b0 (x0 : Nat) (x1 : Int32) (x2 : Int32) (S : sT)  (Q : Int32 → sT → Prop) : Prop :=
s_K S x0 = 8 ∧
    w_X6_societyAt x0 x1 S (fun a102 S101 =>
    ((x2 = 0 → s_K S101 a102 = 7 ∧
    ∀ x104 : Int32, x104 = s_I S101 196 a102 →
    Q x104 S101) ∧
    (x2 = 1 → s_K S101 a102 = 7 ∧
    ∀ x106 : Int32, x106 = s_I S101 197 a102 →
    Q x106 S101) ∧
    (x2 = 2 → s_K S101 a102 = 7 ∧
    ∀ x108 : Int32, x108 = s_I S101 198 a102 →
    Q x108 S101) ∧
    (x2 = 3 → s_K S101 a102 = 7 ∧
    ∀ x110 : Int32, x110 = s_I S101 199 a102 →
    Q x110 S101) ∧
    (x2 = 4 → s_K S101 x0 = 8 ∧
    ∃ a112 : Nat, s_R S101 224 x0 = some a112 ∧
    s_K S101 a112 = 4 ∧
    w_X2_templeDay a112 S101 (fun x114 S113 =>
    s_K S113 a102 = 7 ∧
    w_X5_isOpenOn a102 x114 S113 (fun x116 S115 =>
    w_X6_oneIf x116 S115 (fun x118 S117 =>
    Q x118 S117)))) ∧
    (x2 = 5 → s_K S101 a102 = 7 ∧
    ∀ x120 : Int32, x120 = s_I S101 200 a102 →
    Q x120 S101) ∧
    (x2 = 6 → s_K S101 a102 = 7 ∧
    ∃ a122 : Nat, s_R S101 195 a102 = some a122 ∧
    s_K S101 a122 = 1 ∧
    w_Jx4a65c_size_8abf5 a122 S101 (fun x124 S123 =>
    Q x124 S123)) ∧
    (x2 = 7 → s_K S101 a102 = 7 ∧
    ∀ x126 : Int32, x126 = s_I S101 201 a102 →
    Q x126 S101) ∧
    (x2 = 8 → s_K S101 a102 = 7 ∧
    w_X5_nextInTurn a102 S101 (fun r129 S128 =>
    w_X6_numberOf r129 S128 (fun x131 S130 =>
    Q x131 S130))) ∧
    ((¬ x2 = 0 ∧ ¬ x2 = 1 ∧ ¬ x2 = 2 ∧ ¬ x2 = 3 ∧ ¬ x2 = 4 ∧ ¬ x2 = 5 ∧ ¬ x2 = 6 ∧ ¬ x2 = 7 ∧ ¬ x2 = 8) → False)))
def w_X6_ofSociety (x0 : Nat) (x1 : Int32) (x2 : Int32) (S : sT) (Q : Int32 → sT → Prop) : Prop := w_X6_ofSociety_b0 x0 x1 x2 S Q
def r_X6_ofSociety : Room := x_rm 4 87 0 0
theorem b_X6_ofSociety : x_BV yX6_ofSociety cX6_ofSociety 4 (some .int) 2 := ⟨q_14_6, q_14_4, q_14_5, q_1_2, by decide +kernel⟩
set_option maxHeartbeats 4000000 in
theorem t_X6_ofSociety_b0 {Q : Int32 → sT → Prop} (C : x_C p s m args c cX6_ofSociety RX6 gg) (hml : c.maxLocals = 4) (hr : meth.sig.returnType = (some .int)) (hlocks : meth.locks = false) {x0 : Nat} {x1 : Int32} {x2 : Int32}  {S : sT}  (h : w_X6_ofSociety_b0 x0 x1 x2 S  Q) : x_X p l e r_X6_ofSociety s m args below meth c gg 4 0 0 (MQ below (va_Qi Q (fun S1 t => s_Rep gg S1 t.heap) (s_A gg)) args s 0 0 (s_A gg)) 0 [(0, .ref x0), (1, .int x1), (2, .int x2)] [] S := by
  unfold w_X6_ofSociety_b0 at h
  obtain ⟨hx, hb, -⟩ := id C
  intro H locs ls hR hS hl
  refine lv_aload_n hx hb dX6_ofSociety_0 rfl (lv_at hl 0 rfl) ?_
  refine lv_iload_n hx hb dX6_ofSociety_1 rfl (lv_at hl 1 rfl) ?_
  obtain ⟨hK_x0, h⟩ := h
  refine x_kq (x_runV (As := [.int x1]) (rest := []) C hml hR hS (m_X6_societyAt l gg x0 x1 S h) b_X6_societyAt q_7_6 (by rw [hK_x0]; decide) (s_E_7 hK_x0) rfl rfl rfl rfl ⟨Nat.le_of_ble_eq_true rfl, Nat.le_of_ble_eq_true rfl⟩ rfl hl.1 (Nat.le_of_ble_eq_true rfl) dX6_ofSociety_2 ⟨Nat.le_refl _, Nat.le_refl _⟩) hS (fun ra102 S101 H locs hn hR hS => ?_)
  replace h := hn
  clear hn
  obtain ⟨a102, za102, h⟩ := h
  refine x_some za102 ?_
  refine lv_astore_n (lv' := [(3, .ref a102), (0, .ref x0), (1, .int x1), (2, .int x2)]) hx hb dX6_ofSociety_5 rfl hl (by decide) rfl (fun ls hl => ?_)
  refine lv_iload_n hx hb dX6_ofSociety_6 rfl (lv_at hl 3 rfl) ?_
  by_cases hc103 : x2 = 0
  · have h := h.1 hc103
    refine lv_tableIn (off := 49) (tgt := 56) hx hb dX6_ofSociety_7 (by rw [hc103]; decide) (by rw [hc103]; decide) (by rw [hc103]; rfl) (by decide) ?_
    refine lv_aload_n hx hb dX6_ofSociety_56 rfl (lv_at hl 0 rfl) ?_
    obtain ⟨hK_a102, h⟩ := h
    refine x_g_196 C hR hK_a102 q_13_5 dX6_ofSociety_57 ?_
    refine lv_topi (fun x104 ex104 => ?_)
    replace h := h x104 ex104
    exact W.iret (v := x104) hx hb hr (fun t ht hW => ⟨⟨x104, S101, rfl, h, x_rt ht hR⟩, hS.F ht⟩) hS.2.2 dX6_ofSociety_60
  · by_cases hc105 : x2 = 1
    · have h := h.2.1 hc105
      refine lv_tableIn (off := 54) (tgt := 61) hx hb dX6_ofSociety_7 (by rw [hc105]; decide) (by rw [hc105]; decide) (by rw [hc105]; rfl) (by decide) ?_
      refine lv_aload_n hx hb dX6_ofSociety_61 rfl (lv_at hl 0 rfl) ?_
      obtain ⟨hK_a102, h⟩ := h
      refine x_g_197 C hR hK_a102 q_13_6 dX6_ofSociety_62 ?_
      refine lv_topi (fun x106 ex106 => ?_)
      replace h := h x106 ex106
      exact W.iret (v := x106) hx hb hr (fun t ht hW => ⟨⟨x106, S101, rfl, h, x_rt ht hR⟩, hS.F ht⟩) hS.2.2 dX6_ofSociety_65
    · by_cases hc107 : x2 = 2
      · have h := h.2.2.1 hc107
        refine lv_tableIn (off := 59) (tgt := 66) hx hb dX6_ofSociety_7 (by rw [hc107]; decide) (by rw [hc107]; decide) (by rw [hc107]; rfl) (by decide) ?_
        refine lv_aload_n hx hb dX6_ofSociety_66 rfl (lv_at hl 0 rfl) ?_
        obtain ⟨hK_a102, h⟩ := h
        refine x_g_198 C hR hK_a102 q_14_7 dX6_ofSociety_67 ?_
        refine lv_topi (fun x108 ex108 => ?_)
        replace h := h x108 ex108
        exact W.iret (v := x108) hx hb hr (fun t ht hW => ⟨⟨x108, S101, rfl, h, x_rt ht hR⟩, hS.F ht⟩) hS.2.2 dX6_ofSociety_70
      · by_cases hc109 : x2 = 3
        · have h := h.2.2.2.1 hc109
          refine lv_tableIn (off := 64) (tgt := 71) hx hb dX6_ofSociety_7 (by rw [hc109]; decide) (by rw [hc109]; decide) (by rw [hc109]; rfl) (by decide) ?_
          refine lv_aload_n hx hb dX6_ofSociety_71 rfl (lv_at hl 0 rfl) ?_
          obtain ⟨hK_a102, h⟩ := h
          refine x_g_199 C hR hK_a102 q_14_8 dX6_ofSociety_72 ?_
          refine lv_topi (fun x110 ex110 => ?_)
          replace h := h x110 ex110
          exact W.iret (v := x110) hx hb hr (fun t ht hW => ⟨⟨x110, S101, rfl, h, x_rt ht hR⟩, hS.F ht⟩) hS.2.2 dX6_ofSociety_75
        · by_cases hc111 : x2 = 4
          · have h := h.2.2.2.2.1 hc111
            refine lv_tableIn (off := 69) (tgt := 76) hx hb dX6_ofSociety_7 (by rw [hc111]; decide) (by rw [hc111]; decide) (by rw [hc111]; rfl) (by decide) ?_
            refine lv_aload_n hx hb dX6_ofSociety_76 rfl (lv_at hl 0 rfl) ?_
            refine lv_aload_n hx hb dX6_ofSociety_77 rfl (lv_at hl 1 rfl) ?_
            obtain ⟨hK_x0, h⟩ := h
            refine x_g_224 C hR hK_x0 q_1_13 dX6_ofSociety_78 ?_
            obtain ⟨a112, ea112, h⟩ := h
            refine x_some ea112 ?_
            obtain ⟨hK_a112, h⟩ := h
            refine x_ki (x_runV (As := []) (rest := [.ref a102]) C hml hR hS (m_X2_templeDay l gg a112 S101 h) b_X2_templeDay q_14_10 (by rw [hK_a112]; decide) (s_E_3 hK_a112) rfl rfl rfl rfl ⟨Nat.le_of_ble_eq_true rfl, Nat.le_of_ble_eq_true rfl⟩ rfl hl.1 (Nat.le_of_ble_eq_true rfl) dX6_ofSociety_81 ⟨Nat.le_refl _, Nat.le_refl _⟩) hS (fun x114 S113 H locs hn hR hS => ?_)
            replace h := hn
            clear hn
            obtain ⟨hK_a102, h⟩ := h
            refine x_ki (x_runV (As := [.int x114]) (rest := []) C hml hR hS (m_X5_isOpenOn l gg a102 x114 S113 h) b_X5_isOpenOn q_14_19 (by rw [hK_a102]; decide) (s_E_6 hK_a102) rfl rfl rfl rfl ⟨Nat.le_of_ble_eq_true rfl, Nat.le_of_ble_eq_true rfl⟩ rfl hl.1 (Nat.le_of_ble_eq_true rfl) dX6_ofSociety_84 ⟨Nat.le_refl _, Nat.le_refl _⟩) hS (fun x116 S115 H locs hn hR hS => ?_)
            replace h := hn
            clear hn
            refine x_ki (x_runS (As := [.int x116]) (rest := []) C hml hR hS (m_X6_oneIf l gg x116 S115 h) b_X6_oneIf q_11_18 rfl rfl ⟨Nat.le_of_ble_eq_true rfl, Nat.le_of_ble_eq_true rfl⟩ rfl hl.1 (Nat.le_of_ble_eq_true rfl) dX6_ofSociety_87 ⟨Nat.le_refl _, Nat.le_refl _⟩) hS (fun x118 S117 H locs hn hR hS => ?_)
            replace h := hn
            clear hn
            exact W.iret (v := x118) hx hb hr (fun t ht hW => ⟨⟨x118, S117, rfl, h, x_rt ht hR⟩, hS.F ht⟩) hS.2.2 dX6_ofSociety_90
          · by_cases hc119 : x2 = 5
            · have h := h.2.2.2.2.2.1 hc119
              refine lv_tableIn (off := 84) (tgt := 91) hx hb dX6_ofSociety_7 (by rw [hc119]; decide) (by rw [hc119]; decide) (by rw [hc119]; rfl) (by decide) ?_
              refine lv_aload_n hx hb dX6_ofSociety_91 rfl (lv_at hl 0 rfl) ?_
              obtain ⟨hK_a102, h⟩ := h
              refine x_g_200 C hR hK_a102 q_13_7 dX6_ofSociety_92 ?_
              refine lv_topi (fun x120 ex120 => ?_)
              replace h := h x120 ex120
              exact W.iret (v := x120) hx hb hr (fun t ht hW => ⟨⟨x120, S101, rfl, h, x_rt ht hR⟩, hS.F ht⟩) hS.2.2 dX6_ofSociety_95
            · by_cases hc121 : x2 = 6
              · have h := h.2.2.2.2.2.2.1 hc121
                refine lv_tableIn (off := 89) (tgt := 96) hx hb dX6_ofSociety_7 (by rw [hc121]; decide) (by rw [hc121]; decide) (by rw [hc121]; rfl) (by decide) ?_
                refine lv_aload_n hx hb dX6_ofSociety_96 rfl (lv_at hl 0 rfl) ?_
                obtain ⟨hK_a102, h⟩ := h
                refine x_g_195 C hR hK_a102 q_13_4 dX6_ofSociety_97 ?_
                obtain ⟨a122, ea122, h⟩ := h
                refine x_some ea122 ?_
                obtain ⟨hK_a122, h⟩ := h
                refine x_ki (x_runV (As := []) (rest := []) C hml hR hS (m_Jx4a65c_size_8abf5 l gg a122 S101 h) b_Jx4a65c_size_8abf5 q_3_18 (by rw [hK_a122]; decide) (s_E_0 hK_a122) rfl rfl rfl rfl ⟨Nat.le_of_ble_eq_true rfl, Nat.le_of_ble_eq_true rfl⟩ rfl hl.1 (Nat.le_of_ble_eq_true rfl) dX6_ofSociety_100 ⟨Nat.le_refl _, Nat.le_refl _⟩) hS (fun x124 S123 H locs hn hR hS => ?_)
                replace h := hn
                clear hn
                exact W.iret (v := x124) hx hb hr (fun t ht hW => ⟨⟨x124, S123, rfl, h, x_rt ht hR⟩, hS.F ht⟩) hS.2.2 dX6_ofSociety_103
              · by_cases hc125 : x2 = 7
                · have h := h.2.2.2.2.2.2.2.1 hc125
                  refine lv_tableIn (off := 97) (tgt := 104) hx hb dX6_ofSociety_7 (by rw [hc125]; decide) (by rw [hc125]; decide) (by rw [hc125]; rfl) (by decide) ?_
                  refine lv_aload_n hx hb dX6_ofSociety_104 rfl (lv_at hl 0 rfl) ?_
                  obtain ⟨hK_a102, h⟩ := h
                  refine x_g_201 C hR hK_a102 q_14_9 dX6_ofSociety_105 ?_
                  refine lv_topi (fun x126 ex126 => ?_)
                  replace h := h x126 ex126
                  exact W.iret (v := x126) hx hb hr (fun t ht hW => ⟨⟨x126, S101, rfl, h, x_rt ht hR⟩, hS.F ht⟩) hS.2.2 dX6_ofSociety_108
                · by_cases hc127 : x2 = 8
                  · have h := h.2.2.2.2.2.2.2.2.1 hc127
                    refine lv_tableIn (off := 102) (tgt := 109) hx hb dX6_ofSociety_7 (by rw [hc127]; decide) (by rw [hc127]; decide) (by rw [hc127]; rfl) (by decide) ?_
                    refine lv_aload_n hx hb dX6_ofSociety_109 rfl (lv_at hl 0 rfl) ?_
                    obtain ⟨hK_a102, h⟩ := h
                    refine x_kq (x_runV (As := []) (rest := []) C hml hR hS (m_X5_nextInTurn l gg a102 S101 h) b_X5_nextInTurn q_15_0 (by rw [hK_a102]; decide) (s_E_6 hK_a102) rfl rfl rfl rfl ⟨Nat.le_of_ble_eq_true rfl, Nat.le_of_ble_eq_true rfl⟩ rfl hl.1 (Nat.le_of_ble_eq_true rfl) dX6_ofSociety_110 ⟨Nat.le_refl _, Nat.le_refl _⟩) hS (fun r129 S128 H locs hn hR hS => ?_)
                    replace h := hn
                    clear hn
                    refine x_ki (x_runS (As := [va_rf r129]) (rest := []) C hml hR hS (m_X6_numberOf l gg r129 S128 h) b_X6_numberOf q_15_11 rfl rfl ⟨Nat.le_of_ble_eq_true rfl, Nat.le_of_ble_eq_true rfl⟩ rfl hl.1 (Nat.le_of_ble_eq_true rfl) dX6_ofSociety_113 ⟨Nat.le_refl _, Nat.le_refl _⟩) hS (fun x131 S130 H locs hn hR hS => ?_)
                    replace h := hn
                    clear hn
                    exact W.iret (v := x131) hx hb hr (fun t ht hW => ⟨⟨x131, S130, rfl, h, x_rt ht hR⟩, hS.F ht⟩) hS.2.2 dX6_ofSociety_116
                  · have h := h.2.2.2.2.2.2.2.2.2 ⟨hc103, hc105, hc107, hc109, hc111, hc119, hc121, hc125, hc127⟩
                    refine lv_tableOut (tgt := 117) hx hb dX6_ofSociety_7 (x_tout 0 8 (fun q1 q2 => ?_)) (by decide) ?_
                    · rcases (show x2.toInt = 0 ∨ x2.toInt = 1 ∨ x2.toInt = 2 ∨ x2.toInt = 3 ∨ x2.toInt = 4 ∨ x2.toInt = 5 ∨ x2.toInt = 6 ∨ x2.toInt = 7 ∨ x2.toInt = 8 by omega) with z | z | z | z | z | z | z | z | z
                      · exact hc103 (x_ti z (by decide))
                      · exact hc105 (x_ti z (by decide))
                      · exact hc107 (x_ti z (by decide))
                      · exact hc109 (x_ti z (by decide))
                      · exact hc111 (x_ti z (by decide))
                      · exact hc119 (x_ti z (by decide))
                      · exact hc121 (x_ti z (by decide))
                      · exact hc125 (x_ti z (by decide))
                      · exact hc127 (x_ti z (by decide))
                    exact h.elim
theorem m_X6_ofSociety (l : Launch) (gg : sG) (x0 : Nat) (x1 : Int32) (x2 : Int32) (S : sT) {Q : Int32 → sT → Prop} (h : w_X6_ofSociety x0 x1 x2 S Q) : x_Mi l gg yX6_ofSociety (x_ws yX6_ofSociety cX6_ofSociety 4 (some .int)) r_X6_ofSociety [.ref x0, .int x1, .int x2] S Q 0 0 := by
  refine x_ofW (cc := cX6_ofSociety) (own := RX6) (by decide +kernel) rfl (Nat.le_of_ble_eq_true rfl) ?_
  intro p e s m args below meth c C hml hr hlocks hin ht H locs ls hR hS hl
  exact t_X6_ofSociety_b0 C hml hr hlocks h H locs ls hR hS (lv_sub (l' := [(0, .ref x0), (1, .int x1), (2, .int x2)]) hl [0, 1, 2] rfl)
def w_X6_sumOfFields_b4  (Q : Int32 → sT → Prop) : Nat → Nat → Int32 → Int32 → Int32 → sT → Prop
  | 0 => fun _ _ _ _ _ => False
  | n + 1 => fun x0 x1 x2 x3 S =>
s_K S x0 = 8 ∧
    ∃ a101 : Nat, s_R S 224 x0 = some a101 ∧
    s_K S a101 = 4 ∧
    ∃ a102 : Nat, s_R S 97 a101 = some a102 ∧
    s_K S a102 = 1 ∧
    w_Jx4a65c_size_8abf5 a102 S (fun x104 S103 =>
    ((x104 ≤ x3 → Q x2 S103) ∧
    (¬ x104 ≤ x3 → s_K S103 x0 = 8 ∧
    w_X6_ofField x0 x3 x1 S103 (fun x107 S106 =>
    ∀ x108 : Int32, x108 = x2 + x107 →
    ∀ x109 : Int32, x109 = x3 + 1 →
    w_X6_sumOfFields_b4  Q n x0 x1 x108 x109 S106))))
def w_X6_sumOfFields_b0 (x0 : Nat) (x1 : Int32) (S : sT)  (Q : Int32 → sT → Prop) : Prop :=
∃ n9 : Nat, w_X6_sumOfFields_b4  Q n9 x0 x1 (0 : Int32) (0 : Int32) S
def w_X6_sumOfFields (x0 : Nat) (x1 : Int32) (S : sT) (Q : Int32 → sT → Prop) : Prop := w_X6_sumOfFields_b0 x0 x1 S Q
def r_X6_sumOfFields : Room := x_rm 5 108 0 0
theorem b_X6_sumOfFields : x_BV yX6_sumOfFields cX6_sumOfFields 4 (some .int) 1 := ⟨q_17_5, q_17_3, q_17_4, q_1_2, by decide +kernel⟩
set_option maxHeartbeats 4000000 in
theorem t_X6_sumOfFields_b4 {Q : Int32 → sT → Prop} (C : x_C p s m args c cX6_sumOfFields RX6 gg) (hml : c.maxLocals = 4) (hr : meth.sig.returnType = (some .int)) (hlocks : meth.locks = false)   : ∀ (n : Nat) (x0 : Nat) (x1 : Int32) (x2 : Int32) (x3 : Int32) (S : sT), w_X6_sumOfFields_b4  Q n x0 x1 x2 x3 S → x_X p l e r_X6_sumOfFields s m args below meth c gg 4 0 0 (MQ below (va_Qi Q (fun S1 t => s_Rep gg S1 t.heap) (s_A gg)) args s 0 0 (s_A gg)) 4 [(0, .ref x0), (1, .int x1), (2, .int x2), (3, .int x3)] [] S := by
  obtain ⟨hx, hb, -⟩ := id C
  intro n
  induction n with
  | zero => intro x0 x1 x2 x3 S h; exact absurd h id
  | succ n ih =>
    intro x0 x1 x2 x3 S h H locs ls hR hS hl
    unfold w_X6_sumOfFields_b4 at h
    refine lv_iload_n hx hb dX6_sumOfFields_4 rfl (lv_at hl 3 rfl) ?_
    refine lv_aload_n hx hb dX6_sumOfFields_5 rfl (lv_at hl 0 rfl) ?_
    obtain ⟨hK_x0, h⟩ := h
    refine x_g_224 C hR hK_x0 q_1_13 dX6_sumOfFields_6 ?_
    obtain ⟨a101, ea101, h⟩ := h
    refine x_some ea101 ?_
    obtain ⟨hK_a101, h⟩ := h
    refine x_g_97 C hR hK_a101 q_7_5 dX6_sumOfFields_9 ?_
    obtain ⟨a102, ea102, h⟩ := h
    refine x_some ea102 ?_
    obtain ⟨hK_a102, h⟩ := h
    refine x_ki (x_runV (As := []) (rest := [.int x3]) C hml hR hS (m_Jx4a65c_size_8abf5 l gg a102 S h) b_Jx4a65c_size_8abf5 q_3_18 (by rw [hK_a102]; decide) (s_E_0 hK_a102) rfl rfl rfl rfl ⟨Nat.le_of_ble_eq_true rfl, Nat.le_of_ble_eq_true rfl⟩ rfl hl.1 (Nat.le_of_ble_eq_true rfl) dX6_sumOfFields_12 ⟨Nat.le_refl _, Nat.le_refl _⟩) hS (fun x104 S103 H locs hn hR hS => ?_)
    replace h := hn
    clear hn
    refine lv_icmp_ge (tgt := 33) hx hb dX6_sumOfFields_15 (by decide) (fun hc105 => ?_) (fun hc105 => ?_)
    · replace h := h.1 hc105
      refine lv_iload_n hx hb dX6_sumOfFields_33 rfl (lv_at hl 2 rfl) ?_
      exact W.iret (v := x2) hx hb hr (fun t ht hW => ⟨⟨x2, S103, rfl, h, x_rt ht hR⟩, hS.F ht⟩) hS.2.2 dX6_sumOfFields_34
    · replace h := h.2 hc105
      refine lv_iload_n hx hb dX6_sumOfFields_18 rfl (lv_at hl 2 rfl) ?_
      refine lv_aload_n hx hb dX6_sumOfFields_19 rfl (lv_at hl 0 rfl) ?_
      refine lv_iload_n hx hb dX6_sumOfFields_20 rfl (lv_at hl 3 rfl) ?_
      refine lv_iload_n hx hb dX6_sumOfFields_21 rfl (lv_at hl 1 rfl) ?_
      obtain ⟨hK_x0, h⟩ := h
      refine x_ki (x_runV (As := [.int x3, .int x1]) (rest := [.int x2]) C hml hR hS (m_X6_ofField l gg x0 x3 x1 S103 h) b_X6_ofField q_17_6 (by rw [hK_x0]; decide) (s_E_7 hK_x0) rfl rfl rfl rfl ⟨Nat.le_of_ble_eq_true rfl, Nat.le_of_ble_eq_true rfl⟩ rfl hl.1 (Nat.le_of_ble_eq_true rfl) dX6_sumOfFields_22 ⟨Nat.le_refl _, Nat.le_refl _⟩) hS (fun x107 S106 H locs hn hR hS => ?_)
      replace h := hn
      clear hn
      refine lv_iadd hx hb dX6_sumOfFields_25 ?_
      refine lv_topi (fun x108 ex108 => ?_)
      replace h := h x108 ex108
      refine lv_istore_n (lv' := [(2, .int x108), (0, .ref x0), (1, .int x1), (3, .int x3)]) hx hb dX6_sumOfFields_26 rfl hl (by decide) rfl (fun ls hl => ?_)
      obtain ⟨x109, ex109⟩ : ∃ z : Int32, z = x3 + 1 := ⟨_, rfl⟩
      replace h := h x109 ex109
      refine lv_iinc (v := x109) (lv' := [(3, .int x109), (2, .int x108), (0, .ref x0), (1, .int x1)]) hx hb dX6_sumOfFields_27 hl (k := 3) rfl (by rw [ex109]; rfl) (by decide) rfl (fun ls hl => ?_)
      refine lv_goto (tgt := 4) hx hb dX6_sumOfFields_30 (by decide) ?_
      exact ih x0 x1 x108 x109 S106 h H locs ls hR hS (lv_sub (l' := [(0, .ref x0), (1, .int x1), (2, .int x108), (3, .int x109)]) hl [2, 3, 1, 0] rfl)
set_option maxHeartbeats 4000000 in
theorem t_X6_sumOfFields_b0 {Q : Int32 → sT → Prop} (C : x_C p s m args c cX6_sumOfFields RX6 gg) (hml : c.maxLocals = 4) (hr : meth.sig.returnType = (some .int)) (hlocks : meth.locks = false) {x0 : Nat} {x1 : Int32}  {S : sT}  (h : w_X6_sumOfFields_b0 x0 x1 S  Q) : x_X p l e r_X6_sumOfFields s m args below meth c gg 4 0 0 (MQ below (va_Qi Q (fun S1 t => s_Rep gg S1 t.heap) (s_A gg)) args s 0 0 (s_A gg)) 0 [(0, .ref x0), (1, .int x1)] [] S := by
  unfold w_X6_sumOfFields_b0 at h
  obtain ⟨hx, hb, -⟩ := id C
  intro H locs ls hR hS hl
  refine lv_iconst (v := 0) hx hb dX6_sumOfFields_0 (by decide) ?_
  refine lv_istore_n (lv' := [(2, .int (0 : Int32)), (0, .ref x0), (1, .int x1)]) hx hb dX6_sumOfFields_1 rfl hl (by decide) rfl (fun ls hl => ?_)
  refine lv_iconst (v := 0) hx hb dX6_sumOfFields_2 (by decide) ?_
  refine lv_istore_n (lv' := [(3, .int (0 : Int32)), (2, .int (0 : Int32)), (0, .ref x0), (1, .int x1)]) hx hb dX6_sumOfFields_3 rfl hl (by decide) rfl (fun ls hl => ?_)
  obtain ⟨n9, h⟩ := h
  exact t_X6_sumOfFields_b4 C hml hr hlocks  n9 x0 x1 (0 : Int32) (0 : Int32) S h H locs ls hR hS (lv_sub (l' := [(0, .ref x0), (1, .int x1), (2, .int (0 : Int32)), (3, .int (0 : Int32))]) hl [2, 3, 1, 0] rfl)
theorem m_X6_sumOfFields (l : Launch) (gg : sG) (x0 : Nat) (x1 : Int32) (S : sT) {Q : Int32 → sT → Prop} (h : w_X6_sumOfFields x0 x1 S Q) : x_Mi l gg yX6_sumOfFields (x_ws yX6_sumOfFields cX6_sumOfFields 4 (some .int)) r_X6_sumOfFields [.ref x0, .int x1] S Q 0 0 := by
  refine x_ofW (cc := cX6_sumOfFields) (own := RX6) (by decide +kernel) rfl (Nat.le_of_ble_eq_true rfl) ?_
  intro p e s m args below meth c C hml hr hlocks hin ht H locs ls hR hS hl
  exact t_X6_sumOfFields_b0 C hml hr hlocks h H locs ls hR hS (lv_sub (l' := [(0, .ref x0), (1, .int x1)]) hl [0, 1] rfl)
def w_X6_sumOfSocieties_b4  (Q : Int32 → sT → Prop) : Nat → Nat → Int32 → Int32 → Int32 → sT → Prop
  | 0 => fun _ _ _ _ _ => False
  | n + 1 => fun x0 x1 x2 x3 S =>
s_K S x0 = 8 ∧
    ∃ a101 : Nat, s_R S 224 x0 = some a101 ∧
    s_K S a101 = 4 ∧
    ∃ a102 : Nat, s_R S 96 a101 = some a102 ∧
    s_K S a102 = 1 ∧
    w_Jx4a65c_size_8abf5 a102 S (fun x104 S103 =>
    ((x104 ≤ x3 → Q x2 S103) ∧
    (¬ x104 ≤ x3 → s_K S103 x0 = 8 ∧
    w_X6_ofSociety x0 x3 x1 S103 (fun x107 S106 =>
    ∀ x108 : Int32, x108 = x2 + x107 →
    ∀ x109 : Int32, x109 = x3 + 1 →
    w_X6_sumOfSocieties_b4  Q n x0 x1 x108 x109 S106))))
def w_X6_sumOfSocieties_b0 (x0 : Nat) (x1 : Int32) (S : sT)  (Q : Int32 → sT → Prop) : Prop :=
∃ n9 : Nat, w_X6_sumOfSocieties_b4  Q n9 x0 x1 (0 : Int32) (0 : Int32) S
def w_X6_sumOfSocieties (x0 : Nat) (x1 : Int32) (S : sT) (Q : Int32 → sT → Prop) : Prop := w_X6_sumOfSocieties_b0 x0 x1 S Q
def r_X6_sumOfSocieties : Room := x_rm 5 110 0 0
theorem b_X6_sumOfSocieties : x_BV yX6_sumOfSocieties cX6_sumOfSocieties 4 (some .int) 1 := ⟨q_17_15, q_17_13, q_17_14, q_1_2, by decide +kernel⟩
set_option maxHeartbeats 4000000 in
theorem t_X6_sumOfSocieties_b4 {Q : Int32 → sT → Prop} (C : x_C p s m args c cX6_sumOfSocieties RX6 gg) (hml : c.maxLocals = 4) (hr : meth.sig.returnType = (some .int)) (hlocks : meth.locks = false)   : ∀ (n : Nat) (x0 : Nat) (x1 : Int32) (x2 : Int32) (x3 : Int32) (S : sT), w_X6_sumOfSocieties_b4  Q n x0 x1 x2 x3 S → x_X p l e r_X6_sumOfSocieties s m args below meth c gg 4 0 0 (MQ below (va_Qi Q (fun S1 t => s_Rep gg S1 t.heap) (s_A gg)) args s 0 0 (s_A gg)) 4 [(0, .ref x0), (1, .int x1), (2, .int x2), (3, .int x3)] [] S := by
  obtain ⟨hx, hb, -⟩ := id C
  intro n
  induction n with
  | zero => intro x0 x1 x2 x3 S h; exact absurd h id
  | succ n ih =>
    intro x0 x1 x2 x3 S h H locs ls hR hS hl
    unfold w_X6_sumOfSocieties_b4 at h
    refine lv_iload_n hx hb dX6_sumOfSocieties_4 rfl (lv_at hl 3 rfl) ?_
    refine lv_aload_n hx hb dX6_sumOfSocieties_5 rfl (lv_at hl 0 rfl) ?_
    obtain ⟨hK_x0, h⟩ := h
    refine x_g_224 C hR hK_x0 q_1_13 dX6_sumOfSocieties_6 ?_
    obtain ⟨a101, ea101, h⟩ := h
    refine x_some ea101 ?_
    obtain ⟨hK_a101, h⟩ := h
    refine x_g_96 C hR hK_a101 q_3_14 dX6_sumOfSocieties_9 ?_
    obtain ⟨a102, ea102, h⟩ := h
    refine x_some ea102 ?_
    obtain ⟨hK_a102, h⟩ := h
    refine x_ki (x_runV (As := []) (rest := [.int x3]) C hml hR hS (m_Jx4a65c_size_8abf5 l gg a102 S h) b_Jx4a65c_size_8abf5 q_3_18 (by rw [hK_a102]; decide) (s_E_0 hK_a102) rfl rfl rfl rfl ⟨Nat.le_of_ble_eq_true rfl, Nat.le_of_ble_eq_true rfl⟩ rfl hl.1 (Nat.le_of_ble_eq_true rfl) dX6_sumOfSocieties_12 ⟨Nat.le_refl _, Nat.le_refl _⟩) hS (fun x104 S103 H locs hn hR hS => ?_)
    replace h := hn
    clear hn
    refine lv_icmp_ge (tgt := 33) hx hb dX6_sumOfSocieties_15 (by decide) (fun hc105 => ?_) (fun hc105 => ?_)
    · replace h := h.1 hc105
      refine lv_iload_n hx hb dX6_sumOfSocieties_33 rfl (lv_at hl 2 rfl) ?_
      exact W.iret (v := x2) hx hb hr (fun t ht hW => ⟨⟨x2, S103, rfl, h, x_rt ht hR⟩, hS.F ht⟩) hS.2.2 dX6_sumOfSocieties_34
    · replace h := h.2 hc105
      refine lv_iload_n hx hb dX6_sumOfSocieties_18 rfl (lv_at hl 2 rfl) ?_
      refine lv_aload_n hx hb dX6_sumOfSocieties_19 rfl (lv_at hl 0 rfl) ?_
      refine lv_iload_n hx hb dX6_sumOfSocieties_20 rfl (lv_at hl 3 rfl) ?_
      refine lv_iload_n hx hb dX6_sumOfSocieties_21 rfl (lv_at hl 1 rfl) ?_
      obtain ⟨hK_x0, h⟩ := h
      refine x_ki (x_runV (As := [.int x3, .int x1]) (rest := [.int x2]) C hml hR hS (m_X6_ofSociety l gg x0 x3 x1 S103 h) b_X6_ofSociety q_17_16 (by rw [hK_x0]; decide) (s_E_7 hK_x0) rfl rfl rfl rfl ⟨Nat.le_of_ble_eq_true rfl, Nat.le_of_ble_eq_true rfl⟩ rfl hl.1 (Nat.le_of_ble_eq_true rfl) dX6_sumOfSocieties_22 ⟨Nat.le_refl _, Nat.le_refl _⟩) hS (fun x107 S106 H locs hn hR hS => ?_)
      replace h := hn
      clear hn
      refine lv_iadd hx hb dX6_sumOfSocieties_25 ?_
      refine lv_topi (fun x108 ex108 => ?_)
      replace h := h x108 ex108
      refine lv_istore_n (lv' := [(2, .int x108), (0, .ref x0), (1, .int x1), (3, .int x3)]) hx hb dX6_sumOfSocieties_26 rfl hl (by decide) rfl (fun ls hl => ?_)
      obtain ⟨x109, ex109⟩ : ∃ z : Int32, z = x3 + 1 := ⟨_, rfl⟩
      replace h := h x109 ex109
      refine lv_iinc (v := x109) (lv' := [(3, .int x109), (2, .int x108), (0, .ref x0), (1, .int x1)]) hx hb dX6_sumOfSocieties_27 hl (k := 3) rfl (by rw [ex109]; rfl) (by decide) rfl (fun ls hl => ?_)
      refine lv_goto (tgt := 4) hx hb dX6_sumOfSocieties_30 (by decide) ?_
      exact ih x0 x1 x108 x109 S106 h H locs ls hR hS (lv_sub (l' := [(0, .ref x0), (1, .int x1), (2, .int x108), (3, .int x109)]) hl [2, 3, 1, 0] rfl)
set_option maxHeartbeats 4000000 in
theorem t_X6_sumOfSocieties_b0 {Q : Int32 → sT → Prop} (C : x_C p s m args c cX6_sumOfSocieties RX6 gg) (hml : c.maxLocals = 4) (hr : meth.sig.returnType = (some .int)) (hlocks : meth.locks = false) {x0 : Nat} {x1 : Int32}  {S : sT}  (h : w_X6_sumOfSocieties_b0 x0 x1 S  Q) : x_X p l e r_X6_sumOfSocieties s m args below meth c gg 4 0 0 (MQ below (va_Qi Q (fun S1 t => s_Rep gg S1 t.heap) (s_A gg)) args s 0 0 (s_A gg)) 0 [(0, .ref x0), (1, .int x1)] [] S := by
  unfold w_X6_sumOfSocieties_b0 at h
  obtain ⟨hx, hb, -⟩ := id C
  intro H locs ls hR hS hl
  refine lv_iconst (v := 0) hx hb dX6_sumOfSocieties_0 (by decide) ?_
  refine lv_istore_n (lv' := [(2, .int (0 : Int32)), (0, .ref x0), (1, .int x1)]) hx hb dX6_sumOfSocieties_1 rfl hl (by decide) rfl (fun ls hl => ?_)
  refine lv_iconst (v := 0) hx hb dX6_sumOfSocieties_2 (by decide) ?_
  refine lv_istore_n (lv' := [(3, .int (0 : Int32)), (2, .int (0 : Int32)), (0, .ref x0), (1, .int x1)]) hx hb dX6_sumOfSocieties_3 rfl hl (by decide) rfl (fun ls hl => ?_)
  obtain ⟨n9, h⟩ := h
  exact t_X6_sumOfSocieties_b4 C hml hr hlocks  n9 x0 x1 (0 : Int32) (0 : Int32) S h H locs ls hR hS (lv_sub (l' := [(0, .ref x0), (1, .int x1), (2, .int (0 : Int32)), (3, .int (0 : Int32))]) hl [2, 3, 1, 0] rfl)
theorem m_X6_sumOfSocieties (l : Launch) (gg : sG) (x0 : Nat) (x1 : Int32) (S : sT) {Q : Int32 → sT → Prop} (h : w_X6_sumOfSocieties x0 x1 S Q) : x_Mi l gg yX6_sumOfSocieties (x_ws yX6_sumOfSocieties cX6_sumOfSocieties 4 (some .int)) r_X6_sumOfSocieties [.ref x0, .int x1] S Q 0 0 := by
  refine x_ofW (cc := cX6_sumOfSocieties) (own := RX6) (by decide +kernel) rfl (Nat.le_of_ble_eq_true rfl) ?_
  intro p e s m args below meth c C hml hr hlocks hin ht H locs ls hR hS hl
  exact t_X6_sumOfSocieties_b0 C hml hr hlocks h H locs ls hR hS (lv_sub (l' := [(0, .ref x0), (1, .int x1)]) hl [0, 1] rfl)
def w_X6_water_b0 (x0 : Nat) (x1 : Int32) (S : sT)  (Q : Int32 → sT → Prop) : Prop :=
((x1 = 0 → s_K S x0 = 8 ∧
    ∃ a102 : Nat, s_R S 224 x0 = some a102 ∧
    s_K S a102 = 4 ∧
    ∃ a103 : Nat, s_R S 98 a102 = some a103 ∧
    s_K S a103 = 5 ∧
    ∀ x104 : Int32, x104 = s_I S 128 a103 →
    Q x104 S) ∧
    (x1 = 1 → s_K S x0 = 8 ∧
    w_X6_sumOfFields x0 (1 : Int32) S (fun x107 S106 =>
    Q x107 S106)) ∧
    (x1 = 2 → s_K S x0 = 8 ∧
    ∃ a109 : Nat, s_R S 224 x0 = some a109 ∧
    s_K S a109 = 4 ∧
    ∀ x110 : Int32, x110 = s_I S 100 a109 →
    Q x110 S) ∧
    (x1 = 3 → s_K S x0 = 8 ∧
    w_X6_sumOfSocieties x0 (3 : Int32) S (fun x113 S112 =>
    Q x113 S112)) ∧
    (x1 = 4 → s_K S x0 = 8 ∧
    ∃ a115 : Nat, s_R S 224 x0 = some a115 ∧
    s_K S a115 = 4 ∧
    ∃ a116 : Nat, s_R S 98 a115 = some a116 ∧
    s_K S a116 = 5 ∧
    ∀ x117 : Int32, x117 = s_I S 129 a116 →
    Q x117 S) ∧
    (x1 = 5 → s_K S x0 = 8 ∧
    ∃ a119 : Nat, s_R S 224 x0 = some a119 ∧
    s_K S a119 = 4 ∧
    ∃ a120 : Nat, s_R S 98 a119 = some a120 ∧
    s_K S a120 = 5 ∧
    ∀ x121 : Int32, x121 = s_I S 130 a120 →
    Q x121 S) ∧
    (x1 = 6 → s_K S x0 = 8 ∧
    ∃ a123 : Nat, s_R S 224 x0 = some a123 ∧
    s_K S a123 = 4 ∧
    ∃ a124 : Nat, s_R S 98 a123 = some a124 ∧
    s_K S a124 = 5 ∧
    ∀ x125 : Int32, x125 = s_I S 131 a124 →
    Q x125 S) ∧
    ((¬ x1 = 0 ∧ ¬ x1 = 1 ∧ ¬ x1 = 2 ∧ ¬ x1 = 3 ∧ ¬ x1 = 4 ∧ ¬ x1 = 5 ∧ ¬ x1 = 6) → False))
def w_X6_water (x0 : Nat) (x1 : Int32) (S : sT) (Q : Int32 → sT → Prop) : Prop := w_X6_water_b0 x0 x1 S Q
def r_X6_water : Room := x_rm 6 133 0 0
theorem b_X6_water : x_BV yX6_water cX6_water 2 (some .int) 1 := ⟨q_25_22, q_25_20, q_25_21, q_1_2, by decide +kernel⟩
set_option maxHeartbeats 4000000 in
theorem t_X6_water_b0 {Q : Int32 → sT → Prop} (C : x_C p s m args c cX6_water RX6 gg) (hml : c.maxLocals = 2) (hr : meth.sig.returnType = (some .int)) (hlocks : meth.locks = false) {x0 : Nat} {x1 : Int32}  {S : sT}  (h : w_X6_water_b0 x0 x1 S  Q) : x_X p l e r_X6_water s m args below meth c gg 2 0 0 (MQ below (va_Qi Q (fun S1 t => s_Rep gg S1 t.heap) (s_A gg)) args s 0 0 (s_A gg)) 0 [(0, .ref x0), (1, .int x1)] [] S := by
  unfold w_X6_water_b0 at h
  obtain ⟨hx, hb, -⟩ := id C
  intro H locs ls hR hS hl
  refine lv_iload_n hx hb dX6_water_0 rfl (lv_at hl 1 rfl) ?_
  by_cases hc101 : x1 = 0
  · have h := h.1 hc101
    refine lv_tableIn (off := 43) (tgt := 44) hx hb dX6_water_1 (by rw [hc101]; decide) (by rw [hc101]; decide) (by rw [hc101]; rfl) (by decide) ?_
    refine lv_aload_n hx hb dX6_water_44 rfl (lv_at hl 0 rfl) ?_
    obtain ⟨hK_x0, h⟩ := h
    refine x_g_224 C hR hK_x0 q_1_13 dX6_water_45 ?_
    obtain ⟨a102, ea102, h⟩ := h
    refine x_some ea102 ?_
    obtain ⟨hK_a102, h⟩ := h
    refine x_g_98 C hR hK_a102 q_25_10 dX6_water_48 ?_
    obtain ⟨a103, ea103, h⟩ := h
    refine x_some ea103 ?_
    obtain ⟨hK_a103, h⟩ := h
    refine x_g_128 C hR hK_a103 q_25_11 dX6_water_51 ?_
    refine lv_topi (fun x104 ex104 => ?_)
    replace h := h x104 ex104
    exact W.iret (v := x104) hx hb hr (fun t ht hW => ⟨⟨x104, S, rfl, h, x_rt ht hR⟩, hS.F ht⟩) hS.2.2 dX6_water_54
  · by_cases hc105 : x1 = 1
    · have h := h.2.1 hc105
      refine lv_tableIn (off := 54) (tgt := 55) hx hb dX6_water_1 (by rw [hc105]; decide) (by rw [hc105]; decide) (by rw [hc105]; rfl) (by decide) ?_
      refine lv_aload_n hx hb dX6_water_55 rfl (lv_at hl 0 rfl) ?_
      refine lv_iconst (v := 1) hx hb dX6_water_56 (by decide) ?_
      obtain ⟨hK_x0, h⟩ := h
      refine x_ki (x_runV (As := [.int (1 : Int32)]) (rest := []) C hml hR hS (m_X6_sumOfFields l gg x0 (1 : Int32) S h) b_X6_sumOfFields q_17_2 (by rw [hK_x0]; decide) (s_E_7 hK_x0) rfl rfl rfl rfl ⟨Nat.le_of_ble_eq_true rfl, Nat.le_of_ble_eq_true rfl⟩ rfl hl.1 (Nat.le_of_ble_eq_true rfl) dX6_water_57 ⟨Nat.le_refl _, Nat.le_refl _⟩) hS (fun x107 S106 H locs hn hR hS => ?_)
      replace h := hn
      clear hn
      exact W.iret (v := x107) hx hb hr (fun t ht hW => ⟨⟨x107, S106, rfl, h, x_rt ht hR⟩, hS.F ht⟩) hS.2.2 dX6_water_60
    · by_cases hc108 : x1 = 2
      · have h := h.2.2.1 hc108
        refine lv_tableIn (off := 60) (tgt := 61) hx hb dX6_water_1 (by rw [hc108]; decide) (by rw [hc108]; decide) (by rw [hc108]; rfl) (by decide) ?_
        refine lv_aload_n hx hb dX6_water_61 rfl (lv_at hl 0 rfl) ?_
        obtain ⟨hK_x0, h⟩ := h
        refine x_g_224 C hR hK_x0 q_1_13 dX6_water_62 ?_
        obtain ⟨a109, ea109, h⟩ := h
        refine x_some ea109 ?_
        obtain ⟨hK_a109, h⟩ := h
        refine x_g_100 C hR hK_a109 q_25_9 dX6_water_65 ?_
        refine lv_topi (fun x110 ex110 => ?_)
        replace h := h x110 ex110
        exact W.iret (v := x110) hx hb hr (fun t ht hW => ⟨⟨x110, S, rfl, h, x_rt ht hR⟩, hS.F ht⟩) hS.2.2 dX6_water_68
      · by_cases hc111 : x1 = 3
        · have h := h.2.2.2.1 hc111
          refine lv_tableIn (off := 68) (tgt := 69) hx hb dX6_water_1 (by rw [hc111]; decide) (by rw [hc111]; decide) (by rw [hc111]; rfl) (by decide) ?_
          refine lv_aload_n hx hb dX6_water_69 rfl (lv_at hl 0 rfl) ?_
          refine lv_iconst (v := 3) hx hb dX6_water_70 (by decide) ?_
          obtain ⟨hK_x0, h⟩ := h
          refine x_ki (x_runV (As := [.int (3 : Int32)]) (rest := []) C hml hR hS (m_X6_sumOfSocieties l gg x0 (3 : Int32) S h) b_X6_sumOfSocieties q_17_12 (by rw [hK_x0]; decide) (s_E_7 hK_x0) rfl rfl rfl rfl ⟨Nat.le_of_ble_eq_true rfl, Nat.le_of_ble_eq_true rfl⟩ rfl hl.1 (Nat.le_of_ble_eq_true rfl) dX6_water_71 ⟨Nat.le_refl _, Nat.le_refl _⟩) hS (fun x113 S112 H locs hn hR hS => ?_)
          replace h := hn
          clear hn
          exact W.iret (v := x113) hx hb hr (fun t ht hW => ⟨⟨x113, S112, rfl, h, x_rt ht hR⟩, hS.F ht⟩) hS.2.2 dX6_water_74
        · by_cases hc114 : x1 = 4
          · have h := h.2.2.2.2.1 hc114
            refine lv_tableIn (off := 74) (tgt := 75) hx hb dX6_water_1 (by rw [hc114]; decide) (by rw [hc114]; decide) (by rw [hc114]; rfl) (by decide) ?_
            refine lv_aload_n hx hb dX6_water_75 rfl (lv_at hl 0 rfl) ?_
            obtain ⟨hK_x0, h⟩ := h
            refine x_g_224 C hR hK_x0 q_1_13 dX6_water_76 ?_
            obtain ⟨a115, ea115, h⟩ := h
            refine x_some ea115 ?_
            obtain ⟨hK_a115, h⟩ := h
            refine x_g_98 C hR hK_a115 q_25_10 dX6_water_79 ?_
            obtain ⟨a116, ea116, h⟩ := h
            refine x_some ea116 ?_
            obtain ⟨hK_a116, h⟩ := h
            refine x_g_129 C hR hK_a116 q_25_23 dX6_water_82 ?_
            refine lv_topi (fun x117 ex117 => ?_)
            replace h := h x117 ex117
            exact W.iret (v := x117) hx hb hr (fun t ht hW => ⟨⟨x117, S, rfl, h, x_rt ht hR⟩, hS.F ht⟩) hS.2.2 dX6_water_85
          · by_cases hc118 : x1 = 5
            · have h := h.2.2.2.2.2.1 hc118
              refine lv_tableIn (off := 85) (tgt := 86) hx hb dX6_water_1 (by rw [hc118]; decide) (by rw [hc118]; decide) (by rw [hc118]; rfl) (by decide) ?_
              refine lv_aload_n hx hb dX6_water_86 rfl (lv_at hl 0 rfl) ?_
              obtain ⟨hK_x0, h⟩ := h
              refine x_g_224 C hR hK_x0 q_1_13 dX6_water_87 ?_
              obtain ⟨a119, ea119, h⟩ := h
              refine x_some ea119 ?_
              obtain ⟨hK_a119, h⟩ := h
              refine x_g_98 C hR hK_a119 q_25_10 dX6_water_90 ?_
              obtain ⟨a120, ea120, h⟩ := h
              refine x_some ea120 ?_
              obtain ⟨hK_a120, h⟩ := h
              refine x_g_130 C hR hK_a120 q_26_0 dX6_water_93 ?_
              refine lv_topi (fun x121 ex121 => ?_)
              replace h := h x121 ex121
              exact W.iret (v := x121) hx hb hr (fun t ht hW => ⟨⟨x121, S, rfl, h, x_rt ht hR⟩, hS.F ht⟩) hS.2.2 dX6_water_96
            · by_cases hc122 : x1 = 6
              · have h := h.2.2.2.2.2.2.1 hc122
                refine lv_tableIn (off := 96) (tgt := 97) hx hb dX6_water_1 (by rw [hc122]; decide) (by rw [hc122]; decide) (by rw [hc122]; rfl) (by decide) ?_
                refine lv_aload_n hx hb dX6_water_97 rfl (lv_at hl 0 rfl) ?_
                obtain ⟨hK_x0, h⟩ := h
                refine x_g_224 C hR hK_x0 q_1_13 dX6_water_98 ?_
                obtain ⟨a123, ea123, h⟩ := h
                refine x_some ea123 ?_
                obtain ⟨hK_a123, h⟩ := h
                refine x_g_98 C hR hK_a123 q_25_10 dX6_water_101 ?_
                obtain ⟨a124, ea124, h⟩ := h
                refine x_some ea124 ?_
                obtain ⟨hK_a124, h⟩ := h
                refine x_g_131 C hR hK_a124 q_26_1 dX6_water_104 ?_
                refine lv_topi (fun x125 ex125 => ?_)
                replace h := h x125 ex125
                exact W.iret (v := x125) hx hb hr (fun t ht hW => ⟨⟨x125, S, rfl, h, x_rt ht hR⟩, hS.F ht⟩) hS.2.2 dX6_water_107
              · have h := h.2.2.2.2.2.2.2 ⟨hc101, hc105, hc108, hc111, hc114, hc118, hc122⟩
                refine lv_tableOut (tgt := 108) hx hb dX6_water_1 (x_tout 0 6 (fun q1 q2 => ?_)) (by decide) ?_
                · rcases (show x1.toInt = 0 ∨ x1.toInt = 1 ∨ x1.toInt = 2 ∨ x1.toInt = 3 ∨ x1.toInt = 4 ∨ x1.toInt = 5 ∨ x1.toInt = 6 by omega) with z | z | z | z | z | z | z
                  · exact hc101 (x_ti z (by decide))
                  · exact hc105 (x_ti z (by decide))
                  · exact hc108 (x_ti z (by decide))
                  · exact hc111 (x_ti z (by decide))
                  · exact hc114 (x_ti z (by decide))
                  · exact hc118 (x_ti z (by decide))
                  · exact hc122 (x_ti z (by decide))
                exact h.elim
theorem m_X6_water (l : Launch) (gg : sG) (x0 : Nat) (x1 : Int32) (S : sT) {Q : Int32 → sT → Prop} (h : w_X6_water x0 x1 S Q) : x_Mi l gg yX6_water (x_ws yX6_water cX6_water 2 (some .int)) r_X6_water [.ref x0, .int x1] S Q 0 0 := by
  refine x_ofW (cc := cX6_water) (own := RX6) (by decide +kernel) rfl (Nat.le_of_ble_eq_true rfl) ?_
  intro p e s m args below meth c C hml hr hlocks hin ht H locs ls hR hS hl
  exact t_X6_water_b0 C hml hr hlocks h H locs ls hR hS (lv_sub (l' := [(0, .ref x0), (1, .int x1)]) hl [0, 1] rfl)
def w_X6_isClosed_b50 (y0 : Int32) (S : sT)  (Q : Int32 → sT → Prop) : Prop :=
(y0 = 0 ∨ y0 = 1) ∧
    Q y0 S
def w_X6_isClosed_b0 (x0 : Nat) (S : sT)  (Q : Int32 → sT → Prop) : Prop :=
s_K S x0 = 8 ∧
    w_X6_sumOfFields x0 (1 : Int32) S (fun x102 S101 =>
    s_K S101 x0 = 8 ∧
    ∃ a103 : Nat, s_R S101 224 x0 = some a103 ∧
    s_K S101 a103 = 4 ∧
    ∀ x104 : Int32, x104 = s_I S101 100 a103 →
    ∀ x105 : Int32, x105 = x102 + x104 →
    w_X6_sumOfSocieties x0 (3 : Int32) S101 (fun x107 S106 =>
    ∀ x108 : Int32, x108 = x105 + x107 →
    s_K S106 x0 = 8 ∧
    ∃ a109 : Nat, s_R S106 224 x0 = some a109 ∧
    s_K S106 a109 = 4 ∧
    ∃ a110 : Nat, s_R S106 98 a109 = some a110 ∧
    s_K S106 a110 = 5 ∧
    ∀ x111 : Int32, x111 = s_I S106 128 a110 →
    ∃ a112 : Nat, s_R S106 224 x0 = some a112 ∧
    s_K S106 a112 = 4 ∧
    ∃ a113 : Nat, s_R S106 98 a112 = some a113 ∧
    s_K S106 a113 = 5 ∧
    w_X3_sumOfGone a113 S106 (fun x115 S114 =>
    ∀ x116 : Int32, x116 = x108 + x115 →
    ((¬ x111 = x116 → w_X6_isClosed_b50 (0 : Int32) S114  Q) ∧
    (x111 = x116 → w_X6_isClosed_b50 (1 : Int32) S114  Q)))))
def w_X6_isClosed (x0 : Nat) (S : sT) (Q : Int32 → sT → Prop) : Prop := w_X6_isClosed_b0 x0 S Q
def r_X6_isClosed : Room := x_rm 6 133 0 0
theorem b_X6_isClosed : x_BV yX6_isClosed cX6_isClosed 2 (some .boolean) 0 := ⟨q_25_8, q_25_6, q_25_7, q_1_2, by decide +kernel⟩
set_option maxHeartbeats 4000000 in
theorem t_X6_isClosed_b50 {Q : Int32 → sT → Prop} (C : x_C p s m args c cX6_isClosed RX6 gg) (hml : c.maxLocals = 2) (hr : meth.sig.returnType = (some .boolean)) (hlocks : meth.locks = false) {y0 : Int32}  {S : sT}  (h : w_X6_isClosed_b50 y0 S  Q) : x_X p l e r_X6_isClosed s m args below meth c gg 2 0 0 (MQ below (va_Qi Q (fun S1 t => s_Rep gg S1 t.heap) (s_A gg)) args s 0 0 (s_A gg)) 50 [] [.int y0] S := by
  unfold w_X6_isClosed_b50 at h
  obtain ⟨hx, hb, -⟩ := id C
  intro H locs ls hR hS hl
  obtain ⟨hz101, h⟩ := h
  exact W.zret (v := y0) hx hb hr (zb_n hz101) (fun t ht hW => ⟨⟨y0, S, rfl, h, x_rt ht hR⟩, hS.F ht⟩) hS.2.2 dX6_isClosed_50
set_option maxHeartbeats 4000000 in
theorem t_X6_isClosed_b0 {Q : Int32 → sT → Prop} (C : x_C p s m args c cX6_isClosed RX6 gg) (hml : c.maxLocals = 2) (hr : meth.sig.returnType = (some .boolean)) (hlocks : meth.locks = false) {x0 : Nat}  {S : sT}  (h : w_X6_isClosed_b0 x0 S  Q) : x_X p l e r_X6_isClosed s m args below meth c gg 2 0 0 (MQ below (va_Qi Q (fun S1 t => s_Rep gg S1 t.heap) (s_A gg)) args s 0 0 (s_A gg)) 0 [(0, .ref x0)] [] S := by
  unfold w_X6_isClosed_b0 at h
  obtain ⟨hx, hb, -⟩ := id C
  intro H locs ls hR hS hl
  refine lv_aload_n hx hb dX6_isClosed_0 rfl (lv_at hl 0 rfl) ?_
  refine lv_iconst (v := 1) hx hb dX6_isClosed_1 (by decide) ?_
  obtain ⟨hK_x0, h⟩ := h
  refine x_ki (x_runV (As := [.int (1 : Int32)]) (rest := []) C hml hR hS (m_X6_sumOfFields l gg x0 (1 : Int32) S h) b_X6_sumOfFields q_17_2 (by rw [hK_x0]; decide) (s_E_7 hK_x0) rfl rfl rfl rfl ⟨Nat.le_of_ble_eq_true rfl, Nat.le_of_ble_eq_true rfl⟩ rfl hl.1 (Nat.le_of_ble_eq_true rfl) dX6_isClosed_2 ⟨Nat.le_refl _, Nat.le_refl _⟩) hS (fun x102 S101 H locs hn hR hS => ?_)
  replace h := hn
  clear hn
  refine lv_aload_n hx hb dX6_isClosed_5 rfl (lv_at hl 0 rfl) ?_
  obtain ⟨hK_x0, h⟩ := h
  refine x_g_224 C hR hK_x0 q_1_13 dX6_isClosed_6 ?_
  obtain ⟨a103, ea103, h⟩ := h
  refine x_some ea103 ?_
  obtain ⟨hK_a103, h⟩ := h
  refine x_g_100 C hR hK_a103 q_25_9 dX6_isClosed_9 ?_
  refine lv_topi (fun x104 ex104 => ?_)
  replace h := h x104 ex104
  refine lv_iadd hx hb dX6_isClosed_12 ?_
  refine lv_topi (fun x105 ex105 => ?_)
  replace h := h x105 ex105
  refine lv_aload_n hx hb dX6_isClosed_13 rfl (lv_at hl 0 rfl) ?_
  refine lv_iconst (v := 3) hx hb dX6_isClosed_14 (by decide) ?_
  refine x_ki (x_runV (As := [.int (3 : Int32)]) (rest := [.int x105]) C hml hR hS (m_X6_sumOfSocieties l gg x0 (3 : Int32) S101 h) b_X6_sumOfSocieties q_17_12 (by rw [hK_x0]; decide) (s_E_7 hK_x0) rfl rfl rfl rfl ⟨Nat.le_of_ble_eq_true rfl, Nat.le_of_ble_eq_true rfl⟩ rfl hl.1 (Nat.le_of_ble_eq_true rfl) dX6_isClosed_15 ⟨Nat.le_refl _, Nat.le_refl _⟩) hS (fun x107 S106 H locs hn hR hS => ?_)
  replace h := hn
  clear hn
  refine lv_iadd hx hb dX6_isClosed_18 ?_
  refine lv_topi (fun x108 ex108 => ?_)
  replace h := h x108 ex108
  refine lv_istore_n (lv' := [(1, .int x108), (0, .ref x0)]) hx hb dX6_isClosed_19 rfl hl (by decide) rfl (fun ls hl => ?_)
  refine lv_aload_n hx hb dX6_isClosed_20 rfl (lv_at hl 1 rfl) ?_
  obtain ⟨hK_x0, h⟩ := h
  refine x_g_224 C hR hK_x0 q_1_13 dX6_isClosed_21 ?_
  obtain ⟨a109, ea109, h⟩ := h
  refine x_some ea109 ?_
  obtain ⟨hK_a109, h⟩ := h
  refine x_g_98 C hR hK_a109 q_25_10 dX6_isClosed_24 ?_
  obtain ⟨a110, ea110, h⟩ := h
  refine x_some ea110 ?_
  obtain ⟨hK_a110, h⟩ := h
  refine x_g_128 C hR hK_a110 q_25_11 dX6_isClosed_27 ?_
  refine lv_topi (fun x111 ex111 => ?_)
  replace h := h x111 ex111
  refine lv_iload_n hx hb dX6_isClosed_30 rfl (lv_at hl 0 rfl) ?_
  refine lv_aload_n hx hb dX6_isClosed_31 rfl (lv_at hl 1 rfl) ?_
  refine x_g_224 C hR hK_x0 q_1_13 dX6_isClosed_32 ?_
  obtain ⟨a112, ea112, h⟩ := h
  refine x_some ea112 ?_
  obtain ⟨hK_a112, h⟩ := h
  refine x_g_98 C hR hK_a112 q_25_10 dX6_isClosed_35 ?_
  obtain ⟨a113, ea113, h⟩ := h
  refine x_some ea113 ?_
  obtain ⟨hK_a113, h⟩ := h
  refine x_ki (x_runV (As := []) (rest := [.int x108, .int x111]) C hml hR hS (m_X3_sumOfGone l gg a113 S106 h) b_X3_sumOfGone q_25_12 (by rw [hK_a113]; decide) (s_E_4 hK_a113) rfl rfl rfl rfl ⟨Nat.le_of_ble_eq_true rfl, Nat.le_of_ble_eq_true rfl⟩ rfl hl.1 (Nat.le_of_ble_eq_true rfl) dX6_isClosed_38 ⟨Nat.le_refl _, Nat.le_refl _⟩) hS (fun x115 S114 H locs hn hR hS => ?_)
  replace h := hn
  clear hn
  refine lv_iadd hx hb dX6_isClosed_41 ?_
  refine lv_topi (fun x116 ex116 => ?_)
  replace h := h x116 ex116
  refine lv_icmp_ne (tgt := 49) hx hb dX6_isClosed_42 (by decide) (fun hc117 => ?_) (fun hc117 => ?_)
  · replace h := h.1 hc117
    refine lv_iconst (v := 0) hx hb dX6_isClosed_49 (by decide) ?_
    exact t_X6_isClosed_b50 C hml hr hlocks  h H locs ls hR hS (lv_sub (l' := []) hl [] rfl)
  · replace h := h.2 hc117
    refine lv_iconst (v := 1) hx hb dX6_isClosed_45 (by decide) ?_
    refine lv_goto (tgt := 50) hx hb dX6_isClosed_46 (by decide) ?_
    exact t_X6_isClosed_b50 C hml hr hlocks  h H locs ls hR hS (lv_sub (l' := []) hl [] rfl)
theorem m_X6_isClosed (l : Launch) (gg : sG) (x0 : Nat) (S : sT) {Q : Int32 → sT → Prop} (h : w_X6_isClosed x0 S Q) : x_Mi l gg yX6_isClosed (x_ws yX6_isClosed cX6_isClosed 2 (some .boolean)) r_X6_isClosed [.ref x0] S Q 0 0 := by
  refine x_ofW (cc := cX6_isClosed) (own := RX6) (by decide +kernel) rfl (Nat.le_of_ble_eq_true rfl) ?_
  intro p e s m args below meth c C hml hr hlocks hin ht H locs ls hR hS hl
  exact t_X6_isClosed_b0 C hml hr hlocks h H locs ls hR hS (lv_sub (l' := [(0, .ref x0)]) hl [0] rfl)
def w_X6_thought_b24 (y0 : Int32) (S : sT)  (Q : Int32 → sT → Prop) : Prop :=
Q y0 S
def w_X6_thought_b0 (x0 : Nat) (x1 : Int32) (x2 : Int32) (S : sT)  (Q : Int32 → sT → Prop) : Prop :=
s_K S x0 = 8 ∧
    w_X6_fieldAt x0 x1 S (fun a102 S101 =>
    s_K S101 a102 = 3 ∧
    ∃ a103 : Nat, s_R S101 69 a102 = some a103 ∧
    ((x2 = 0 → s_K S101 a103 = 2 ∧
    ∀ x105 : Int32, x105 = s_I S101 38 a103 →
    w_X6_thought_b24 x105 S101  Q) ∧
    (¬ x2 = 0 → s_K S101 a103 = 2 ∧
    ∀ x106 : Int32, x106 = s_I S101 39 a103 →
    w_X6_thought_b24 x106 S101  Q)))
def w_X6_thought (x0 : Nat) (x1 : Int32) (x2 : Int32) (S : sT) (Q : Int32 → sT → Prop) : Prop := w_X6_thought_b0 x0 x1 x2 S Q
def r_X6_thought : Room := x_rm 4 85 0 0
theorem b_X6_thought : x_BV yX6_thought cX6_thought 4 (some .int) 2 := ⟨q_19_5, q_19_3, q_19_4, q_1_2, by decide +kernel⟩
set_option maxHeartbeats 4000000 in
theorem t_X6_thought_b24 {Q : Int32 → sT → Prop} (C : x_C p s m args c cX6_thought RX6 gg) (hml : c.maxLocals = 4) (hr : meth.sig.returnType = (some .int)) (hlocks : meth.locks = false) {y0 : Int32}  {S : sT}  (h : w_X6_thought_b24 y0 S  Q) : x_X p l e r_X6_thought s m args below meth c gg 4 0 0 (MQ below (va_Qi Q (fun S1 t => s_Rep gg S1 t.heap) (s_A gg)) args s 0 0 (s_A gg)) 24 [] [.int y0] S := by
  unfold w_X6_thought_b24 at h
  obtain ⟨hx, hb, -⟩ := id C
  intro H locs ls hR hS hl
  exact W.iret (v := y0) hx hb hr (fun t ht hW => ⟨⟨y0, S, rfl, h, x_rt ht hR⟩, hS.F ht⟩) hS.2.2 dX6_thought_24
set_option maxHeartbeats 4000000 in
theorem t_X6_thought_b0 {Q : Int32 → sT → Prop} (C : x_C p s m args c cX6_thought RX6 gg) (hml : c.maxLocals = 4) (hr : meth.sig.returnType = (some .int)) (hlocks : meth.locks = false) {x0 : Nat} {x1 : Int32} {x2 : Int32}  {S : sT}  (h : w_X6_thought_b0 x0 x1 x2 S  Q) : x_X p l e r_X6_thought s m args below meth c gg 4 0 0 (MQ below (va_Qi Q (fun S1 t => s_Rep gg S1 t.heap) (s_A gg)) args s 0 0 (s_A gg)) 0 [(0, .ref x0), (1, .int x1), (2, .int x2)] [] S := by
  unfold w_X6_thought_b0 at h
  obtain ⟨hx, hb, -⟩ := id C
  intro H locs ls hR hS hl
  refine lv_aload_n hx hb dX6_thought_0 rfl (lv_at hl 0 rfl) ?_
  refine lv_iload_n hx hb dX6_thought_1 rfl (lv_at hl 1 rfl) ?_
  obtain ⟨hK_x0, h⟩ := h
  refine x_kq (x_runV (As := [.int x1]) (rest := []) C hml hR hS (m_X6_fieldAt l gg x0 x1 S h) b_X6_fieldAt q_10_12 (by rw [hK_x0]; decide) (s_E_7 hK_x0) rfl rfl rfl rfl ⟨Nat.le_of_ble_eq_true rfl, Nat.le_of_ble_eq_true rfl⟩ rfl hl.1 (Nat.le_of_ble_eq_true rfl) dX6_thought_2 ⟨Nat.le_refl _, Nat.le_refl _⟩) hS (fun ra102 S101 H locs hn hR hS => ?_)
  replace h := hn
  clear hn
  obtain ⟨a102, za102, h⟩ := h
  refine x_some za102 ?_
  obtain ⟨hK_a102, h⟩ := h
  refine x_g_69 C hR hK_a102 q_11_2 dX6_thought_5 ?_
  obtain ⟨a103, ea103, h⟩ := h
  refine x_some ea103 ?_
  refine lv_astore_n (lv' := [(3, .ref a103), (0, .ref x0), (1, .int x1), (2, .int x2)]) hx hb dX6_thought_8 rfl hl (by decide) rfl (fun ls hl => ?_)
  refine lv_iload_n hx hb dX6_thought_9 rfl (lv_at hl 3 rfl) ?_
  refine lv_if_eq (tgt := 20) hx hb dX6_thought_10 (by decide) (fun hc104 => ?_) (fun hc104 => ?_)
  · replace h := h.1 hc104
    refine lv_aload_n hx hb dX6_thought_20 rfl (lv_at hl 0 rfl) ?_
    obtain ⟨hK_a103, h⟩ := h
    refine x_g_38 C hR hK_a103 q_19_7 dX6_thought_21 ?_
    refine lv_topi (fun x105 ex105 => ?_)
    replace h := h x105 ex105
    exact t_X6_thought_b24 C hml hr hlocks  h H locs ls hR hS (lv_sub (l' := []) hl [] rfl)
  · replace h := h.2 hc104
    refine lv_aload_n hx hb dX6_thought_13 rfl (lv_at hl 0 rfl) ?_
    obtain ⟨hK_a103, h⟩ := h
    refine x_g_39 C hR hK_a103 q_19_6 dX6_thought_14 ?_
    refine lv_topi (fun x106 ex106 => ?_)
    replace h := h x106 ex106
    refine lv_goto (tgt := 24) hx hb dX6_thought_17 (by decide) ?_
    exact t_X6_thought_b24 C hml hr hlocks  h H locs ls hR hS (lv_sub (l' := []) hl [] rfl)
theorem m_X6_thought (l : Launch) (gg : sG) (x0 : Nat) (x1 : Int32) (x2 : Int32) (S : sT) {Q : Int32 → sT → Prop} (h : w_X6_thought x0 x1 x2 S Q) : x_Mi l gg yX6_thought (x_ws yX6_thought cX6_thought 4 (some .int)) r_X6_thought [.ref x0, .int x1, .int x2] S Q 0 0 := by
  refine x_ofW (cc := cX6_thought) (own := RX6) (by decide +kernel) rfl (Nat.le_of_ble_eq_true rfl) ?_
  intro p e s m args below meth c C hml hr hlocks hin ht H locs ls hR hS hl
  exact t_X6_thought_b0 C hml hr hlocks h H locs ls hR hS (lv_sub (l' := [(0, .ref x0), (1, .int x1), (2, .int x2)]) hl [0, 1, 2] rfl)
def w_X6_sumOfOwners_b4  (Q : Int32 → sT → Prop) : Nat → Nat → Int32 → Int32 → Int32 → sT → Prop
  | 0 => fun _ _ _ _ _ => False
  | n + 1 => fun x0 x1 x2 x3 S =>
s_K S x0 = 8 ∧
    ∃ a101 : Nat, s_R S 224 x0 = some a101 ∧
    s_K S a101 = 4 ∧
    ∃ a102 : Nat, s_R S 97 a101 = some a102 ∧
    s_K S a102 = 1 ∧
    w_Jx4a65c_size_8abf5 a102 S (fun x104 S103 =>
    ((x104 ≤ x3 → Q x2 S103) ∧
    (¬ x104 ≤ x3 → s_K S103 x0 = 8 ∧
    w_X6_ofOwner x0 x3 x1 S103 (fun x107 S106 =>
    ∀ x108 : Int32, x108 = x2 + x107 →
    ∀ x109 : Int32, x109 = x3 + 1 →
    w_X6_sumOfOwners_b4  Q n x0 x1 x108 x109 S106))))
def w_X6_sumOfOwners_b0 (x0 : Nat) (x1 : Int32) (S : sT)  (Q : Int32 → sT → Prop) : Prop :=
∃ n9 : Nat, w_X6_sumOfOwners_b4  Q n9 x0 x1 (0 : Int32) (0 : Int32) S
def w_X6_sumOfOwners (x0 : Nat) (x1 : Int32) (S : sT) (Q : Int32 → sT → Prop) : Prop := w_X6_sumOfOwners_b0 x0 x1 S Q
def r_X6_sumOfOwners : Room := x_rm 5 108 0 0
theorem b_X6_sumOfOwners : x_BV yX6_sumOfOwners cX6_sumOfOwners 4 (some .int) 1 := ⟨q_17_10, q_17_8, q_17_9, q_1_2, by decide +kernel⟩
set_option maxHeartbeats 4000000 in
theorem t_X6_sumOfOwners_b4 {Q : Int32 → sT → Prop} (C : x_C p s m args c cX6_sumOfOwners RX6 gg) (hml : c.maxLocals = 4) (hr : meth.sig.returnType = (some .int)) (hlocks : meth.locks = false)   : ∀ (n : Nat) (x0 : Nat) (x1 : Int32) (x2 : Int32) (x3 : Int32) (S : sT), w_X6_sumOfOwners_b4  Q n x0 x1 x2 x3 S → x_X p l e r_X6_sumOfOwners s m args below meth c gg 4 0 0 (MQ below (va_Qi Q (fun S1 t => s_Rep gg S1 t.heap) (s_A gg)) args s 0 0 (s_A gg)) 4 [(0, .ref x0), (1, .int x1), (2, .int x2), (3, .int x3)] [] S := by
  obtain ⟨hx, hb, -⟩ := id C
  intro n
  induction n with
  | zero => intro x0 x1 x2 x3 S h; exact absurd h id
  | succ n ih =>
    intro x0 x1 x2 x3 S h H locs ls hR hS hl
    unfold w_X6_sumOfOwners_b4 at h
    refine lv_iload_n hx hb dX6_sumOfOwners_4 rfl (lv_at hl 3 rfl) ?_
    refine lv_aload_n hx hb dX6_sumOfOwners_5 rfl (lv_at hl 0 rfl) ?_
    obtain ⟨hK_x0, h⟩ := h
    refine x_g_224 C hR hK_x0 q_1_13 dX6_sumOfOwners_6 ?_
    obtain ⟨a101, ea101, h⟩ := h
    refine x_some ea101 ?_
    obtain ⟨hK_a101, h⟩ := h
    refine x_g_97 C hR hK_a101 q_7_5 dX6_sumOfOwners_9 ?_
    obtain ⟨a102, ea102, h⟩ := h
    refine x_some ea102 ?_
    obtain ⟨hK_a102, h⟩ := h
    refine x_ki (x_runV (As := []) (rest := [.int x3]) C hml hR hS (m_Jx4a65c_size_8abf5 l gg a102 S h) b_Jx4a65c_size_8abf5 q_3_18 (by rw [hK_a102]; decide) (s_E_0 hK_a102) rfl rfl rfl rfl ⟨Nat.le_of_ble_eq_true rfl, Nat.le_of_ble_eq_true rfl⟩ rfl hl.1 (Nat.le_of_ble_eq_true rfl) dX6_sumOfOwners_12 ⟨Nat.le_refl _, Nat.le_refl _⟩) hS (fun x104 S103 H locs hn hR hS => ?_)
    replace h := hn
    clear hn
    refine lv_icmp_ge (tgt := 33) hx hb dX6_sumOfOwners_15 (by decide) (fun hc105 => ?_) (fun hc105 => ?_)
    · replace h := h.1 hc105
      refine lv_iload_n hx hb dX6_sumOfOwners_33 rfl (lv_at hl 2 rfl) ?_
      exact W.iret (v := x2) hx hb hr (fun t ht hW => ⟨⟨x2, S103, rfl, h, x_rt ht hR⟩, hS.F ht⟩) hS.2.2 dX6_sumOfOwners_34
    · replace h := h.2 hc105
      refine lv_iload_n hx hb dX6_sumOfOwners_18 rfl (lv_at hl 2 rfl) ?_
      refine lv_aload_n hx hb dX6_sumOfOwners_19 rfl (lv_at hl 0 rfl) ?_
      refine lv_iload_n hx hb dX6_sumOfOwners_20 rfl (lv_at hl 3 rfl) ?_
      refine lv_iload_n hx hb dX6_sumOfOwners_21 rfl (lv_at hl 1 rfl) ?_
      obtain ⟨hK_x0, h⟩ := h
      refine x_ki (x_runV (As := [.int x3, .int x1]) (rest := [.int x2]) C hml hR hS (m_X6_ofOwner l gg x0 x3 x1 S103 h) b_X6_ofOwner q_17_11 (by rw [hK_x0]; decide) (s_E_7 hK_x0) rfl rfl rfl rfl ⟨Nat.le_of_ble_eq_true rfl, Nat.le_of_ble_eq_true rfl⟩ rfl hl.1 (Nat.le_of_ble_eq_true rfl) dX6_sumOfOwners_22 ⟨Nat.le_refl _, Nat.le_refl _⟩) hS (fun x107 S106 H locs hn hR hS => ?_)
      replace h := hn
      clear hn
      refine lv_iadd hx hb dX6_sumOfOwners_25 ?_
      refine lv_topi (fun x108 ex108 => ?_)
      replace h := h x108 ex108
      refine lv_istore_n (lv' := [(2, .int x108), (0, .ref x0), (1, .int x1), (3, .int x3)]) hx hb dX6_sumOfOwners_26 rfl hl (by decide) rfl (fun ls hl => ?_)
      obtain ⟨x109, ex109⟩ : ∃ z : Int32, z = x3 + 1 := ⟨_, rfl⟩
      replace h := h x109 ex109
      refine lv_iinc (v := x109) (lv' := [(3, .int x109), (2, .int x108), (0, .ref x0), (1, .int x1)]) hx hb dX6_sumOfOwners_27 hl (k := 3) rfl (by rw [ex109]; rfl) (by decide) rfl (fun ls hl => ?_)
      refine lv_goto (tgt := 4) hx hb dX6_sumOfOwners_30 (by decide) ?_
      exact ih x0 x1 x108 x109 S106 h H locs ls hR hS (lv_sub (l' := [(0, .ref x0), (1, .int x1), (2, .int x108), (3, .int x109)]) hl [2, 3, 1, 0] rfl)
set_option maxHeartbeats 4000000 in
theorem t_X6_sumOfOwners_b0 {Q : Int32 → sT → Prop} (C : x_C p s m args c cX6_sumOfOwners RX6 gg) (hml : c.maxLocals = 4) (hr : meth.sig.returnType = (some .int)) (hlocks : meth.locks = false) {x0 : Nat} {x1 : Int32}  {S : sT}  (h : w_X6_sumOfOwners_b0 x0 x1 S  Q) : x_X p l e r_X6_sumOfOwners s m args below meth c gg 4 0 0 (MQ below (va_Qi Q (fun S1 t => s_Rep gg S1 t.heap) (s_A gg)) args s 0 0 (s_A gg)) 0 [(0, .ref x0), (1, .int x1)] [] S := by
  unfold w_X6_sumOfOwners_b0 at h
  obtain ⟨hx, hb, -⟩ := id C
  intro H locs ls hR hS hl
  refine lv_iconst (v := 0) hx hb dX6_sumOfOwners_0 (by decide) ?_
  refine lv_istore_n (lv' := [(2, .int (0 : Int32)), (0, .ref x0), (1, .int x1)]) hx hb dX6_sumOfOwners_1 rfl hl (by decide) rfl (fun ls hl => ?_)
  refine lv_iconst (v := 0) hx hb dX6_sumOfOwners_2 (by decide) ?_
  refine lv_istore_n (lv' := [(3, .int (0 : Int32)), (2, .int (0 : Int32)), (0, .ref x0), (1, .int x1)]) hx hb dX6_sumOfOwners_3 rfl hl (by decide) rfl (fun ls hl => ?_)
  obtain ⟨n9, h⟩ := h
  exact t_X6_sumOfOwners_b4 C hml hr hlocks  n9 x0 x1 (0 : Int32) (0 : Int32) S h H locs ls hR hS (lv_sub (l' := [(0, .ref x0), (1, .int x1), (2, .int (0 : Int32)), (3, .int (0 : Int32))]) hl [2, 3, 1, 0] rfl)
theorem m_X6_sumOfOwners (l : Launch) (gg : sG) (x0 : Nat) (x1 : Int32) (S : sT) {Q : Int32 → sT → Prop} (h : w_X6_sumOfOwners x0 x1 S Q) : x_Mi l gg yX6_sumOfOwners (x_ws yX6_sumOfOwners cX6_sumOfOwners 4 (some .int)) r_X6_sumOfOwners [.ref x0, .int x1] S Q 0 0 := by
  refine x_ofW (cc := cX6_sumOfOwners) (own := RX6) (by decide +kernel) rfl (Nat.le_of_ble_eq_true rfl) ?_
  intro p e s m args below meth c C hml hr hlocks hin ht H locs ls hR hS hl
  exact t_X6_sumOfOwners_b0 C hml hr hlocks h H locs ls hR hS (lv_sub (l' := [(0, .ref x0), (1, .int x1)]) hl [0, 1] rfl)
def w_X6_many_b0 (x0 : Nat) (x1 : Int32) (S : sT)  (Q : Int32 → sT → Prop) : Prop :=
((x1 = 0 → s_K S x0 = 8 ∧
    ∃ a102 : Nat, s_R S 224 x0 = some a102 ∧
    s_K S a102 = 4 ∧
    ∃ a103 : Nat, s_R S 96 a102 = some a103 ∧
    s_K S a103 = 1 ∧
    w_Jx4a65c_size_8abf5 a103 S (fun x105 S104 =>
    Q x105 S104)) ∧
    (x1 = 1 → s_K S x0 = 8 ∧
    ∃ a107 : Nat, s_R S 224 x0 = some a107 ∧
    s_K S a107 = 4 ∧
    ∃ a108 : Nat, s_R S 97 a107 = some a108 ∧
    s_K S a108 = 1 ∧
    w_Jx4a65c_size_8abf5 a108 S (fun x110 S109 =>
    Q x110 S109)) ∧
    (x1 = 2 → s_K S x0 = 8 ∧
    ∃ a112 : Nat, s_R S 224 x0 = some a112 ∧
    s_K S a112 = 4 ∧
    ∀ x113 : Int32, x113 = s_I S 99 a112 →
    Q x113 S) ∧
    (x1 = 3 → s_K S x0 = 8 ∧
    ∃ a115 : Nat, s_R S 224 x0 = some a115 ∧
    s_K S a115 = 4 ∧
    w_X2_templeDay a115 S (fun x117 S116 =>
    Q x117 S116)) ∧
    (x1 = 4 → s_K S x0 = 8 ∧
    ∃ a119 : Nat, s_R S 224 x0 = some a119 ∧
    s_K S a119 = 4 ∧
    w_X2_isDark a119 S (fun x121 S120 =>
    w_X6_oneIf x121 S120 (fun x123 S122 =>
    Q x123 S122))) ∧
    (x1 = 5 → s_K S x0 = 8 ∧
    w_X6_sumOfFields x0 (8 : Int32) S (fun x126 S125 =>
    Q x126 S125)) ∧
    (x1 = 6 → s_K S x0 = 8 ∧
    w_X6_sumOfOwners x0 (0 : Int32) S (fun x129 S128 =>
    Q x129 S128)) ∧
    (x1 = 7 → s_K S x0 = 8 ∧
    w_X6_sumOfSocieties x0 (2 : Int32) S (fun x132 S131 =>
    Q x132 S131)) ∧
    (x1 = 8 → s_K S x0 = 8 ∧
    w_X6_sumOfOwners x0 (3 : Int32) S (fun x135 S134 =>
    Q x135 S134)) ∧
    (x1 = 9 → s_K S x0 = 8 ∧
    ∃ a137 : Nat, s_R S 224 x0 = some a137 ∧
    s_K S a137 = 4 ∧
    ∀ x138 : Int32, x138 = s_I S 101 a137 →
    Q x138 S) ∧
    (x1 = 10 → s_K S x0 = 8 ∧
    ∃ a140 : Nat, s_R S 224 x0 = some a140 ∧
    s_K S a140 = 4 ∧
    ∀ x141 : Int32, x141 = s_I S 102 a140 →
    Q x141 S) ∧
    (x1 = 11 → s_K S x0 = 8 ∧
    w_X6_sumOfStones x0 S (fun x144 S143 =>
    Q x144 S143)) ∧
    ((¬ x1 = 0 ∧ ¬ x1 = 1 ∧ ¬ x1 = 2 ∧ ¬ x1 = 3 ∧ ¬ x1 = 4 ∧ ¬ x1 = 5 ∧ ¬ x1 = 6 ∧ ¬ x1 = 7 ∧ ¬ x1 = 8 ∧ ¬ x1 = 9 ∧ ¬ x1 = 10 ∧ ¬ x1 = 11) → False))
def w_X6_many (x0 : Nat) (x1 : Int32) (S : sT) (Q : Int32 → sT → Prop) : Prop := w_X6_many_b0 x0 x1 S Q
def r_X6_many : Room := x_rm 6 133 0 0
theorem b_X6_many : x_BV yX6_many cX6_many 2 (some .int) 1 := ⟨q_16_18, q_16_16, q_16_17, q_1_2, by decide +kernel⟩
set_option maxHeartbeats 4000000 in
theorem t_X6_many_b0 {Q : Int32 → sT → Prop} (C : x_C p s m args c cX6_many RX6 gg) (hml : c.maxLocals = 2) (hr : meth.sig.returnType = (some .int)) (hlocks : meth.locks = false) {x0 : Nat} {x1 : Int32}  {S : sT}  (h : w_X6_many_b0 x0 x1 S  Q) : x_X p l e r_X6_many s m args below meth c gg 2 0 0 (MQ below (va_Qi Q (fun S1 t => s_Rep gg S1 t.heap) (s_A gg)) args s 0 0 (s_A gg)) 0 [(0, .ref x0), (1, .int x1)] [] S := by
  unfold w_X6_many_b0 at h
  obtain ⟨hx, hb, -⟩ := id C
  intro H locs ls hR hS hl
  refine lv_iload_n hx hb dX6_many_0 rfl (lv_at hl 1 rfl) ?_
  by_cases hc101 : x1 = 0
  · have h := h.1 hc101
    refine lv_tableIn (off := 63) (tgt := 64) hx hb dX6_many_1 (by rw [hc101]; decide) (by rw [hc101]; decide) (by rw [hc101]; rfl) (by decide) ?_
    refine lv_aload_n hx hb dX6_many_64 rfl (lv_at hl 0 rfl) ?_
    obtain ⟨hK_x0, h⟩ := h
    refine x_g_224 C hR hK_x0 q_1_13 dX6_many_65 ?_
    obtain ⟨a102, ea102, h⟩ := h
    refine x_some ea102 ?_
    obtain ⟨hK_a102, h⟩ := h
    refine x_g_96 C hR hK_a102 q_3_14 dX6_many_68 ?_
    obtain ⟨a103, ea103, h⟩ := h
    refine x_some ea103 ?_
    obtain ⟨hK_a103, h⟩ := h
    refine x_ki (x_runV (As := []) (rest := []) C hml hR hS (m_Jx4a65c_size_8abf5 l gg a103 S h) b_Jx4a65c_size_8abf5 q_3_18 (by rw [hK_a103]; decide) (s_E_0 hK_a103) rfl rfl rfl rfl ⟨Nat.le_of_ble_eq_true rfl, Nat.le_of_ble_eq_true rfl⟩ rfl hl.1 (Nat.le_of_ble_eq_true rfl) dX6_many_71 ⟨Nat.le_refl _, Nat.le_refl _⟩) hS (fun x105 S104 H locs hn hR hS => ?_)
    replace h := hn
    clear hn
    exact W.iret (v := x105) hx hb hr (fun t ht hW => ⟨⟨x105, S104, rfl, h, x_rt ht hR⟩, hS.F ht⟩) hS.2.2 dX6_many_74
  · by_cases hc106 : x1 = 1
    · have h := h.2.1 hc106
      refine lv_tableIn (off := 74) (tgt := 75) hx hb dX6_many_1 (by rw [hc106]; decide) (by rw [hc106]; decide) (by rw [hc106]; rfl) (by decide) ?_
      refine lv_aload_n hx hb dX6_many_75 rfl (lv_at hl 0 rfl) ?_
      obtain ⟨hK_x0, h⟩ := h
      refine x_g_224 C hR hK_x0 q_1_13 dX6_many_76 ?_
      obtain ⟨a107, ea107, h⟩ := h
      refine x_some ea107 ?_
      obtain ⟨hK_a107, h⟩ := h
      refine x_g_97 C hR hK_a107 q_7_5 dX6_many_79 ?_
      obtain ⟨a108, ea108, h⟩ := h
      refine x_some ea108 ?_
      obtain ⟨hK_a108, h⟩ := h
      refine x_ki (x_runV (As := []) (rest := []) C hml hR hS (m_Jx4a65c_size_8abf5 l gg a108 S h) b_Jx4a65c_size_8abf5 q_3_18 (by rw [hK_a108]; decide) (s_E_0 hK_a108) rfl rfl rfl rfl ⟨Nat.le_of_ble_eq_true rfl, Nat.le_of_ble_eq_true rfl⟩ rfl hl.1 (Nat.le_of_ble_eq_true rfl) dX6_many_82 ⟨Nat.le_refl _, Nat.le_refl _⟩) hS (fun x110 S109 H locs hn hR hS => ?_)
      replace h := hn
      clear hn
      exact W.iret (v := x110) hx hb hr (fun t ht hW => ⟨⟨x110, S109, rfl, h, x_rt ht hR⟩, hS.F ht⟩) hS.2.2 dX6_many_85
    · by_cases hc111 : x1 = 2
      · have h := h.2.2.1 hc111
        refine lv_tableIn (off := 85) (tgt := 86) hx hb dX6_many_1 (by rw [hc111]; decide) (by rw [hc111]; decide) (by rw [hc111]; rfl) (by decide) ?_
        refine lv_aload_n hx hb dX6_many_86 rfl (lv_at hl 0 rfl) ?_
        obtain ⟨hK_x0, h⟩ := h
        refine x_g_224 C hR hK_x0 q_1_13 dX6_many_87 ?_
        obtain ⟨a112, ea112, h⟩ := h
        refine x_some ea112 ?_
        obtain ⟨hK_a112, h⟩ := h
        refine x_g_99 C hR hK_a112 q_16_19 dX6_many_90 ?_
        refine lv_topi (fun x113 ex113 => ?_)
        replace h := h x113 ex113
        exact W.iret (v := x113) hx hb hr (fun t ht hW => ⟨⟨x113, S, rfl, h, x_rt ht hR⟩, hS.F ht⟩) hS.2.2 dX6_many_93
      · by_cases hc114 : x1 = 3
        · have h := h.2.2.2.1 hc114
          refine lv_tableIn (off := 93) (tgt := 94) hx hb dX6_many_1 (by rw [hc114]; decide) (by rw [hc114]; decide) (by rw [hc114]; rfl) (by decide) ?_
          refine lv_aload_n hx hb dX6_many_94 rfl (lv_at hl 0 rfl) ?_
          obtain ⟨hK_x0, h⟩ := h
          refine x_g_224 C hR hK_x0 q_1_13 dX6_many_95 ?_
          obtain ⟨a115, ea115, h⟩ := h
          refine x_some ea115 ?_
          obtain ⟨hK_a115, h⟩ := h
          refine x_ki (x_runV (As := []) (rest := []) C hml hR hS (m_X2_templeDay l gg a115 S h) b_X2_templeDay q_14_10 (by rw [hK_a115]; decide) (s_E_3 hK_a115) rfl rfl rfl rfl ⟨Nat.le_of_ble_eq_true rfl, Nat.le_of_ble_eq_true rfl⟩ rfl hl.1 (Nat.le_of_ble_eq_true rfl) dX6_many_98 ⟨Nat.le_refl _, Nat.le_refl _⟩) hS (fun x117 S116 H locs hn hR hS => ?_)
          replace h := hn
          clear hn
          exact W.iret (v := x117) hx hb hr (fun t ht hW => ⟨⟨x117, S116, rfl, h, x_rt ht hR⟩, hS.F ht⟩) hS.2.2 dX6_many_101
        · by_cases hc118 : x1 = 4
          · have h := h.2.2.2.2.1 hc118
            refine lv_tableIn (off := 101) (tgt := 102) hx hb dX6_many_1 (by rw [hc118]; decide) (by rw [hc118]; decide) (by rw [hc118]; rfl) (by decide) ?_
            refine lv_aload_n hx hb dX6_many_102 rfl (lv_at hl 0 rfl) ?_
            obtain ⟨hK_x0, h⟩ := h
            refine x_g_224 C hR hK_x0 q_1_13 dX6_many_103 ?_
            obtain ⟨a119, ea119, h⟩ := h
            refine x_some ea119 ?_
            obtain ⟨hK_a119, h⟩ := h
            refine x_ki (x_runV (As := []) (rest := []) C hml hR hS (m_X2_isDark l gg a119 S h) b_X2_isDark q_16_22 (by rw [hK_a119]; decide) (s_E_3 hK_a119) rfl rfl rfl rfl ⟨Nat.le_of_ble_eq_true rfl, Nat.le_of_ble_eq_true rfl⟩ rfl hl.1 (Nat.le_of_ble_eq_true rfl) dX6_many_106 ⟨Nat.le_refl _, Nat.le_refl _⟩) hS (fun x121 S120 H locs hn hR hS => ?_)
            replace h := hn
            clear hn
            refine x_ki (x_runS (As := [.int x121]) (rest := []) C hml hR hS (m_X6_oneIf l gg x121 S120 h) b_X6_oneIf q_11_18 rfl rfl ⟨Nat.le_of_ble_eq_true rfl, Nat.le_of_ble_eq_true rfl⟩ rfl hl.1 (Nat.le_of_ble_eq_true rfl) dX6_many_109 ⟨Nat.le_refl _, Nat.le_refl _⟩) hS (fun x123 S122 H locs hn hR hS => ?_)
            replace h := hn
            clear hn
            exact W.iret (v := x123) hx hb hr (fun t ht hW => ⟨⟨x123, S122, rfl, h, x_rt ht hR⟩, hS.F ht⟩) hS.2.2 dX6_many_112
          · by_cases hc124 : x1 = 5
            · have h := h.2.2.2.2.2.1 hc124
              refine lv_tableIn (off := 112) (tgt := 113) hx hb dX6_many_1 (by rw [hc124]; decide) (by rw [hc124]; decide) (by rw [hc124]; rfl) (by decide) ?_
              refine lv_aload_n hx hb dX6_many_113 rfl (lv_at hl 0 rfl) ?_
              refine lv_bipush (v := 8) hx hb dX6_many_114 (by decide) ?_
              obtain ⟨hK_x0, h⟩ := h
              refine x_ki (x_runV (As := [.int (8 : Int32)]) (rest := []) C hml hR hS (m_X6_sumOfFields l gg x0 (8 : Int32) S h) b_X6_sumOfFields q_17_2 (by rw [hK_x0]; decide) (s_E_7 hK_x0) rfl rfl rfl rfl ⟨Nat.le_of_ble_eq_true rfl, Nat.le_of_ble_eq_true rfl⟩ rfl hl.1 (Nat.le_of_ble_eq_true rfl) dX6_many_116 ⟨Nat.le_refl _, Nat.le_refl _⟩) hS (fun x126 S125 H locs hn hR hS => ?_)
              replace h := hn
              clear hn
              exact W.iret (v := x126) hx hb hr (fun t ht hW => ⟨⟨x126, S125, rfl, h, x_rt ht hR⟩, hS.F ht⟩) hS.2.2 dX6_many_119
            · by_cases hc127 : x1 = 6
              · have h := h.2.2.2.2.2.2.1 hc127
                refine lv_tableIn (off := 119) (tgt := 120) hx hb dX6_many_1 (by rw [hc127]; decide) (by rw [hc127]; decide) (by rw [hc127]; rfl) (by decide) ?_
                refine lv_aload_n hx hb dX6_many_120 rfl (lv_at hl 0 rfl) ?_
                refine lv_iconst (v := 0) hx hb dX6_many_121 (by decide) ?_
                obtain ⟨hK_x0, h⟩ := h
                refine x_ki (x_runV (As := [.int (0 : Int32)]) (rest := []) C hml hR hS (m_X6_sumOfOwners l gg x0 (0 : Int32) S h) b_X6_sumOfOwners q_17_7 (by rw [hK_x0]; decide) (s_E_7 hK_x0) rfl rfl rfl rfl ⟨Nat.le_of_ble_eq_true rfl, Nat.le_of_ble_eq_true rfl⟩ rfl hl.1 (Nat.le_of_ble_eq_true rfl) dX6_many_122 ⟨Nat.le_refl _, Nat.le_refl _⟩) hS (fun x129 S128 H locs hn hR hS => ?_)
                replace h := hn
                clear hn
                exact W.iret (v := x129) hx hb hr (fun t ht hW => ⟨⟨x129, S128, rfl, h, x_rt ht hR⟩, hS.F ht⟩) hS.2.2 dX6_many_125
              · by_cases hc130 : x1 = 7
                · have h := h.2.2.2.2.2.2.2.1 hc130
                  refine lv_tableIn (off := 125) (tgt := 126) hx hb dX6_many_1 (by rw [hc130]; decide) (by rw [hc130]; decide) (by rw [hc130]; rfl) (by decide) ?_
                  refine lv_aload_n hx hb dX6_many_126 rfl (lv_at hl 0 rfl) ?_
                  refine lv_iconst (v := 2) hx hb dX6_many_127 (by decide) ?_
                  obtain ⟨hK_x0, h⟩ := h
                  refine x_ki (x_runV (As := [.int (2 : Int32)]) (rest := []) C hml hR hS (m_X6_sumOfSocieties l gg x0 (2 : Int32) S h) b_X6_sumOfSocieties q_17_12 (by rw [hK_x0]; decide) (s_E_7 hK_x0) rfl rfl rfl rfl ⟨Nat.le_of_ble_eq_true rfl, Nat.le_of_ble_eq_true rfl⟩ rfl hl.1 (Nat.le_of_ble_eq_true rfl) dX6_many_128 ⟨Nat.le_refl _, Nat.le_refl _⟩) hS (fun x132 S131 H locs hn hR hS => ?_)
                  replace h := hn
                  clear hn
                  exact W.iret (v := x132) hx hb hr (fun t ht hW => ⟨⟨x132, S131, rfl, h, x_rt ht hR⟩, hS.F ht⟩) hS.2.2 dX6_many_131
                · by_cases hc133 : x1 = 8
                  · have h := h.2.2.2.2.2.2.2.2.1 hc133
                    refine lv_tableIn (off := 131) (tgt := 132) hx hb dX6_many_1 (by rw [hc133]; decide) (by rw [hc133]; decide) (by rw [hc133]; rfl) (by decide) ?_
                    refine lv_aload_n hx hb dX6_many_132 rfl (lv_at hl 0 rfl) ?_
                    refine lv_iconst (v := 3) hx hb dX6_many_133 (by decide) ?_
                    obtain ⟨hK_x0, h⟩ := h
                    refine x_ki (x_runV (As := [.int (3 : Int32)]) (rest := []) C hml hR hS (m_X6_sumOfOwners l gg x0 (3 : Int32) S h) b_X6_sumOfOwners q_17_7 (by rw [hK_x0]; decide) (s_E_7 hK_x0) rfl rfl rfl rfl ⟨Nat.le_of_ble_eq_true rfl, Nat.le_of_ble_eq_true rfl⟩ rfl hl.1 (Nat.le_of_ble_eq_true rfl) dX6_many_134 ⟨Nat.le_refl _, Nat.le_refl _⟩) hS (fun x135 S134 H locs hn hR hS => ?_)
                    replace h := hn
                    clear hn
                    exact W.iret (v := x135) hx hb hr (fun t ht hW => ⟨⟨x135, S134, rfl, h, x_rt ht hR⟩, hS.F ht⟩) hS.2.2 dX6_many_137
                  · by_cases hc136 : x1 = 9
                    · have h := h.2.2.2.2.2.2.2.2.2.1 hc136
                      refine lv_tableIn (off := 137) (tgt := 138) hx hb dX6_many_1 (by rw [hc136]; decide) (by rw [hc136]; decide) (by rw [hc136]; rfl) (by decide) ?_
                      refine lv_aload_n hx hb dX6_many_138 rfl (lv_at hl 0 rfl) ?_
                      obtain ⟨hK_x0, h⟩ := h
                      refine x_g_224 C hR hK_x0 q_1_13 dX6_many_139 ?_
                      obtain ⟨a137, ea137, h⟩ := h
                      refine x_some ea137 ?_
                      obtain ⟨hK_a137, h⟩ := h
                      refine x_g_101 C hR hK_a137 q_16_20 dX6_many_142 ?_
                      refine lv_topi (fun x138 ex138 => ?_)
                      replace h := h x138 ex138
                      exact W.iret (v := x138) hx hb hr (fun t ht hW => ⟨⟨x138, S, rfl, h, x_rt ht hR⟩, hS.F ht⟩) hS.2.2 dX6_many_145
                    · by_cases hc139 : x1 = 10
                      · have h := h.2.2.2.2.2.2.2.2.2.2.1 hc139
                        refine lv_tableIn (off := 145) (tgt := 146) hx hb dX6_many_1 (by rw [hc139]; decide) (by rw [hc139]; decide) (by rw [hc139]; rfl) (by decide) ?_
                        refine lv_aload_n hx hb dX6_many_146 rfl (lv_at hl 0 rfl) ?_
                        obtain ⟨hK_x0, h⟩ := h
                        refine x_g_224 C hR hK_x0 q_1_13 dX6_many_147 ?_
                        obtain ⟨a140, ea140, h⟩ := h
                        refine x_some ea140 ?_
                        obtain ⟨hK_a140, h⟩ := h
                        refine x_g_102 C hR hK_a140 q_16_21 dX6_many_150 ?_
                        refine lv_topi (fun x141 ex141 => ?_)
                        replace h := h x141 ex141
                        exact W.iret (v := x141) hx hb hr (fun t ht hW => ⟨⟨x141, S, rfl, h, x_rt ht hR⟩, hS.F ht⟩) hS.2.2 dX6_many_153
                      · by_cases hc142 : x1 = 11
                        · have h := h.2.2.2.2.2.2.2.2.2.2.2.1 hc142
                          refine lv_tableIn (off := 153) (tgt := 154) hx hb dX6_many_1 (by rw [hc142]; decide) (by rw [hc142]; decide) (by rw [hc142]; rfl) (by decide) ?_
                          refine lv_aload_n hx hb dX6_many_154 rfl (lv_at hl 0 rfl) ?_
                          obtain ⟨hK_x0, h⟩ := h
                          refine x_ki (x_runV (As := []) (rest := []) C hml hR hS (m_X6_sumOfStones l gg x0 S h) b_X6_sumOfStones q_17_17 (by rw [hK_x0]; decide) (s_E_7 hK_x0) rfl rfl rfl rfl ⟨Nat.le_of_ble_eq_true rfl, Nat.le_of_ble_eq_true rfl⟩ rfl hl.1 (Nat.le_of_ble_eq_true rfl) dX6_many_155 ⟨Nat.le_refl _, Nat.le_refl _⟩) hS (fun x144 S143 H locs hn hR hS => ?_)
                          replace h := hn
                          clear hn
                          exact W.iret (v := x144) hx hb hr (fun t ht hW => ⟨⟨x144, S143, rfl, h, x_rt ht hR⟩, hS.F ht⟩) hS.2.2 dX6_many_158
                        · have h := h.2.2.2.2.2.2.2.2.2.2.2.2 ⟨hc101, hc106, hc111, hc114, hc118, hc124, hc127, hc130, hc133, hc136, hc139, hc142⟩
                          refine lv_tableOut (tgt := 159) hx hb dX6_many_1 (x_tout 0 11 (fun q1 q2 => ?_)) (by decide) ?_
                          · rcases (show x1.toInt = 0 ∨ x1.toInt = 1 ∨ x1.toInt = 2 ∨ x1.toInt = 3 ∨ x1.toInt = 4 ∨ x1.toInt = 5 ∨ x1.toInt = 6 ∨ x1.toInt = 7 ∨ x1.toInt = 8 ∨ x1.toInt = 9 ∨ x1.toInt = 10 ∨ x1.toInt = 11 by omega) with z | z | z | z | z | z | z | z | z | z | z | z
                            · exact hc101 (x_ti z (by decide))
                            · exact hc106 (x_ti z (by decide))
                            · exact hc111 (x_ti z (by decide))
                            · exact hc114 (x_ti z (by decide))
                            · exact hc118 (x_ti z (by decide))
                            · exact hc124 (x_ti z (by decide))
                            · exact hc127 (x_ti z (by decide))
                            · exact hc130 (x_ti z (by decide))
                            · exact hc133 (x_ti z (by decide))
                            · exact hc136 (x_ti z (by decide))
                            · exact hc139 (x_ti z (by decide))
                            · exact hc142 (x_ti z (by decide))
                          exact h.elim
theorem m_X6_many (l : Launch) (gg : sG) (x0 : Nat) (x1 : Int32) (S : sT) {Q : Int32 → sT → Prop} (h : w_X6_many x0 x1 S Q) : x_Mi l gg yX6_many (x_ws yX6_many cX6_many 2 (some .int)) r_X6_many [.ref x0, .int x1] S Q 0 0 := by
  refine x_ofW (cc := cX6_many) (own := RX6) (by decide +kernel) rfl (Nat.le_of_ble_eq_true rfl) ?_
  intro p e s m args below meth c C hml hr hlocks hin ht H locs ls hR hS hl
  exact t_X6_many_b0 C hml hr hlocks h H locs ls hR hS (lv_sub (l' := [(0, .ref x0), (1, .int x1)]) hl [0, 1] rfl)
def w_X6_suspect_b0 (x0 : Nat) (x1 : Int32) (S : sT)  (Q : Int32 → sT → Prop) : Prop :=
s_K S x0 = 8 ∧
    w_X6_societyAt x0 x1 S (fun a102 S101 =>
    s_K S101 a102 = 7 ∧
    w_X5_mostAboveNotch a102 S101 (fun r104 S103 =>
    w_X6_numberOf r104 S103 (fun x106 S105 =>
    Q x106 S105)))
def w_X6_suspect (x0 : Nat) (x1 : Int32) (S : sT) (Q : Int32 → sT → Prop) : Prop := w_X6_suspect_b0 x0 x1 S Q
def r_X6_suspect : Room := x_rm 4 91 0 0
theorem b_X6_suspect : x_BV yX6_suspect cX6_suspect 2 (some .int) 1 := ⟨q_24_23, q_24_21, q_24_22, q_1_2, by decide +kernel⟩
set_option maxHeartbeats 4000000 in
theorem t_X6_suspect_b0 {Q : Int32 → sT → Prop} (C : x_C p s m args c cX6_suspect RX6 gg) (hml : c.maxLocals = 2) (hr : meth.sig.returnType = (some .int)) (hlocks : meth.locks = false) {x0 : Nat} {x1 : Int32}  {S : sT}  (h : w_X6_suspect_b0 x0 x1 S  Q) : x_X p l e r_X6_suspect s m args below meth c gg 2 0 0 (MQ below (va_Qi Q (fun S1 t => s_Rep gg S1 t.heap) (s_A gg)) args s 0 0 (s_A gg)) 0 [(0, .ref x0), (1, .int x1)] [] S := by
  unfold w_X6_suspect_b0 at h
  obtain ⟨hx, hb, -⟩ := id C
  intro H locs ls hR hS hl
  refine lv_aload_n hx hb dX6_suspect_0 rfl (lv_at hl 0 rfl) ?_
  refine lv_iload_n hx hb dX6_suspect_1 rfl (lv_at hl 1 rfl) ?_
  obtain ⟨hK_x0, h⟩ := h
  refine x_kq (x_runV (As := [.int x1]) (rest := []) C hml hR hS (m_X6_societyAt l gg x0 x1 S h) b_X6_societyAt q_7_6 (by rw [hK_x0]; decide) (s_E_7 hK_x0) rfl rfl rfl rfl ⟨Nat.le_of_ble_eq_true rfl, Nat.le_of_ble_eq_true rfl⟩ rfl hl.1 (Nat.le_of_ble_eq_true rfl) dX6_suspect_2 ⟨Nat.le_refl _, Nat.le_refl _⟩) hS (fun ra102 S101 H locs hn hR hS => ?_)
  replace h := hn
  clear hn
  obtain ⟨a102, za102, h⟩ := h
  refine x_some za102 ?_
  obtain ⟨hK_a102, h⟩ := h
  refine x_kq (x_runV (As := []) (rest := []) C hml hR hS (m_X5_mostAboveNotch l gg a102 S101 h) b_X5_mostAboveNotch q_25_0 (by rw [hK_a102]; decide) (s_E_6 hK_a102) rfl rfl rfl rfl ⟨Nat.le_of_ble_eq_true rfl, Nat.le_of_ble_eq_true rfl⟩ rfl hl.1 (Nat.le_of_ble_eq_true rfl) dX6_suspect_5 ⟨Nat.le_refl _, Nat.le_refl _⟩) hS (fun r104 S103 H locs hn hR hS => ?_)
  replace h := hn
  clear hn
  refine x_ki (x_runS (As := [va_rf r104]) (rest := []) C hml hR hS (m_X6_numberOf l gg r104 S103 h) b_X6_numberOf q_15_11 rfl rfl ⟨Nat.le_of_ble_eq_true rfl, Nat.le_of_ble_eq_true rfl⟩ rfl hl.1 (Nat.le_of_ble_eq_true rfl) dX6_suspect_8 ⟨Nat.le_refl _, Nat.le_refl _⟩) hS (fun x106 S105 H locs hn hR hS => ?_)
  replace h := hn
  clear hn
  exact W.iret (v := x106) hx hb hr (fun t ht hW => ⟨⟨x106, S105, rfl, h, x_rt ht hR⟩, hS.F ht⟩) hS.2.2 dX6_suspect_11
theorem m_X6_suspect (l : Launch) (gg : sG) (x0 : Nat) (x1 : Int32) (S : sT) {Q : Int32 → sT → Prop} (h : w_X6_suspect x0 x1 S Q) : x_Mi l gg yX6_suspect (x_ws yX6_suspect cX6_suspect 2 (some .int)) r_X6_suspect [.ref x0, .int x1] S Q 0 0 := by
  refine x_ofW (cc := cX6_suspect) (own := RX6) (by decide +kernel) rfl (Nat.le_of_ble_eq_true rfl) ?_
  intro p e s m args below meth c C hml hr hlocks hin ht H locs ls hR hS hl
  exact t_X6_suspect_b0 C hml hr hlocks h H locs ls hR hS (lv_sub (l' := [(0, .ref x0), (1, .int x1)]) hl [0, 1] rfl)
end
