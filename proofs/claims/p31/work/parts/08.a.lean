section
variable {p : Program} {l : Launch} {e : Env} {s : State} {m : MethodId} {args : Array Value} {below : List Frame} {meth : Method} {c : Code} {gg : sG}
def w_X4_init_b0 (x0 : Nat) (S : sT)  (Q : sT → Prop) : Prop :=
s_K S x0 = 6 ∧
    ∀ S101 : sT, S101 = s_sI S 160 x0 (20 : Int32) →
    Q S101
def w_X4_init (x0 : Nat) (S : sT) (Q : sT → Prop) : Prop := w_X4_init_b0 x0 S Q
def r_X4_init : Room := x_rm 1 20 0 0
theorem b_X4_init : x_BI yX4_init cX4_init 1 0 := ⟨q_9_8, q_9_7, q_8_21, rfl, by decide +kernel⟩
set_option maxHeartbeats 4000000 in
theorem t_X4_init_b0 {Q : sT → Prop} (C : x_C p s m args c cX4_init RX4 gg) (hml : c.maxLocals = 1) (hr : meth.sig.returnType = none) (hlocks : meth.locks = false) (hin : meth.name = "<init>") {x0 : Nat}  {S : sT}  (h : w_X4_init_b0 x0 S  Q) : x_X p l e r_X4_init s m args below meth c gg 1 0 0 (MQ below (va_Qv Q (fun S1 t => s_Rep gg S1 t.heap) (s_A gg)) args s 0 0 (s_A gg)) 0 [(0, .ref x0)] [] S := by
  unfold w_X4_init_b0 at h
  obtain ⟨hx, hb, -⟩ := id C
  intro H locs ls hR hS hl
  refine lv_aload_n hx hb dX4_init_0 rfl (lv_at hl 0 rfl) ?_
  refine W.objInit hx hb C.2.2.2.1 (C.2.2.1 _ q_9_9) (C.2.2.1 _ q_1_8) (C.2.2.1 _ q_1_9) rfl (by rw [hml]; exact hl.1) rfl dX4_init_1 (Nat.le_of_ble_eq_true rfl) (Nat.le_of_ble_eq_true rfl) ?_
  refine W.eq (g2 := F0 m 4 ls []) rfl ?_
  refine lv_aload_n hx hb dX4_init_4 rfl (lv_at hl 0 rfl) ?_
  refine lv_bipush (v := 20) hx hb dX4_init_5 (by decide) ?_
  obtain ⟨hK_x0, h⟩ := h
  refine x_p_160 (v := (20 : Int32)) C hR hK_x0 hS q_9_10 dX4_init_7 (fun H locs hR hS => ?_)
  obtain ⟨S101, eS101⟩ : ∃ z : sT, z = s_sI S 160 x0 (20 : Int32) := ⟨_, rfl⟩
  rw [← eS101] at hR
  replace h := h S101 eS101
  have hK_x0 : s_K S101 x0 = 6 := by rw [eS101]; exact hK_x0
  exact W.vret hx hb hr (fun t ht hW => ⟨⟨S101, rfl, h, x_rt ht hR⟩, hS.F ht⟩) hS.2.2 dX4_init_10
theorem m_X4_init (l : Launch) (gg : sG) (x0 : Nat) (S : sT) {Q : sT → Prop} (h : w_X4_init x0 S Q) : x_Mv l gg yX4_init (x_ws yX4_init cX4_init 1 none) r_X4_init [.ref x0] S Q 0 0 := by
  refine x_ofW (cc := cX4_init) (own := RX4) (by decide +kernel) rfl (Nat.le_of_ble_eq_true rfl) ?_
  intro p e s m args below meth c C hml hr hlocks hin ht H locs ls hR hS hl
  exact t_X4_init_b0 C hml hr hlocks (hin rfl) h H locs ls hR hS (lv_sub (l' := [(0, .ref x0)]) hl [0] rfl)
def w_X0_init_b0 (x0 : Nat) (S : sT)  (Q : sT → Prop) : Prop :=
s_K S x0 = 2 ∧
    ∀ S101 : sT, S101 = s_sI S 32 x0 (0 : Int32) →
    ∀ S102 : sT, S102 = s_sI S101 33 x0 (-1 : Int32) →
    ∀ S103 : sT, S103 = s_sI S102 36 x0 (20 : Int32) →
    ∀ S104 : sT, S104 = s_sI S103 39 x0 (120 : Int32) →
    Q S104
def w_X0_init (x0 : Nat) (S : sT) (Q : sT → Prop) : Prop := w_X0_init_b0 x0 S Q
def r_X0_init : Room := x_rm 1 20 0 0
theorem b_X0_init : x_BI yX0_init cX0_init 1 0 := ⟨q_9_12, q_9_11, q_9_1, rfl, by decide +kernel⟩
set_option maxHeartbeats 4000000 in
theorem t_X0_init_b0 {Q : sT → Prop} (C : x_C p s m args c cX0_init RX0 gg) (hml : c.maxLocals = 1) (hr : meth.sig.returnType = none) (hlocks : meth.locks = false) (hin : meth.name = "<init>") {x0 : Nat}  {S : sT}  (h : w_X0_init_b0 x0 S  Q) : x_X p l e r_X0_init s m args below meth c gg 1 0 0 (MQ below (va_Qv Q (fun S1 t => s_Rep gg S1 t.heap) (s_A gg)) args s 0 0 (s_A gg)) 0 [(0, .ref x0)] [] S := by
  unfold w_X0_init_b0 at h
  obtain ⟨hx, hb, -⟩ := id C
  intro H locs ls hR hS hl
  refine lv_aload_n hx hb dX0_init_0 rfl (lv_at hl 0 rfl) ?_
  refine W.objInit hx hb C.2.2.2.1 (C.2.2.1 _ q_9_13) (C.2.2.1 _ q_1_8) (C.2.2.1 _ q_1_9) rfl (by rw [hml]; exact hl.1) rfl dX0_init_1 (Nat.le_of_ble_eq_true rfl) (Nat.le_of_ble_eq_true rfl) ?_
  refine W.eq (g2 := F0 m 4 ls []) rfl ?_
  refine lv_aload_n hx hb dX0_init_4 rfl (lv_at hl 0 rfl) ?_
  refine lv_iconst (v := 0) hx hb dX0_init_5 (by decide) ?_
  obtain ⟨hK_x0, h⟩ := h
  refine x_p_32 (v := (0 : Int32)) C hR hK_x0 hS q_9_14 dX0_init_6 (fun H locs hR hS => ?_)
  obtain ⟨S101, eS101⟩ : ∃ z : sT, z = s_sI S 32 x0 (0 : Int32) := ⟨_, rfl⟩
  rw [← eS101] at hR
  replace h := h S101 eS101
  have hK_x0 : s_K S101 x0 = 2 := by rw [eS101]; exact hK_x0
  refine lv_aload_n hx hb dX0_init_9 rfl (lv_at hl 0 rfl) ?_
  refine lv_iconst (v := (-1)) hx hb dX0_init_10 (by decide) ?_
  refine x_p_33 (v := (-1 : Int32)) C hR hK_x0 hS q_9_15 dX0_init_11 (fun H locs hR hS => ?_)
  obtain ⟨S102, eS102⟩ : ∃ z : sT, z = s_sI S101 33 x0 (-1 : Int32) := ⟨_, rfl⟩
  rw [← eS102] at hR
  replace h := h S102 eS102
  have hK_x0 : s_K S102 x0 = 2 := by rw [eS102]; exact hK_x0
  refine lv_aload_n hx hb dX0_init_14 rfl (lv_at hl 0 rfl) ?_
  refine lv_bipush (v := 20) hx hb dX0_init_15 (by decide) ?_
  refine x_p_36 (v := (20 : Int32)) C hR hK_x0 hS q_9_16 dX0_init_17 (fun H locs hR hS => ?_)
  obtain ⟨S103, eS103⟩ : ∃ z : sT, z = s_sI S102 36 x0 (20 : Int32) := ⟨_, rfl⟩
  rw [← eS103] at hR
  replace h := h S103 eS103
  have hK_x0 : s_K S103 x0 = 2 := by rw [eS103]; exact hK_x0
  refine lv_aload_n hx hb dX0_init_20 rfl (lv_at hl 0 rfl) ?_
  refine lv_bipush (v := 120) hx hb dX0_init_21 (by decide) ?_
  refine x_p_39 (v := (120 : Int32)) C hR hK_x0 hS q_9_17 dX0_init_23 (fun H locs hR hS => ?_)
  obtain ⟨S104, eS104⟩ : ∃ z : sT, z = s_sI S103 39 x0 (120 : Int32) := ⟨_, rfl⟩
  rw [← eS104] at hR
  replace h := h S104 eS104
  have hK_x0 : s_K S104 x0 = 2 := by rw [eS104]; exact hK_x0
  exact W.vret hx hb hr (fun t ht hW => ⟨⟨S104, rfl, h, x_rt ht hR⟩, hS.F ht⟩) hS.2.2 dX0_init_26
theorem m_X0_init (l : Launch) (gg : sG) (x0 : Nat) (S : sT) {Q : sT → Prop} (h : w_X0_init x0 S Q) : x_Mv l gg yX0_init (x_ws yX0_init cX0_init 1 none) r_X0_init [.ref x0] S Q 0 0 := by
  refine x_ofW (cc := cX0_init) (own := RX0) (by decide +kernel) rfl (Nat.le_of_ble_eq_true rfl) ?_
  intro p e s m args below meth c C hml hr hlocks hin ht H locs ls hR hS hl
  exact t_X0_init_b0 C hml hr hlocks (hin rfl) h H locs ls hR hS (lv_sub (l' := [(0, .ref x0)]) hl [0] rfl)
def w_Jxa1e45_init_da8c8_b0 (x0 : Nat) (S : sT)  (Q : sT → Prop) : Prop :=
Q S
def w_Jxa1e45_init_da8c8 (x0 : Nat) (S : sT) (Q : sT → Prop) : Prop := w_Jxa1e45_init_da8c8_b0 x0 S Q
def r_Jxa1e45_init_da8c8 : Room := x_rm 1 20 0 0
theorem b_Jxa1e45_init_da8c8 : x_BI yJxa1e45_init_da8c8 cJxa1e45_init_da8c8 1 0 := ⟨q_2_16, q_2_14, q_2_15, rfl, by decide +kernel⟩
set_option maxHeartbeats 4000000 in
theorem t_Jxa1e45_init_da8c8_b0 {Q : sT → Prop} (C : x_C p s m args c cJxa1e45_init_da8c8 RJxa1e45 gg) (hml : c.maxLocals = 1) (hr : meth.sig.returnType = none) (hlocks : meth.locks = false) (hin : meth.name = "<init>") {x0 : Nat}  {S : sT}  (h : w_Jxa1e45_init_da8c8_b0 x0 S  Q) : x_X p l e r_Jxa1e45_init_da8c8 s m args below meth c gg 1 0 0 (MQ below (va_Qv Q (fun S1 t => s_Rep gg S1 t.heap) (s_A gg)) args s 0 0 (s_A gg)) 0 [(0, .ref x0)] [] S := by
  unfold w_Jxa1e45_init_da8c8_b0 at h
  obtain ⟨hx, hb, -⟩ := id C
  intro H locs ls hR hS hl
  refine lv_aload_n hx hb dJxa1e45_init_da8c8_0 rfl (lv_at hl 0 rfl) ?_
  refine W.objInit hx hb C.2.2.2.1 (C.2.2.1 _ q_2_17) (C.2.2.1 _ q_1_8) (C.2.2.1 _ q_1_9) rfl (by rw [hml]; exact hl.1) rfl dJxa1e45_init_da8c8_1 (Nat.le_of_ble_eq_true rfl) (Nat.le_of_ble_eq_true rfl) ?_
  refine W.eq (g2 := F0 m 4 ls []) rfl ?_
  exact W.vret hx hb hr (fun t ht hW => ⟨⟨S, rfl, h, x_rt ht hR⟩, hS.F ht⟩) hS.2.2 dJxa1e45_init_da8c8_4
theorem m_Jxa1e45_init_da8c8 (l : Launch) (gg : sG) (x0 : Nat) (S : sT) {Q : sT → Prop} (h : w_Jxa1e45_init_da8c8 x0 S Q) : x_Mv l gg yJxa1e45_init_da8c8 (x_ws yJxa1e45_init_da8c8 cJxa1e45_init_da8c8 1 none) r_Jxa1e45_init_da8c8 [.ref x0] S Q 0 0 := by
  refine x_ofW (cc := cJxa1e45_init_da8c8) (own := RJxa1e45) (by decide +kernel) rfl (Nat.le_of_ble_eq_true rfl) ?_
  intro p e s m args below meth c C hml hr hlocks hin ht H locs ls hR hS hl
  exact t_Jxa1e45_init_da8c8_b0 C hml hr hlocks (hin rfl) h H locs ls hR hS (lv_sub (l' := [(0, .ref x0)]) hl [0] rfl)
def w_Jxc12de_init_da8c8_b0 (x0 : Nat) (S : sT)  (Q : sT → Prop) : Prop :=
w_Jxa1e45_init_da8c8 x0 S (fun S101 =>
    s_K S101 x0 = 1 ∧
    ∀ S102 : sT, S102 = s_sI S101 0 x0 (0 : Int32) →
    Q S102)
def w_Jxc12de_init_da8c8 (x0 : Nat) (S : sT) (Q : sT → Prop) : Prop := w_Jxc12de_init_da8c8_b0 x0 S Q
def r_Jxc12de_init_da8c8 : Room := x_rm 2 40 0 0
theorem b_Jxc12de_init_da8c8 : x_BI yJxc12de_init_da8c8 cJxc12de_init_da8c8 1 0 := ⟨q_2_11, q_2_9, q_2_10, rfl, by decide +kernel⟩
set_option maxHeartbeats 4000000 in
theorem t_Jxc12de_init_da8c8_b0 {Q : sT → Prop} (C : x_C p s m args c cJxc12de_init_da8c8 RJxc12de gg) (hml : c.maxLocals = 1) (hr : meth.sig.returnType = none) (hlocks : meth.locks = false) (hin : meth.name = "<init>") {x0 : Nat}  {S : sT}  (h : w_Jxc12de_init_da8c8_b0 x0 S  Q) : x_X p l e r_Jxc12de_init_da8c8 s m args below meth c gg 1 0 0 (MQ below (va_Qv Q (fun S1 t => s_Rep gg S1 t.heap) (s_A gg)) args s 0 0 (s_A gg)) 0 [(0, .ref x0)] [] S := by
  unfold w_Jxc12de_init_da8c8_b0 at h
  obtain ⟨hx, hb, -⟩ := id C
  intro H locs ls hR hS hl
  refine lv_aload_n hx hb dJxc12de_init_da8c8_0 rfl (lv_at hl 0 rfl) ?_
  refine x_kv (x_runI (As := []) (rest := []) C hml hR hS (m_Jxa1e45_init_da8c8 l gg x0 S h) b_Jxa1e45_init_da8c8 q_2_13 rfl rfl ⟨Nat.le_of_ble_eq_true rfl, Nat.le_of_ble_eq_true rfl⟩ rfl hl.1 (Nat.le_of_ble_eq_true rfl) dJxc12de_init_da8c8_1 ⟨Nat.le_refl _, Nat.le_refl _⟩) hS (fun S101 H locs hn hR hS => ?_)
  replace h := hn
  clear hn
  refine lv_aload_n hx hb dJxc12de_init_da8c8_4 rfl (lv_at hl 0 rfl) ?_
  refine lv_iconst (v := 0) hx hb dJxc12de_init_da8c8_5 (by decide) ?_
  obtain ⟨hK_x0, h⟩ := h
  refine x_p_0b (v := (0 : Int32)) C hR hK_x0 hS q_2_12 dJxc12de_init_da8c8_6 (fun H locs hR hS => ?_)
  obtain ⟨S102, eS102⟩ : ∃ z : sT, z = s_sI S101 0 x0 (0 : Int32) := ⟨_, rfl⟩
  rw [← eS102] at hR
  replace h := h S102 eS102
  have hK_x0 : s_K S102 x0 = 1 := by rw [eS102]; exact hK_x0
  exact W.vret hx hb hr (fun t ht hW => ⟨⟨S102, rfl, h, x_rt ht hR⟩, hS.F ht⟩) hS.2.2 dJxc12de_init_da8c8_9
theorem m_Jxc12de_init_da8c8 (l : Launch) (gg : sG) (x0 : Nat) (S : sT) {Q : sT → Prop} (h : w_Jxc12de_init_da8c8 x0 S Q) : x_Mv l gg yJxc12de_init_da8c8 (x_ws yJxc12de_init_da8c8 cJxc12de_init_da8c8 1 none) r_Jxc12de_init_da8c8 [.ref x0] S Q 0 0 := by
  refine x_ofW (cc := cJxc12de_init_da8c8) (own := RJxc12de) (by decide +kernel) rfl (Nat.le_of_ble_eq_true rfl) ?_
  intro p e s m args below meth c C hml hr hlocks hin ht H locs ls hR hS hl
  exact t_Jxc12de_init_da8c8_b0 C hml hr hlocks (hin rfl) h H locs ls hR hS (lv_sub (l' := [(0, .ref x0)]) hl [0] rfl)
def w_Jx4a65c_init_da8c8_b0 (x0 : Nat) (S : sT)  (Q : sT → Prop) : Prop :=
w_Jxc12de_init_da8c8 x0 S (fun S101 =>
    ∃ a102 : Nat, s_R S101 9998 0 = some a102 ∧
    s_K S101 x0 = 1 ∧
    ∀ S103 : sT, S103 = s_sR S101 1 x0 (some a102) →
    Q S103)
def w_Jx4a65c_init_da8c8 (x0 : Nat) (S : sT) (Q : sT → Prop) : Prop := w_Jx4a65c_init_da8c8_b0 x0 S Q
def r_Jx4a65c_init_da8c8 : Room := x_rm 3 60 0 0
theorem b_Jx4a65c_init_da8c8 : x_BI yJx4a65c_init_da8c8 cJx4a65c_init_da8c8 1 0 := ⟨q_2_5, q_2_4, q_1_20, rfl, by decide +kernel⟩
set_option maxHeartbeats 4000000 in
theorem t_Jx4a65c_init_da8c8_b0 {Q : sT → Prop} (C : x_C p s m args c cJx4a65c_init_da8c8 RJx4a65c gg) (hml : c.maxLocals = 1) (hr : meth.sig.returnType = none) (hlocks : meth.locks = false) (hin : meth.name = "<init>") {x0 : Nat}  {S : sT}  (h : w_Jx4a65c_init_da8c8_b0 x0 S  Q) : x_X p l e r_Jx4a65c_init_da8c8 s m args below meth c gg 1 0 0 (MQ below (va_Qv Q (fun S1 t => s_Rep gg S1 t.heap) (s_A gg)) args s 0 0 (s_A gg)) 0 [(0, .ref x0)] [] S := by
  unfold w_Jx4a65c_init_da8c8_b0 at h
  obtain ⟨hx, hb, -⟩ := id C
  intro H locs ls hR hS hl
  refine lv_aload_n hx hb dJx4a65c_init_da8c8_0 rfl (lv_at hl 0 rfl) ?_
  refine x_kv (x_runI (As := []) (rest := []) C hml hR hS (m_Jxc12de_init_da8c8 l gg x0 S h) b_Jxc12de_init_da8c8 q_2_8 rfl rfl ⟨Nat.le_of_ble_eq_true rfl, Nat.le_of_ble_eq_true rfl⟩ rfl hl.1 (Nat.le_of_ble_eq_true rfl) dJx4a65c_init_da8c8_1 ⟨Nat.le_refl _, Nat.le_refl _⟩) hS (fun S101 H locs hn hR hS => ?_)
  replace h := hn
  clear hn
  refine lv_aload_n hx hb dJx4a65c_init_da8c8_4 rfl (lv_at hl 0 rfl) ?_
  obtain ⟨a102, ea102, h⟩ := h
  refine x_gsD C hR ea102 hS q_2_6 dJx4a65c_init_da8c8_5 ?_
  obtain ⟨hK_x0, h⟩ := h
  refine x_p_1 (v := (some a102)) C hR hK_x0 hS q_2_7 dJx4a65c_init_da8c8_8 (fun H locs hR hS => ?_)
  obtain ⟨S103, eS103⟩ : ∃ z : sT, z = s_sR S101 1 x0 (some a102) := ⟨_, rfl⟩
  rw [← eS103] at hR
  replace h := h S103 eS103
  have hK_x0 : s_K S103 x0 = 1 := by rw [eS103]; exact hK_x0
  exact W.vret hx hb hr (fun t ht hW => ⟨⟨S103, rfl, h, x_rt ht hR⟩, hS.F ht⟩) hS.2.2 dJx4a65c_init_da8c8_11
theorem m_Jx4a65c_init_da8c8 (l : Launch) (gg : sG) (x0 : Nat) (S : sT) {Q : sT → Prop} (h : w_Jx4a65c_init_da8c8 x0 S Q) : x_Mv l gg yJx4a65c_init_da8c8 (x_ws yJx4a65c_init_da8c8 cJx4a65c_init_da8c8 1 none) r_Jx4a65c_init_da8c8 [.ref x0] S Q 0 0 := by
  refine x_ofW (cc := cJx4a65c_init_da8c8) (own := RJx4a65c) (by decide +kernel) rfl (Nat.le_of_ble_eq_true rfl) ?_
  intro p e s m args below meth c C hml hr hlocks hin ht H locs ls hR hS hl
  exact t_Jx4a65c_init_da8c8_b0 C hml hr hlocks (hin rfl) h H locs ls hR hS (lv_sub (l' := [(0, .ref x0)]) hl [0] rfl)
def w_X3_init_b0 (x0 : Nat) (S : sT)  (Q : sT → Prop) : Prop :=
Q S
def w_X3_init (x0 : Nat) (S : sT) (Q : sT → Prop) : Prop := w_X3_init_b0 x0 S Q
def r_X3_init : Room := x_rm 1 20 0 0
theorem b_X3_init : x_BI yX3_init cX3_init 1 0 := ⟨q_2_19, q_2_18, q_2_1, rfl, by decide +kernel⟩
set_option maxHeartbeats 4000000 in
theorem t_X3_init_b0 {Q : sT → Prop} (C : x_C p s m args c cX3_init RX3 gg) (hml : c.maxLocals = 1) (hr : meth.sig.returnType = none) (hlocks : meth.locks = false) (hin : meth.name = "<init>") {x0 : Nat}  {S : sT}  (h : w_X3_init_b0 x0 S  Q) : x_X p l e r_X3_init s m args below meth c gg 1 0 0 (MQ below (va_Qv Q (fun S1 t => s_Rep gg S1 t.heap) (s_A gg)) args s 0 0 (s_A gg)) 0 [(0, .ref x0)] [] S := by
  unfold w_X3_init_b0 at h
  obtain ⟨hx, hb, -⟩ := id C
  intro H locs ls hR hS hl
  refine lv_aload_n hx hb dX3_init_0 rfl (lv_at hl 0 rfl) ?_
  refine W.objInit hx hb C.2.2.2.1 (C.2.2.1 _ q_2_20) (C.2.2.1 _ q_1_8) (C.2.2.1 _ q_1_9) rfl (by rw [hml]; exact hl.1) rfl dX3_init_1 (Nat.le_of_ble_eq_true rfl) (Nat.le_of_ble_eq_true rfl) ?_
  refine W.eq (g2 := F0 m 4 ls []) rfl ?_
  exact W.vret hx hb hr (fun t ht hW => ⟨⟨S, rfl, h, x_rt ht hR⟩, hS.F ht⟩) hS.2.2 dX3_init_4
theorem m_X3_init (l : Launch) (gg : sG) (x0 : Nat) (S : sT) {Q : sT → Prop} (h : w_X3_init x0 S Q) : x_Mv l gg yX3_init (x_ws yX3_init cX3_init 1 none) r_X3_init [.ref x0] S Q 0 0 := by
  refine x_ofW (cc := cX3_init) (own := RX3) (by decide +kernel) rfl (Nat.le_of_ble_eq_true rfl) ?_
  intro p e s m args below meth c C hml hr hlocks hin ht H locs ls hR hS hl
  exact t_X3_init_b0 C hml hr hlocks (hin rfl) h H locs ls hR hS (lv_sub (l' := [(0, .ref x0)]) hl [0] rfl)
def wA_X1_init_b0 (mc ms kc ks : Nat) (x0 : Nat) (x1 : Int32) (x2 : Nat) (x3 : Int32) (x4 : Int32) (S : sT)  (Q : sT → Prop) : Prop :=
(kc + 1) ≤ mc ∧ (ks + 3) ≤ ms ∧
    ∀ q101 : Nat, s_fr S q101 →
    ∀ S102 : sT, S102 = s_nw S q101 6 0 →
    w_X4_init q101 S102 (fun S103 =>
    s_K S103 x0 = 3 ∧
    ∀ S104 : sT, S104 = s_sR S103 68 x0 (some q101) →
    ((kc + 1) + 1) ≤ mc ∧ ((ks + 3) + 8) ≤ ms ∧
    ∀ q105 : Nat, s_fr S104 q105 →
    ∀ S106 : sT, S106 = s_nw S104 q105 2 0 →
    w_X0_init q105 S106 (fun S107 =>
    s_K S107 x0 = 3 ∧
    ∀ S108 : sT, S108 = s_sR S107 69 x0 (some q105) →
    ∀ S109 : sT, S109 = s_sI S108 64 x0 x1 →
    ∀ S110 : sT, S110 = s_sR S109 65 x0 (some x2) →
    ∀ S111 : sT, S111 = s_sI S110 66 x0 x3 →
    ∀ S112 : sT, S112 = s_sI S111 67 x0 x4 →
    Q S112))
def wA_X1_init (mc ms : Nat) (x0 : Nat) (x1 : Int32) (x2 : Nat) (x3 : Int32) (x4 : Int32) (S : sT) (Q : sT → Prop) : Prop := wA_X1_init_b0 mc ms 0 0 x0 x1 x2 x3 x4 S Q
def rA_X1_init (mc ms : Nat) : Room := x_rm 2 40 mc ms
theorem b_X1_init : x_BI yX1_init cX1_init 5 4 := ⟨q_8_17, q_8_16, q_8_12, rfl, by decide +kernel⟩
set_option maxHeartbeats 4000000 in
theorem tA_X1_init_b0 {Q : sT → Prop} (C : x_C p s m args c cX1_init RX1 gg) (hml : c.maxLocals = 5) (hr : meth.sig.returnType = none) (hlocks : meth.locks = false) (hin : meth.name = "<init>") {mc ms kc ks : Nat} (hk : kc ≤ mc ∧ ks ≤ ms) {x0 : Nat} {x1 : Int32} {x2 : Nat} {x3 : Int32} {x4 : Int32}  {S : sT}  (h : wA_X1_init_b0 mc ms kc ks x0 x1 x2 x3 x4 S  Q) : x_X p l e (rA_X1_init mc ms) s m args below meth c gg 5 kc ks (MQ below (va_Qv Q (fun S1 t => s_Rep gg S1 t.heap) (s_A gg)) args s mc ms (s_A gg)) 0 [(0, .ref x0), (1, .int x1), (2, .ref x2), (3, .int x3), (4, .int x4)] [] S := by
  unfold wA_X1_init_b0 at h
  obtain ⟨hx, hb, -⟩ := id C
  intro H locs ls hR hS hl
  refine lv_aload_n hx hb dX1_init_0 rfl (lv_at hl 0 rfl) ?_
  refine W.objInit hx hb C.2.2.2.1 (C.2.2.1 _ q_8_18) (C.2.2.1 _ q_1_8) (C.2.2.1 _ q_1_9) rfl (by rw [hml]; exact hl.1) rfl dX1_init_1 (Nat.le_of_ble_eq_true rfl) (Nat.le_of_ble_eq_true rfl) ?_
  refine W.eq (g2 := F0 m 4 ls []) rfl ?_
  refine lv_aload_n hx hb dX1_init_4 rfl (lv_at hl 0 rfl) ?_
  obtain ⟨hk1, hk2, h⟩ := h
  refine x_nw_5 (a := 0) C hR hS q_8_19 q_8_20 q_8_21 hk1 hk2 dX1_init_5 (fun q101 H hq9 hq hR hS => ?_)
  replace h := h q101 hq
  have hk : (kc + 1) ≤ mc ∧ (ks + 3) ≤ ms := ⟨hk1, hk2⟩
  obtain ⟨S102, eS102⟩ : ∃ z : sT, z = s_nw S q101 6 0 := ⟨_, rfl⟩
  rw [← eS102] at hR
  replace h := h S102 eS102
  have hK_q101 : s_K S102 q101 = 6 := by rw [eS102]; exact s_nw_K
  refine lv_dup hx hb dX1_init_8 rfl ?_
  refine x_kv (x_runIN (As := []) (rest := [.ref q101, .ref x0]) (host := "Subakhall") C hml hR hS (m_X4_init l gg q101 S102 h) b_X4_init xm_4 rfl rfl ⟨Nat.le_of_ble_eq_true rfl, Nat.le_of_ble_eq_true rfl⟩ rfl hl.1 (Nat.le_of_ble_eq_true rfl) dX1_init_9 ⟨hk.1, hk.2⟩) hS (fun S103 H locs hn hR hS => ?_)
  replace h := hn
  clear hn
  obtain ⟨hK_x0, h⟩ := h
  refine x_p_68 (v := (some q101)) C hR hK_x0 hS hin rfl q_8_22 dX1_init_12 (fun H locs hR hS => ?_)
  obtain ⟨S104, eS104⟩ : ∃ z : sT, z = s_sR S103 68 x0 (some q101) := ⟨_, rfl⟩
  rw [← eS104] at hR
  replace h := h S104 eS104
  have hK_x0 : s_K S104 x0 = 3 := by rw [eS104]; exact hK_x0
  refine lv_aload_n hx hb dX1_init_15 rfl (lv_at hl 0 rfl) ?_
  obtain ⟨hk1, hk2, h⟩ := h
  refine x_nw_1 (a := 0) C hR hS q_8_23 q_9_0 q_9_1 hk1 hk2 dX1_init_16 (fun q105 H hq9 hq hR hS => ?_)
  replace h := h q105 hq
  have hk : ((kc + 1) + 1) ≤ mc ∧ ((ks + 3) + 8) ≤ ms := ⟨hk1, hk2⟩
  obtain ⟨S106, eS106⟩ : ∃ z : sT, z = s_nw S104 q105 2 0 := ⟨_, rfl⟩
  rw [← eS106] at hR
  replace h := h S106 eS106
  have hK_q105 : s_K S106 q105 = 2 := by rw [eS106]; exact s_nw_K
  refine lv_dup hx hb dX1_init_19 rfl ?_
  refine x_kv (x_runIN (As := []) (rest := [.ref q105, .ref x0]) (host := "Subakhall") C hml hR hS (m_X0_init l gg q105 S106 h) b_X0_init xm_3 rfl rfl ⟨Nat.le_of_ble_eq_true rfl, Nat.le_of_ble_eq_true rfl⟩ rfl hl.1 (Nat.le_of_ble_eq_true rfl) dX1_init_20 ⟨hk.1, hk.2⟩) hS (fun S107 H locs hn hR hS => ?_)
  replace h := hn
  clear hn
  obtain ⟨hK_x0, h⟩ := h
  refine x_p_69 (v := (some q105)) C hR hK_x0 hS hin rfl q_9_2 dX1_init_23 (fun H locs hR hS => ?_)
  obtain ⟨S108, eS108⟩ : ∃ z : sT, z = s_sR S107 69 x0 (some q105) := ⟨_, rfl⟩
  rw [← eS108] at hR
  replace h := h S108 eS108
  have hK_x0 : s_K S108 x0 = 3 := by rw [eS108]; exact hK_x0
  refine lv_aload_n hx hb dX1_init_26 rfl (lv_at hl 0 rfl) ?_
  refine lv_iload_n hx hb dX1_init_27 rfl (lv_at hl 1 rfl) ?_
  refine x_p_64 (v := x1) C hR hK_x0 hS hin rfl q_9_3 dX1_init_28 (fun H locs hR hS => ?_)
  obtain ⟨S109, eS109⟩ : ∃ z : sT, z = s_sI S108 64 x0 x1 := ⟨_, rfl⟩
  rw [← eS109] at hR
  replace h := h S109 eS109
  have hK_x0 : s_K S109 x0 = 3 := by rw [eS109]; exact hK_x0
  refine lv_aload_n hx hb dX1_init_31 rfl (lv_at hl 0 rfl) ?_
  refine lv_aload_n hx hb dX1_init_32 rfl (lv_at hl 2 rfl) ?_
  refine x_p_65 (v := (some x2)) C hR hK_x0 hS hin rfl q_9_4 dX1_init_33 (fun H locs hR hS => ?_)
  obtain ⟨S110, eS110⟩ : ∃ z : sT, z = s_sR S109 65 x0 (some x2) := ⟨_, rfl⟩
  rw [← eS110] at hR
  replace h := h S110 eS110
  have hK_x0 : s_K S110 x0 = 3 := by rw [eS110]; exact hK_x0
  refine lv_aload_n hx hb dX1_init_36 rfl (lv_at hl 0 rfl) ?_
  refine lv_iload_n hx hb dX1_init_37 rfl (lv_at hl 3 rfl) ?_
  refine x_p_66 (v := x3) C hR hK_x0 hS hin rfl q_9_5 dX1_init_38 (fun H locs hR hS => ?_)
  obtain ⟨S111, eS111⟩ : ∃ z : sT, z = s_sI S110 66 x0 x3 := ⟨_, rfl⟩
  rw [← eS111] at hR
  replace h := h S111 eS111
  have hK_x0 : s_K S111 x0 = 3 := by rw [eS111]; exact hK_x0
  refine lv_aload_n hx hb dX1_init_41 rfl (lv_at hl 0 rfl) ?_
  refine lv_iload hx hb dX1_init_42 (lv_at hl 4 rfl) ?_
  refine x_p_67 (v := x4) C hR hK_x0 hS hin rfl q_9_6 dX1_init_44 (fun H locs hR hS => ?_)
  obtain ⟨S112, eS112⟩ : ∃ z : sT, z = s_sI S111 67 x0 x4 := ⟨_, rfl⟩
  rw [← eS112] at hR
  replace h := h S112 eS112
  have hK_x0 : s_K S112 x0 = 3 := by rw [eS112]; exact hK_x0
  refine W.widen (k := mc) (n := ms) hk.1 hk.2 ?_
  exact W.vret hx hb hr (fun t ht hW => ⟨⟨S112, rfl, h, x_rt ht hR⟩, hS.F ht⟩) hS.2.2 dX1_init_47
theorem mA_X1_init (l : Launch) (gg : sG) (mc ms : Nat) (x0 : Nat) (x1 : Int32) (x2 : Nat) (x3 : Int32) (x4 : Int32) (S : sT) {Q : sT → Prop} (h : wA_X1_init mc ms x0 x1 x2 x3 x4 S Q) : x_Mv l gg yX1_init (x_ws yX1_init cX1_init 5 none) (rA_X1_init mc ms) [.ref x0, .int x1, .ref x2, .int x3, .int x4] S Q mc ms := by
  refine x_ofW (cc := cX1_init) (own := RX1) (by decide +kernel) rfl (Nat.le_of_ble_eq_true rfl) ?_
  intro p e s m args below meth c C hml hr hlocks hin ht H locs ls hR hS hl
  exact tA_X1_init_b0 C hml hr hlocks (hin rfl) ⟨Nat.zero_le _, Nat.zero_le _⟩ h H locs ls hR hS (lv_sub (l' := [(0, .ref x0), (1, .int x1), (2, .ref x2), (3, .int x3), (4, .int x4)]) hl [0, 1, 2, 3, 4] rfl)
def wA_X5_init_b0 (mc ms kc ks : Nat) (x0 : Nat) (x1 : Int32) (x2 : Int32) (x3 : Int32) (x4 : Int32) (x5 : Int32) (S : sT)  (Q : sT → Prop) : Prop :=
(kc + 1) ≤ mc ∧ (ks + 3) ≤ ms ∧
    ∀ q101 : Nat, s_fr S q101 →
    ∀ S102 : sT, S102 = s_nw S q101 1 0 →
    w_Jx4a65c_init_da8c8 q101 S102 (fun S103 =>
    s_K S103 x0 = 7 ∧
    ∀ S104 : sT, S104 = s_sR S103 195 x0 (some q101) →
    ∀ S105 : sT, S105 = s_sI S104 203 x0 (-1 : Int32) →
    ∀ S106 : sT, S106 = s_sI S105 192 x0 x1 →
    ∀ S107 : sT, S107 = s_sI S106 193 x0 x2 →
    ∀ S108 : sT, S108 = s_sI S107 194 x0 x3 →
    ∀ S109 : sT, S109 = s_sI S108 196 x0 x4 →
    ∀ S110 : sT, S110 = s_sI S109 197 x0 x5 →
    Q S110)
def wA_X5_init (mc ms : Nat) (x0 : Nat) (x1 : Int32) (x2 : Int32) (x3 : Int32) (x4 : Int32) (x5 : Int32) (S : sT) (Q : sT → Prop) : Prop := wA_X5_init_b0 mc ms 0 0 x0 x1 x2 x3 x4 x5 S Q
def rA_X5_init (mc ms : Nat) : Room := x_rm 4 80 mc ms
theorem b_X5_init : x_BI yX5_init cX5_init 6 5 := ⟨q_4_10, q_4_9, q_4_5, rfl, by decide +kernel⟩
set_option maxHeartbeats 4000000 in
theorem tA_X5_init_b0 {Q : sT → Prop} (C : x_C p s m args c cX5_init RX5 gg) (hml : c.maxLocals = 6) (hr : meth.sig.returnType = none) (hlocks : meth.locks = false) (hin : meth.name = "<init>") {mc ms kc ks : Nat} (hk : kc ≤ mc ∧ ks ≤ ms) {x0 : Nat} {x1 : Int32} {x2 : Int32} {x3 : Int32} {x4 : Int32} {x5 : Int32}  {S : sT}  (h : wA_X5_init_b0 mc ms kc ks x0 x1 x2 x3 x4 x5 S  Q) : x_X p l e (rA_X5_init mc ms) s m args below meth c gg 6 kc ks (MQ below (va_Qv Q (fun S1 t => s_Rep gg S1 t.heap) (s_A gg)) args s mc ms (s_A gg)) 0 [(0, .ref x0), (1, .int x1), (2, .int x2), (3, .int x3), (4, .int x4), (5, .int x5)] [] S := by
  unfold wA_X5_init_b0 at h
  obtain ⟨hx, hb, -⟩ := id C
  intro H locs ls hR hS hl
  refine lv_aload_n hx hb dX5_init_0 rfl (lv_at hl 0 rfl) ?_
  refine W.objInit hx hb C.2.2.2.1 (C.2.2.1 _ q_4_11) (C.2.2.1 _ q_1_8) (C.2.2.1 _ q_1_9) rfl (by rw [hml]; exact hl.1) rfl dX5_init_1 (Nat.le_of_ble_eq_true rfl) (Nat.le_of_ble_eq_true rfl) ?_
  refine W.eq (g2 := F0 m 4 ls []) rfl ?_
  refine lv_aload_n hx hb dX5_init_4 rfl (lv_at hl 0 rfl) ?_
  obtain ⟨hk1, hk2, h⟩ := h
  refine x_nw_0 (a := 0) C hR hS q_4_12 q_1_19 q_1_20 hk1 hk2 dX5_init_5 (fun q101 H hq9 hq hR hS => ?_)
  replace h := h q101 hq
  have hk : (kc + 1) ≤ mc ∧ (ks + 3) ≤ ms := ⟨hk1, hk2⟩
  obtain ⟨S102, eS102⟩ : ∃ z : sT, z = s_nw S q101 1 0 := ⟨_, rfl⟩
  rw [← eS102] at hR
  replace h := h S102 eS102
  have hK_q101 : s_K S102 q101 = 1 := by rw [eS102]; exact s_nw_K
  refine lv_dup hx hb dX5_init_8 rfl ?_
  refine x_kv (x_runI (As := []) (rest := [.ref q101, .ref x0]) C hml hR hS (m_Jx4a65c_init_da8c8 l gg q101 S102 h) b_Jx4a65c_init_da8c8 q_4_20 rfl rfl ⟨Nat.le_of_ble_eq_true rfl, Nat.le_of_ble_eq_true rfl⟩ rfl hl.1 (Nat.le_of_ble_eq_true rfl) dX5_init_9 ⟨hk.1, hk.2⟩) hS (fun S103 H locs hn hR hS => ?_)
  replace h := hn
  clear hn
  obtain ⟨hK_x0, h⟩ := h
  refine x_p_195 (v := (some q101)) C hR hK_x0 hS hin rfl q_4_13 dX5_init_12 (fun H locs hR hS => ?_)
  obtain ⟨S104, eS104⟩ : ∃ z : sT, z = s_sR S103 195 x0 (some q101) := ⟨_, rfl⟩
  rw [← eS104] at hR
  replace h := h S104 eS104
  have hK_x0 : s_K S104 x0 = 7 := by rw [eS104]; exact hK_x0
  refine lv_aload_n hx hb dX5_init_15 rfl (lv_at hl 0 rfl) ?_
  refine lv_iconst (v := (-1)) hx hb dX5_init_16 (by decide) ?_
  refine x_p_203 (v := (-1 : Int32)) C hR hK_x0 hS q_4_14 dX5_init_17 (fun H locs hR hS => ?_)
  obtain ⟨S105, eS105⟩ : ∃ z : sT, z = s_sI S104 203 x0 (-1 : Int32) := ⟨_, rfl⟩
  rw [← eS105] at hR
  replace h := h S105 eS105
  have hK_x0 : s_K S105 x0 = 7 := by rw [eS105]; exact hK_x0
  refine lv_aload_n hx hb dX5_init_20 rfl (lv_at hl 0 rfl) ?_
  refine lv_iload_n hx hb dX5_init_21 rfl (lv_at hl 1 rfl) ?_
  refine x_p_192 (v := x1) C hR hK_x0 hS hin rfl q_4_15 dX5_init_22 (fun H locs hR hS => ?_)
  obtain ⟨S106, eS106⟩ : ∃ z : sT, z = s_sI S105 192 x0 x1 := ⟨_, rfl⟩
  rw [← eS106] at hR
  replace h := h S106 eS106
  have hK_x0 : s_K S106 x0 = 7 := by rw [eS106]; exact hK_x0
  refine lv_aload_n hx hb dX5_init_25 rfl (lv_at hl 0 rfl) ?_
  refine lv_iload_n hx hb dX5_init_26 rfl (lv_at hl 2 rfl) ?_
  refine x_p_193 (v := x2) C hR hK_x0 hS hin rfl q_4_16 dX5_init_27 (fun H locs hR hS => ?_)
  obtain ⟨S107, eS107⟩ : ∃ z : sT, z = s_sI S106 193 x0 x2 := ⟨_, rfl⟩
  rw [← eS107] at hR
  replace h := h S107 eS107
  have hK_x0 : s_K S107 x0 = 7 := by rw [eS107]; exact hK_x0
  refine lv_aload_n hx hb dX5_init_30 rfl (lv_at hl 0 rfl) ?_
  refine lv_iload_n hx hb dX5_init_31 rfl (lv_at hl 3 rfl) ?_
  refine x_p_194 (v := x3) C hR hK_x0 hS hin rfl q_4_17 dX5_init_32 (fun H locs hR hS => ?_)
  obtain ⟨S108, eS108⟩ : ∃ z : sT, z = s_sI S107 194 x0 x3 := ⟨_, rfl⟩
  rw [← eS108] at hR
  replace h := h S108 eS108
  have hK_x0 : s_K S108 x0 = 7 := by rw [eS108]; exact hK_x0
  refine lv_aload_n hx hb dX5_init_35 rfl (lv_at hl 0 rfl) ?_
  refine lv_iload hx hb dX5_init_36 (lv_at hl 4 rfl) ?_
  refine x_p_196 (v := x4) C hR hK_x0 hS q_4_18 dX5_init_38 (fun H locs hR hS => ?_)
  obtain ⟨S109, eS109⟩ : ∃ z : sT, z = s_sI S108 196 x0 x4 := ⟨_, rfl⟩
  rw [← eS109] at hR
  replace h := h S109 eS109
  have hK_x0 : s_K S109 x0 = 7 := by rw [eS109]; exact hK_x0
  refine lv_aload_n hx hb dX5_init_41 rfl (lv_at hl 0 rfl) ?_
  refine lv_iload hx hb dX5_init_42 (lv_at hl 5 rfl) ?_
  refine x_p_197 (v := x5) C hR hK_x0 hS q_4_19 dX5_init_44 (fun H locs hR hS => ?_)
  obtain ⟨S110, eS110⟩ : ∃ z : sT, z = s_sI S109 197 x0 x5 := ⟨_, rfl⟩
  rw [← eS110] at hR
  replace h := h S110 eS110
  have hK_x0 : s_K S110 x0 = 7 := by rw [eS110]; exact hK_x0
  refine W.widen (k := mc) (n := ms) hk.1 hk.2 ?_
  exact W.vret hx hb hr (fun t ht hW => ⟨⟨S110, rfl, h, x_rt ht hR⟩, hS.F ht⟩) hS.2.2 dX5_init_47
theorem mA_X5_init (l : Launch) (gg : sG) (mc ms : Nat) (x0 : Nat) (x1 : Int32) (x2 : Int32) (x3 : Int32) (x4 : Int32) (x5 : Int32) (S : sT) {Q : sT → Prop} (h : wA_X5_init mc ms x0 x1 x2 x3 x4 x5 S Q) : x_Mv l gg yX5_init (x_ws yX5_init cX5_init 6 none) (rA_X5_init mc ms) [.ref x0, .int x1, .int x2, .int x3, .int x4, .int x5] S Q mc ms := by
  refine x_ofW (cc := cX5_init) (own := RX5) (by decide +kernel) rfl (Nat.le_of_ble_eq_true rfl) ?_
  intro p e s m args below meth c C hml hr hlocks hin ht H locs ls hR hS hl
  exact tA_X5_init_b0 C hml hr hlocks (hin rfl) ⟨Nat.zero_le _, Nat.zero_le _⟩ h H locs ls hR hS (lv_sub (l' := [(0, .ref x0), (1, .int x1), (2, .int x2), (3, .int x3), (4, .int x4), (5, .int x5)]) hl [0, 1, 2, 3, 4, 5] rfl)
def wA_X2_init_b0 (mc ms kc ks : Nat) (x0 : Nat) (S : sT)  (Q : sT → Prop) : Prop :=
(kc + 1) ≤ mc ∧ (ks + 3) ≤ ms ∧
    ∀ q101 : Nat, s_fr S q101 →
    ∀ S102 : sT, S102 = s_nw S q101 1 0 →
    w_Jx4a65c_init_da8c8 q101 S102 (fun S103 =>
    s_K S103 x0 = 4 ∧
    ∀ S104 : sT, S104 = s_sR S103 96 x0 (some q101) →
    ((kc + 1) + 1) ≤ mc ∧ ((ks + 3) + 3) ≤ ms ∧
    ∀ q105 : Nat, s_fr S104 q105 →
    ∀ S106 : sT, S106 = s_nw S104 q105 1 0 →
    w_Jx4a65c_init_da8c8 q105 S106 (fun S107 =>
    s_K S107 x0 = 4 ∧
    ∀ S108 : sT, S108 = s_sR S107 97 x0 (some q105) →
    (((kc + 1) + 1) + 1) ≤ mc ∧ (((ks + 3) + 3) + 4) ≤ ms ∧
    ∀ q109 : Nat, s_fr S108 q109 →
    ∀ S110 : sT, S110 = s_nw S108 q109 5 0 →
    w_X3_init q109 S110 (fun S111 =>
    s_K S111 x0 = 4 ∧
    ∀ S112 : sT, S112 = s_sR S111 98 x0 (some q109) →
    Q S112)))
def wA_X2_init (mc ms : Nat) (x0 : Nat) (S : sT) (Q : sT → Prop) : Prop := wA_X2_init_b0 mc ms 0 0 x0 S Q
def rA_X2_init (mc ms : Nat) : Room := x_rm 4 80 mc ms
theorem b_X2_init : x_BI yX2_init cX2_init 1 0 := ⟨q_1_16, q_1_15, q_1_12, rfl, by decide +kernel⟩
set_option maxHeartbeats 4000000 in
theorem tA_X2_init_b0 {Q : sT → Prop} (C : x_C p s m args c cX2_init RX2 gg) (hml : c.maxLocals = 1) (hr : meth.sig.returnType = none) (hlocks : meth.locks = false) (hin : meth.name = "<init>") {mc ms kc ks : Nat} (hk : kc ≤ mc ∧ ks ≤ ms) {x0 : Nat}  {S : sT}  (h : wA_X2_init_b0 mc ms kc ks x0 S  Q) : x_X p l e (rA_X2_init mc ms) s m args below meth c gg 1 kc ks (MQ below (va_Qv Q (fun S1 t => s_Rep gg S1 t.heap) (s_A gg)) args s mc ms (s_A gg)) 0 [(0, .ref x0)] [] S := by
  unfold wA_X2_init_b0 at h
  obtain ⟨hx, hb, -⟩ := id C
  intro H locs ls hR hS hl
  refine lv_aload_n hx hb dX2_init_0 rfl (lv_at hl 0 rfl) ?_
  refine W.objInit hx hb C.2.2.2.1 (C.2.2.1 _ q_1_17) (C.2.2.1 _ q_1_8) (C.2.2.1 _ q_1_9) rfl (by rw [hml]; exact hl.1) rfl dX2_init_1 (Nat.le_of_ble_eq_true rfl) (Nat.le_of_ble_eq_true rfl) ?_
  refine W.eq (g2 := F0 m 4 ls []) rfl ?_
  refine lv_aload_n hx hb dX2_init_4 rfl (lv_at hl 0 rfl) ?_
  obtain ⟨hk1, hk2, h⟩ := h
  refine x_nw_0 (a := 0) C hR hS q_1_18 q_1_19 q_1_20 hk1 hk2 dX2_init_5 (fun q101 H hq9 hq hR hS => ?_)
  replace h := h q101 hq
  have hk : (kc + 1) ≤ mc ∧ (ks + 3) ≤ ms := ⟨hk1, hk2⟩
  obtain ⟨S102, eS102⟩ : ∃ z : sT, z = s_nw S q101 1 0 := ⟨_, rfl⟩
  rw [← eS102] at hR
  replace h := h S102 eS102
  have hK_q101 : s_K S102 q101 = 1 := by rw [eS102]; exact s_nw_K
  refine lv_dup hx hb dX2_init_8 rfl ?_
  refine x_kv (x_runI (As := []) (rest := [.ref q101, .ref x0]) C hml hR hS (m_Jx4a65c_init_da8c8 l gg q101 S102 h) b_Jx4a65c_init_da8c8 q_2_3 rfl rfl ⟨Nat.le_of_ble_eq_true rfl, Nat.le_of_ble_eq_true rfl⟩ rfl hl.1 (Nat.le_of_ble_eq_true rfl) dX2_init_9 ⟨hk.1, hk.2⟩) hS (fun S103 H locs hn hR hS => ?_)
  replace h := hn
  clear hn
  obtain ⟨hK_x0, h⟩ := h
  refine x_p_96 (v := (some q101)) C hR hK_x0 hS hin rfl q_1_21 dX2_init_12 (fun H locs hR hS => ?_)
  obtain ⟨S104, eS104⟩ : ∃ z : sT, z = s_sR S103 96 x0 (some q101) := ⟨_, rfl⟩
  rw [← eS104] at hR
  replace h := h S104 eS104
  have hK_x0 : s_K S104 x0 = 4 := by rw [eS104]; exact hK_x0
  refine lv_aload_n hx hb dX2_init_15 rfl (lv_at hl 0 rfl) ?_
  obtain ⟨hk1, hk2, h⟩ := h
  refine x_nw_0 (a := 0) C hR hS q_1_18 q_1_19 q_1_20 hk1 hk2 dX2_init_16 (fun q105 H hq9 hq hR hS => ?_)
  replace h := h q105 hq
  have hk : ((kc + 1) + 1) ≤ mc ∧ ((ks + 3) + 3) ≤ ms := ⟨hk1, hk2⟩
  obtain ⟨S106, eS106⟩ : ∃ z : sT, z = s_nw S104 q105 1 0 := ⟨_, rfl⟩
  rw [← eS106] at hR
  replace h := h S106 eS106
  have hK_q105 : s_K S106 q105 = 1 := by rw [eS106]; exact s_nw_K
  refine lv_dup hx hb dX2_init_19 rfl ?_
  refine x_kv (x_runI (As := []) (rest := [.ref q105, .ref x0]) C hml hR hS (m_Jx4a65c_init_da8c8 l gg q105 S106 h) b_Jx4a65c_init_da8c8 q_2_3 rfl rfl ⟨Nat.le_of_ble_eq_true rfl, Nat.le_of_ble_eq_true rfl⟩ rfl hl.1 (Nat.le_of_ble_eq_true rfl) dX2_init_20 ⟨hk.1, hk.2⟩) hS (fun S107 H locs hn hR hS => ?_)
  replace h := hn
  clear hn
  obtain ⟨hK_x0, h⟩ := h
  refine x_p_97 (v := (some q105)) C hR hK_x0 hS hin rfl q_1_22 dX2_init_23 (fun H locs hR hS => ?_)
  obtain ⟨S108, eS108⟩ : ∃ z : sT, z = s_sR S107 97 x0 (some q105) := ⟨_, rfl⟩
  rw [← eS108] at hR
  replace h := h S108 eS108
  have hK_x0 : s_K S108 x0 = 4 := by rw [eS108]; exact hK_x0
  refine lv_aload_n hx hb dX2_init_26 rfl (lv_at hl 0 rfl) ?_
  obtain ⟨hk1, hk2, h⟩ := h
  refine x_nw_4 (a := 0) C hR hS q_1_23 q_2_0 q_2_1 hk1 hk2 dX2_init_27 (fun q109 H hq9 hq hR hS => ?_)
  replace h := h q109 hq
  have hk : (((kc + 1) + 1) + 1) ≤ mc ∧ (((ks + 3) + 3) + 4) ≤ ms := ⟨hk1, hk2⟩
  obtain ⟨S110, eS110⟩ : ∃ z : sT, z = s_nw S108 q109 5 0 := ⟨_, rfl⟩
  rw [← eS110] at hR
  replace h := h S110 eS110
  have hK_q109 : s_K S110 q109 = 5 := by rw [eS110]; exact s_nw_K
  refine lv_dup hx hb dX2_init_30 rfl ?_
  refine x_kv (x_runIN (As := []) (rest := [.ref q109, .ref x0]) (host := "Subakhall") C hml hR hS (m_X3_init l gg q109 S110 h) b_X3_init xm_1 rfl rfl ⟨Nat.le_of_ble_eq_true rfl, Nat.le_of_ble_eq_true rfl⟩ rfl hl.1 (Nat.le_of_ble_eq_true rfl) dX2_init_31 ⟨hk.1, hk.2⟩) hS (fun S111 H locs hn hR hS => ?_)
  replace h := hn
  clear hn
  obtain ⟨hK_x0, h⟩ := h
  refine x_p_98 (v := (some q109)) C hR hK_x0 hS hin rfl q_2_2 dX2_init_34 (fun H locs hR hS => ?_)
  obtain ⟨S112, eS112⟩ : ∃ z : sT, z = s_sR S111 98 x0 (some q109) := ⟨_, rfl⟩
  rw [← eS112] at hR
  replace h := h S112 eS112
  have hK_x0 : s_K S112 x0 = 4 := by rw [eS112]; exact hK_x0
  refine W.widen (k := mc) (n := ms) hk.1 hk.2 ?_
  exact W.vret hx hb hr (fun t ht hW => ⟨⟨S112, rfl, h, x_rt ht hR⟩, hS.F ht⟩) hS.2.2 dX2_init_37
theorem mA_X2_init (l : Launch) (gg : sG) (mc ms : Nat) (x0 : Nat) (S : sT) {Q : sT → Prop} (h : wA_X2_init mc ms x0 S Q) : x_Mv l gg yX2_init (x_ws yX2_init cX2_init 1 none) (rA_X2_init mc ms) [.ref x0] S Q mc ms := by
  refine x_ofW (cc := cX2_init) (own := RX2) (by decide +kernel) rfl (Nat.le_of_ble_eq_true rfl) ?_
  intro p e s m args below meth c C hml hr hlocks hin ht H locs ls hR hS hl
  exact tA_X2_init_b0 C hml hr hlocks (hin rfl) ⟨Nat.zero_le _, Nat.zero_le _⟩ h H locs ls hR hS (lv_sub (l' := [(0, .ref x0)]) hl [0] rfl)
def wA_X6_init_b0 (mc ms kc ks : Nat) (x0 : Nat) (S : sT)  (Q : sT → Prop) : Prop :=
(kc + 1) ≤ mc ∧ (ks + 10) ≤ ms ∧
    ∀ q101 : Nat, s_fr S q101 →
    ∀ S102 : sT, S102 = s_nw S q101 4 0 →
    ∃ c103 d104 : Nat, (kc + 1) + c103 ≤ mc ∧ (ks + 10) + d104 ≤ ms ∧
    wA_X2_init c103 d104 q101 S102 (fun S105 =>
    s_K S105 x0 = 8 ∧
    ∀ S106 : sT, S106 = s_sR S105 224 x0 (some q101) →
    (((kc + 1) + c103) + 1) ≤ mc ∧ (((ks + 10) + d104) + 10) ≤ ms ∧
    ∀ q107 : Nat, s_fr S106 q107 →
    ∀ S108 : sT, S108 = s_nw S106 q107 4 0 →
    ∃ c109 d110 : Nat, (((kc + 1) + c103) + 1) + c109 ≤ mc ∧ (((ks + 10) + d104) + 10) + d110 ≤ ms ∧
    wA_X2_init c109 d110 q107 S108 (fun S111 =>
    s_K S111 x0 = 8 ∧
    ∀ S112 : sT, S112 = s_sR S111 225 x0 (some q107) →
    Q S112))
def wA_X6_init (mc ms : Nat) (x0 : Nat) (S : sT) (Q : sT → Prop) : Prop := wA_X6_init_b0 mc ms 0 0 x0 S Q
def rA_X6_init (mc ms : Nat) : Room := x_rm 5 100 mc ms
theorem b_X6_init : x_BI yX6_init cX6_init 1 0 := ⟨q_1_6, q_1_5, q_1_2, rfl, by decide +kernel⟩
set_option maxHeartbeats 4000000 in
theorem tA_X6_init_b0 {Q : sT → Prop} (C : x_C p s m args c cX6_init RX6 gg) (hml : c.maxLocals = 1) (hr : meth.sig.returnType = none) (hlocks : meth.locks = false) (hin : meth.name = "<init>") {mc ms kc ks : Nat} (hk : kc ≤ mc ∧ ks ≤ ms) {x0 : Nat}  {S : sT}  (h : wA_X6_init_b0 mc ms kc ks x0 S  Q) : x_X p l e (rA_X6_init mc ms) s m args below meth c gg 1 kc ks (MQ below (va_Qv Q (fun S1 t => s_Rep gg S1 t.heap) (s_A gg)) args s mc ms (s_A gg)) 0 [(0, .ref x0)] [] S := by
  unfold wA_X6_init_b0 at h
  obtain ⟨hx, hb, -⟩ := id C
  intro H locs ls hR hS hl
  refine lv_aload_n hx hb dX6_init_0 rfl (lv_at hl 0 rfl) ?_
  refine W.objInit hx hb C.2.2.2.1 (C.2.2.1 _ q_1_7) (C.2.2.1 _ q_1_8) (C.2.2.1 _ q_1_9) rfl (by rw [hml]; exact hl.1) rfl dX6_init_1 (Nat.le_of_ble_eq_true rfl) (Nat.le_of_ble_eq_true rfl) ?_
  refine W.eq (g2 := F0 m 4 ls []) rfl ?_
  refine lv_aload_n hx hb dX6_init_4 rfl (lv_at hl 0 rfl) ?_
  obtain ⟨hk1, hk2, h⟩ := h
  refine x_nw_3 (a := 0) C hR hS q_1_10 q_1_11 q_1_12 hk1 hk2 dX6_init_5 (fun q101 H hq9 hq hR hS => ?_)
  replace h := h q101 hq
  have hk : (kc + 1) ≤ mc ∧ (ks + 10) ≤ ms := ⟨hk1, hk2⟩
  obtain ⟨S102, eS102⟩ : ∃ z : sT, z = s_nw S q101 4 0 := ⟨_, rfl⟩
  rw [← eS102] at hR
  replace h := h S102 eS102
  have hK_q101 : s_K S102 q101 = 4 := by rw [eS102]; exact s_nw_K
  refine lv_dup hx hb dX6_init_8 rfl ?_
  obtain ⟨c103, d104, hk1, hk2, h⟩ := h
  refine x_kv (x_runIN (As := []) (rest := [.ref q101, .ref x0]) (host := "Subakhall") C hml hR hS (mA_X2_init l gg c103 d104 q101 S102 h) b_X2_init xm_8 rfl rfl ⟨Nat.le_of_ble_eq_true rfl, Nat.le_of_ble_eq_true rfl⟩ rfl hl.1 (Nat.le_of_ble_eq_true rfl) dX6_init_9 ⟨hk1, hk2⟩) hS (fun S105 H locs hn hR hS => ?_)
  replace h := hn
  clear hn
  have hk : ((kc + 1) + c103) ≤ mc ∧ ((ks + 10) + d104) ≤ ms := ⟨hk1, hk2⟩
  obtain ⟨hK_x0, h⟩ := h
  refine x_p_224 (v := (some q101)) C hR hK_x0 hS hin rfl q_1_13 dX6_init_12 (fun H locs hR hS => ?_)
  obtain ⟨S106, eS106⟩ : ∃ z : sT, z = s_sR S105 224 x0 (some q101) := ⟨_, rfl⟩
  rw [← eS106] at hR
  replace h := h S106 eS106
  have hK_x0 : s_K S106 x0 = 8 := by rw [eS106]; exact hK_x0
  refine lv_aload_n hx hb dX6_init_15 rfl (lv_at hl 0 rfl) ?_
  obtain ⟨hk1, hk2, h⟩ := h
  refine x_nw_3 (a := 0) C hR hS q_1_10 q_1_11 q_1_12 hk1 hk2 dX6_init_16 (fun q107 H hq9 hq hR hS => ?_)
  replace h := h q107 hq
  have hk : (((kc + 1) + c103) + 1) ≤ mc ∧ (((ks + 10) + d104) + 10) ≤ ms := ⟨hk1, hk2⟩
  obtain ⟨S108, eS108⟩ : ∃ z : sT, z = s_nw S106 q107 4 0 := ⟨_, rfl⟩
  rw [← eS108] at hR
  replace h := h S108 eS108
  have hK_q107 : s_K S108 q107 = 4 := by rw [eS108]; exact s_nw_K
  refine lv_dup hx hb dX6_init_19 rfl ?_
  obtain ⟨c109, d110, hk1, hk2, h⟩ := h
  refine x_kv (x_runIN (As := []) (rest := [.ref q107, .ref x0]) (host := "Subakhall") C hml hR hS (mA_X2_init l gg c109 d110 q107 S108 h) b_X2_init xm_8 rfl rfl ⟨Nat.le_of_ble_eq_true rfl, Nat.le_of_ble_eq_true rfl⟩ rfl hl.1 (Nat.le_of_ble_eq_true rfl) dX6_init_20 ⟨hk1, hk2⟩) hS (fun S111 H locs hn hR hS => ?_)
  replace h := hn
  clear hn
  have hk : ((((kc + 1) + c103) + 1) + c109) ≤ mc ∧ ((((ks + 10) + d104) + 10) + d110) ≤ ms := ⟨hk1, hk2⟩
  obtain ⟨hK_x0, h⟩ := h
  refine x_p_225 (v := (some q107)) C hR hK_x0 hS hin rfl q_1_14 dX6_init_23 (fun H locs hR hS => ?_)
  obtain ⟨S112, eS112⟩ : ∃ z : sT, z = s_sR S111 225 x0 (some q107) := ⟨_, rfl⟩
  rw [← eS112] at hR
  replace h := h S112 eS112
  have hK_x0 : s_K S112 x0 = 8 := by rw [eS112]; exact hK_x0
  refine W.widen (k := mc) (n := ms) hk.1 hk.2 ?_
  exact W.vret hx hb hr (fun t ht hW => ⟨⟨S112, rfl, h, x_rt ht hR⟩, hS.F ht⟩) hS.2.2 dX6_init_26
theorem mA_X6_init (l : Launch) (gg : sG) (mc ms : Nat) (x0 : Nat) (S : sT) {Q : sT → Prop} (h : wA_X6_init mc ms x0 S Q) : x_Mv l gg yX6_init (x_ws yX6_init cX6_init 1 none) (rA_X6_init mc ms) [.ref x0] S Q mc ms := by
  refine x_ofW (cc := cX6_init) (own := RX6) (by decide +kernel) rfl (Nat.le_of_ble_eq_true rfl) ?_
  intro p e s m args below meth c C hml hr hlocks hin ht H locs ls hR hS hl
  exact tA_X6_init_b0 C hml hr hlocks (hin rfl) ⟨Nat.zero_le _, Nat.zero_le _⟩ h H locs ls hR hS (lv_sub (l' := [(0, .ref x0)]) hl [0] rfl)
end
