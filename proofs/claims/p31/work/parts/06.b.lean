section
variable {p : Program} {l : Launch} {e : Env} {s : State} {m : MethodId} {args : Array Value} {below : List Frame} {meth : Method} {c : Code} {gg : sG}
def w_X5_isOpenOn_b24 (y0 : Int32) (S : sT)  (Q : Int32 → sT → Prop) : Prop :=
(y0 = 0 ∨ y0 = 1) ∧
    Q y0 S
def w_X5_isOpenOn_b0 (x0 : Nat) (x1 : Int32) (S : sT)  (Q : Int32 → sT → Prop) : Prop :=
s_K S x0 = 7 ∧
    ∀ x101 : Int32, x101 = s_I S 196 x0 →
    ∀ x102 : Int32, x102 = x1 - x101 →
    w_J9_floorMod_7cf53 x102 (210 : Int32) S (fun x104 S103 =>
    s_K S103 x0 = 7 ∧
    ∀ x105 : Int32, x105 = s_I S103 197 x0 →
    ((x105 ≤ x104 → w_X5_isOpenOn_b24 (0 : Int32) S103  Q) ∧
    (¬ x105 ≤ x104 → w_X5_isOpenOn_b24 (1 : Int32) S103  Q)))
def w_X5_isOpenOn (x0 : Nat) (x1 : Int32) (S : sT) (Q : Int32 → sT → Prop) : Prop := w_X5_isOpenOn_b0 x0 x1 S Q
def r_X5_isOpenOn : Room := x_rm 1 22 0 0
theorem b_X5_isOpenOn : x_BV yX5_isOpenOn cX5_isOpenOn 2 (some .boolean) 1 := ⟨q_14_22, q_14_20, q_14_21, q_4_5, by decide +kernel⟩
set_option maxHeartbeats 4000000 in
theorem t_X5_isOpenOn_b24 {Q : Int32 → sT → Prop} (C : x_C p s m args c cX5_isOpenOn RX5 gg) (hml : c.maxLocals = 2) (hr : meth.sig.returnType = (some .boolean)) (hlocks : meth.locks = false) {y0 : Int32}  {S : sT}  (h : w_X5_isOpenOn_b24 y0 S  Q) : x_X p l e r_X5_isOpenOn s m args below meth c gg 2 0 0 (MQ below (va_Qi Q (fun S1 t => s_Rep gg S1 t.heap) (s_A gg)) args s 0 0 (s_A gg)) 24 [] [.int y0] S := by
  unfold w_X5_isOpenOn_b24 at h
  obtain ⟨hx, hb, -⟩ := id C
  intro H locs ls hR hS hl
  obtain ⟨hz101, h⟩ := h
  exact W.zret (v := y0) hx hb hr (zb_n hz101) (fun t ht hW => ⟨⟨y0, S, rfl, h, x_rt ht hR⟩, hS.F ht⟩) hS.2.2 dX5_isOpenOn_24
set_option maxHeartbeats 4000000 in
theorem t_X5_isOpenOn_b0 {Q : Int32 → sT → Prop} (C : x_C p s m args c cX5_isOpenOn RX5 gg) (hml : c.maxLocals = 2) (hr : meth.sig.returnType = (some .boolean)) (hlocks : meth.locks = false) {x0 : Nat} {x1 : Int32}  {S : sT}  (h : w_X5_isOpenOn_b0 x0 x1 S  Q) : x_X p l e r_X5_isOpenOn s m args below meth c gg 2 0 0 (MQ below (va_Qi Q (fun S1 t => s_Rep gg S1 t.heap) (s_A gg)) args s 0 0 (s_A gg)) 0 [(0, .ref x0), (1, .int x1)] [] S := by
  unfold w_X5_isOpenOn_b0 at h
  obtain ⟨hx, hb, -⟩ := id C
  intro H locs ls hR hS hl
  refine lv_iload_n hx hb dX5_isOpenOn_0 rfl (lv_at hl 1 rfl) ?_
  refine lv_aload_n hx hb dX5_isOpenOn_1 rfl (lv_at hl 0 rfl) ?_
  obtain ⟨hK_x0, h⟩ := h
  refine x_g_196 C hR hK_x0 q_4_18 dX5_isOpenOn_2 ?_
  refine lv_topi (fun x101 ex101 => ?_)
  replace h := h x101 ex101
  refine lv_isub hx hb dX5_isOpenOn_5 ?_
  refine lv_topi (fun x102 ex102 => ?_)
  replace h := h x102 ex102
  refine lv_sipush (v := 210) hx hb dX5_isOpenOn_6 (by decide) ?_
  refine x_ki (x_runS (As := [.int x102, .int (210 : Int32)]) (rest := []) C hml hR hS (m_J9_floorMod_7cf53 l gg x102 (210 : Int32) S h) b_J9_floorMod_7cf53 q_14_23 rfl rfl ⟨Nat.le_of_ble_eq_true rfl, Nat.le_of_ble_eq_true rfl⟩ rfl hl.1 (Nat.le_of_ble_eq_true rfl) dX5_isOpenOn_9 ⟨Nat.le_refl _, Nat.le_refl _⟩) hS (fun x104 S103 H locs hn hR hS => ?_)
  replace h := hn
  clear hn
  refine lv_aload_n hx hb dX5_isOpenOn_12 rfl (lv_at hl 0 rfl) ?_
  obtain ⟨hK_x0, h⟩ := h
  refine x_g_197 C hR hK_x0 q_4_19 dX5_isOpenOn_13 ?_
  refine lv_topi (fun x105 ex105 => ?_)
  replace h := h x105 ex105
  refine lv_icmp_ge (tgt := 23) hx hb dX5_isOpenOn_16 (by decide) (fun hc106 => ?_) (fun hc106 => ?_)
  · replace h := h.1 hc106
    refine lv_iconst (v := 0) hx hb dX5_isOpenOn_23 (by decide) ?_
    exact t_X5_isOpenOn_b24 C hml hr hlocks  h H locs ls hR hS (lv_sub (l' := []) hl [] rfl)
  · replace h := h.2 hc106
    refine lv_iconst (v := 1) hx hb dX5_isOpenOn_19 (by decide) ?_
    refine lv_goto (tgt := 24) hx hb dX5_isOpenOn_20 (by decide) ?_
    exact t_X5_isOpenOn_b24 C hml hr hlocks  h H locs ls hR hS (lv_sub (l' := []) hl [] rfl)
theorem m_X5_isOpenOn (l : Launch) (gg : sG) (x0 : Nat) (x1 : Int32) (S : sT) {Q : Int32 → sT → Prop} (h : w_X5_isOpenOn x0 x1 S Q) : x_Mi l gg yX5_isOpenOn (x_ws yX5_isOpenOn cX5_isOpenOn 2 (some .boolean)) r_X5_isOpenOn [.ref x0, .int x1] S Q 0 0 := by
  refine x_ofW (cc := cX5_isOpenOn) (own := RX5) (by decide +kernel) rfl (Nat.le_of_ble_eq_true rfl) ?_
  intro p e s m args below meth c C hml hr hlocks hin ht H locs ls hR hS hl
  exact t_X5_isOpenOn_b0 C hml hr hlocks h H locs ls hR hS (lv_sub (l' := [(0, .ref x0), (1, .int x1)]) hl [0, 1] rfl)
def w_X5_giveByNotch_b142 (x0 : Nat) (x1 : Int32) (x3 : Int32) (x4 : Int32) (S : sT) (kk80 : Nat → Int32 → Int32 → Int32 → sT → Prop) (Q : sT → Prop) : Prop :=
∀ x101 : Int32, x101 = x4 + 1 →
    kk80 x0 x1 x3 x101 S
def w_X5_giveByNotch_b80  (Q : sT → Prop) : Nat → Nat → Int32 → Int32 → Int32 → sT → Prop
  | 0 => fun _ _ _ _ _ => False
  | n + 1 => fun x0 x1 x3 x4 S =>
s_K S x0 = 7 ∧
    ∃ a101 : Nat, s_R S 195 x0 = some a101 ∧
    s_K S a101 = 1 ∧
    w_Jx4a65c_size_8abf5 a101 S (fun x103 S102 =>
    ((x103 ≤ x4 → Q S102) ∧
    (¬ x103 ≤ x4 → s_K S102 x0 = 7 ∧
    ∃ a105 : Nat, s_R S102 195 x0 = some a105 ∧
    s_K S102 a105 = 1 ∧
    w_Jx4a65c_get_915e3 a105 x4 S102 (fun a107 S106 =>
    s_K S106 a107 = 3 ∧
    w_X1_takesWater a107 S106 (fun x109 S108 =>
    ((x109 = 0 → w_X5_giveByNotch_b142 x0 x1 x3 x4 S108 (fun x0 x1 x3 x4 S => w_X5_giveByNotch_b80  Q n x0 x1 x3 x4 S) Q) ∧
    (¬ x109 = 0 → s_K S108 a107 = 3 ∧
    w_X1_part a107 S108 (fun x112 S111 =>
    ∀ x113 : Int32, x113 = x1 * x112 →
    ¬ x3 = 0 ∧
    ∀ x115 : Int32, x115 = x113 / x3 →
    s_K S111 a107 = 3 ∧
    ∀ S116 : sT, S116 = s_sI S111 78 a107 x115 →
    s_K S116 x0 = 7 ∧
    ∀ x117 : Int32, x117 = s_I S116 199 x0 →
    ∀ x118 : Int32, x118 = s_I S116 78 a107 →
    ∀ x119 : Int32, x119 = x117 - x118 →
    ∀ S120 : sT, S120 = s_sI S116 199 x0 x119 →
    w_X5_giveByNotch_b142 x0 x1 x3 x4 S120 (fun x0 x1 x3 x4 S => w_X5_giveByNotch_b80  Q n x0 x1 x3 x4 S) Q))))))))
def w_X5_giveByNotch_b49 (x0 : Nat) (x1 : Int32) (x2 : Nat) (x4 : Int32) (y0 : Int32) (y1 : Int32) (S : sT) (kk5 : Nat → Int32 → Nat → Int32 → Int32 → sT → Prop) (Q : sT → Prop) : Prop :=
∀ x101 : Int32, x101 = y1 + y0 →
    ∀ x102 : Int32, x102 = x4 + 1 →
    kk5 x0 x1 x2 x101 x102 S
def w_X5_giveByNotch_b5  (Q : sT → Prop) : Nat → Nat → Int32 → Nat → Int32 → Int32 → sT → Prop
  | 0 => fun _ _ _ _ _ _ => False
  | n + 1 => fun x0 x1 x2 x3 x4 S =>
s_K S x0 = 7 ∧
    ∃ a101 : Nat, s_R S 195 x0 = some a101 ∧
    s_K S a101 = 1 ∧
    w_Jx4a65c_size_8abf5 a101 S (fun x103 S102 =>
    ((x103 ≤ x4 → ((0 < x3 → s_K S102 x0 = 7 ∧
    ∀ S106 : sT, S106 = s_sI S102 199 x0 x1 →
    ∃ n9 : Nat, w_X5_giveByNotch_b80  Q n9 x0 x1 x3 (0 : Int32) S106) ∧
    (¬ 0 < x3 → s_K S102 x2 = 5 ∧
    ∀ x107 : Int32, x107 = s_I S102 131 x2 →
    ∀ x108 : Int32, x108 = x107 + x1 →
    ∀ S109 : sT, S109 = s_sI S102 131 x2 x108 →
    Q S109))) ∧
    (¬ x103 ≤ x4 → s_K S102 x0 = 7 ∧
    ∃ a110 : Nat, s_R S102 195 x0 = some a110 ∧
    s_K S102 a110 = 1 ∧
    w_Jx4a65c_get_915e3 a110 x4 S102 (fun a112 S111 =>
    s_K S111 a112 = 3 ∧
    w_X1_takesWater a112 S111 (fun x114 S113 =>
    ((x114 = 0 → w_X5_giveByNotch_b49 x0 x1 x2 x4 (0 : Int32) x3 S113 (fun x0 x1 x2 x3 x4 S => w_X5_giveByNotch_b5  Q n x0 x1 x2 x3 x4 S) Q) ∧
    (¬ x114 = 0 → s_K S113 a112 = 3 ∧
    w_X1_part a112 S113 (fun x117 S116 =>
    w_X5_giveByNotch_b49 x0 x1 x2 x4 x117 x3 S116 (fun x0 x1 x2 x3 x4 S => w_X5_giveByNotch_b5  Q n x0 x1 x2 x3 x4 S) Q))))))))
def w_X5_giveByNotch_b0 (x0 : Nat) (x1 : Int32) (x2 : Nat) (S : sT)  (Q : sT → Prop) : Prop :=
∃ n9 : Nat, w_X5_giveByNotch_b5  Q n9 x0 x1 x2 (0 : Int32) (0 : Int32) S
def w_X5_giveByNotch (x0 : Nat) (x1 : Int32) (x2 : Nat) (S : sT) (Q : sT → Prop) : Prop := w_X5_giveByNotch_b0 x0 x1 x2 S Q
def r_X5_giveByNotch : Room := x_rm 3 64 0 0
theorem b_X5_giveByNotch : x_BV yX5_giveByNotch cX5_giveByNotch 6 none 2 := ⟨q_21_18, q_21_16, q_21_17, q_4_5, by decide +kernel⟩
set_option maxHeartbeats 4000000 in
theorem t_X5_giveByNotch_b142 {Q : sT → Prop} (C : x_C p s m args c cX5_giveByNotch RX5 gg) (hml : c.maxLocals = 6) (hr : meth.sig.returnType = none) (hlocks : meth.locks = false) {x0 : Nat} {x1 : Int32} {x3 : Int32} {x4 : Int32} {kk80 : Nat → Int32 → Int32 → Int32 → sT → Prop} {S : sT} (hk80 : ∀ (x0 : Nat) (x1 : Int32) (x3 : Int32) (x4 : Int32) (S : sT), kk80 x0 x1 x3 x4 S → x_X p l e r_X5_giveByNotch s m args below meth c gg 6 0 0 (MQ below (va_Qv Q (fun S1 t => s_Rep gg S1 t.heap) (s_A gg)) args s 0 0 (s_A gg)) 80 [(0, .ref x0), (1, .int x1), (3, .int x3), (4, .int x4)] [] S) (h : w_X5_giveByNotch_b142 x0 x1 x3 x4 S kk80 Q) : x_X p l e r_X5_giveByNotch s m args below meth c gg 6 0 0 (MQ below (va_Qv Q (fun S1 t => s_Rep gg S1 t.heap) (s_A gg)) args s 0 0 (s_A gg)) 142 [(0, .ref x0), (1, .int x1), (3, .int x3), (4, .int x4)] [] S := by
  unfold w_X5_giveByNotch_b142 at h
  obtain ⟨hx, hb, -⟩ := id C
  intro H locs ls hR hS hl
  obtain ⟨x101, ex101⟩ : ∃ z : Int32, z = x4 + 1 := ⟨_, rfl⟩
  replace h := h x101 ex101
  refine lv_iinc (v := x101) (lv' := [(4, .int x101), (0, .ref x0), (1, .int x1), (3, .int x3)]) hx hb dX5_giveByNotch_142 hl (k := 3) rfl (by rw [ex101]; rfl) (by decide) rfl (fun ls hl => ?_)
  refine lv_goto (tgt := 80) hx hb dX5_giveByNotch_145 (by decide) ?_
  exact hk80 x0 x1 x3 x101 S h H locs ls hR hS (lv_sub (l' := [(0, .ref x0), (1, .int x1), (3, .int x3), (4, .int x101)]) hl [1, 2, 3, 0] rfl)
set_option maxHeartbeats 4000000 in
theorem t_X5_giveByNotch_b80 {Q : sT → Prop} (C : x_C p s m args c cX5_giveByNotch RX5 gg) (hml : c.maxLocals = 6) (hr : meth.sig.returnType = none) (hlocks : meth.locks = false)   : ∀ (n : Nat) (x0 : Nat) (x1 : Int32) (x3 : Int32) (x4 : Int32) (S : sT), w_X5_giveByNotch_b80  Q n x0 x1 x3 x4 S → x_X p l e r_X5_giveByNotch s m args below meth c gg 6 0 0 (MQ below (va_Qv Q (fun S1 t => s_Rep gg S1 t.heap) (s_A gg)) args s 0 0 (s_A gg)) 80 [(0, .ref x0), (1, .int x1), (3, .int x3), (4, .int x4)] [] S := by
  obtain ⟨hx, hb, -⟩ := id C
  intro n
  induction n with
  | zero => intro x0 x1 x3 x4 S h; exact absurd h id
  | succ n ih =>
    intro x0 x1 x3 x4 S h H locs ls hR hS hl
    unfold w_X5_giveByNotch_b80 at h
    refine lv_iload hx hb dX5_giveByNotch_80 (lv_at hl 3 rfl) ?_
    refine lv_aload_n hx hb dX5_giveByNotch_82 rfl (lv_at hl 0 rfl) ?_
    obtain ⟨hK_x0, h⟩ := h
    refine x_g_195 C hR hK_x0 q_4_13 dX5_giveByNotch_83 ?_
    obtain ⟨a101, ea101, h⟩ := h
    refine x_some ea101 ?_
    obtain ⟨hK_a101, h⟩ := h
    refine x_ki (x_runV (As := []) (rest := [.int x4]) C hml hR hS (m_Jx4a65c_size_8abf5 l gg a101 S h) b_Jx4a65c_size_8abf5 q_10_4 (by rw [hK_a101]; decide) (s_E_0 hK_a101) rfl rfl rfl rfl ⟨Nat.le_of_ble_eq_true rfl, Nat.le_of_ble_eq_true rfl⟩ rfl hl.1 (Nat.le_of_ble_eq_true rfl) dX5_giveByNotch_86 ⟨Nat.le_refl _, Nat.le_refl _⟩) hS (fun x103 S102 H locs hn hR hS => ?_)
    replace h := hn
    clear hn
    refine lv_icmp_ge (tgt := 148) hx hb dX5_giveByNotch_89 (by decide) (fun hc104 => ?_) (fun hc104 => ?_)
    · replace h := h.1 hc104
      exact W.vret hx hb hr (fun t ht hW => ⟨⟨S102, rfl, h, x_rt ht hR⟩, hS.F ht⟩) hS.2.2 dX5_giveByNotch_148
    · replace h := h.2 hc104
      refine lv_aload_n hx hb dX5_giveByNotch_92 rfl (lv_at hl 0 rfl) ?_
      obtain ⟨hK_x0, h⟩ := h
      refine x_g_195 C hR hK_x0 q_4_13 dX5_giveByNotch_93 ?_
      obtain ⟨a105, ea105, h⟩ := h
      refine x_some ea105 ?_
      refine lv_iload hx hb dX5_giveByNotch_96 (lv_at hl 3 rfl) ?_
      obtain ⟨hK_a105, h⟩ := h
      refine x_kq (x_runV (As := [.int x4]) (rest := []) C hml hR hS (m_Jx4a65c_get_915e3 l gg a105 x4 S102 h) b_Jx4a65c_get_915e3 q_10_5 (by rw [hK_a105]; decide) (s_E_0 hK_a105) rfl rfl rfl rfl ⟨Nat.le_of_ble_eq_true rfl, Nat.le_of_ble_eq_true rfl⟩ rfl hl.1 (Nat.le_of_ble_eq_true rfl) dX5_giveByNotch_98 ⟨Nat.le_refl _, Nat.le_refl _⟩) hS (fun ra107 S106 H locs hn hR hS => ?_)
      replace h := hn
      clear hn
      obtain ⟨a107, za107, h⟩ := h
      refine x_some za107 ?_
      obtain ⟨hK_a107, h⟩ := h
      refine x_cast (ci := 2) C hR (by rw [hK_a107]; decide) (s_E_2 hK_a107) rfl q_9_22 rfl dX5_giveByNotch_101 ?_
      refine lv_astore (lv' := [(5, .ref a107), (0, .ref x0), (1, .int x1), (3, .int x3), (4, .int x4)]) hx hb dX5_giveByNotch_104 hl (by decide) rfl (fun ls hl => ?_)
      refine lv_aload hx hb dX5_giveByNotch_106 (lv_at hl 0 rfl) ?_
      refine x_ki (x_runV (As := []) (rest := []) C hml hR hS (m_X1_takesWater l gg a107 S106 h) b_X1_takesWater q_15_5 (by rw [hK_a107]; decide) (s_E_2 hK_a107) rfl rfl rfl rfl ⟨Nat.le_of_ble_eq_true rfl, Nat.le_of_ble_eq_true rfl⟩ rfl hl.1 (Nat.le_of_ble_eq_true rfl) dX5_giveByNotch_108 ⟨Nat.le_refl _, Nat.le_refl _⟩) hS (fun x109 S108 H locs hn hR hS => ?_)
      replace h := hn
      clear hn
      refine lv_if_eq (tgt := 142) hx hb dX5_giveByNotch_111 (by decide) (fun hc110 => ?_) (fun hc110 => ?_)
      · replace h := h.1 hc110
        exact t_X5_giveByNotch_b142 C hml hr hlocks (fun x0 x1 x3 x4 S h => ih x0 x1 x3 x4 S h) h H locs ls hR hS (lv_sub (l' := [(0, .ref x0), (1, .int x1), (3, .int x3), (4, .int x4)]) hl [1, 2, 3, 4] rfl)
      · replace h := h.2 hc110
        refine lv_aload hx hb dX5_giveByNotch_114 (lv_at hl 0 rfl) ?_
        refine lv_iload_n hx hb dX5_giveByNotch_116 rfl (lv_at hl 2 rfl) ?_
        refine lv_aload hx hb dX5_giveByNotch_117 (lv_at hl 0 rfl) ?_
        obtain ⟨hK_a107, h⟩ := h
        refine x_ki (x_runV (As := []) (rest := [.int x1, .ref a107]) C hml hR hS (m_X1_part l gg a107 S108 h) b_X1_part q_21_19 (by rw [hK_a107]; decide) (s_E_2 hK_a107) rfl rfl rfl rfl ⟨Nat.le_of_ble_eq_true rfl, Nat.le_of_ble_eq_true rfl⟩ rfl hl.1 (Nat.le_of_ble_eq_true rfl) dX5_giveByNotch_119 ⟨Nat.le_refl _, Nat.le_refl _⟩) hS (fun x112 S111 H locs hn hR hS => ?_)
        replace h := hn
        clear hn
        refine lv_imul hx hb dX5_giveByNotch_122 ?_
        refine lv_topi (fun x113 ex113 => ?_)
        replace h := h x113 ex113
        refine lv_iload_n hx hb dX5_giveByNotch_123 rfl (lv_at hl 3 rfl) ?_
        obtain ⟨hd114, h⟩ := h
        refine lv_idiv hx hb dX5_giveByNotch_124 hd114 ?_
        refine lv_topi (fun x115 ex115 => ?_)
        replace h := h x115 ex115
        obtain ⟨hK_a107, h⟩ := h
        refine x_p_78 (v := x115) C hR hK_a107 hS q_21_3 dX5_giveByNotch_125 (fun H locs hR hS => ?_)
        obtain ⟨S116, eS116⟩ : ∃ z : sT, z = s_sI S111 78 a107 x115 := ⟨_, rfl⟩
        rw [← eS116] at hR
        replace h := h S116 eS116
        have hK_a107 : s_K S116 a107 = 3 := by rw [eS116]; exact hK_a107
        refine lv_aload_n hx hb dX5_giveByNotch_128 rfl (lv_at hl 1 rfl) ?_
        refine lv_dup hx hb dX5_giveByNotch_129 rfl ?_
        obtain ⟨hK_x0, h⟩ := h
        refine x_g_199 C hR hK_x0 q_21_6 dX5_giveByNotch_130 ?_
        refine lv_topi (fun x117 ex117 => ?_)
        replace h := h x117 ex117
        refine lv_aload hx hb dX5_giveByNotch_133 (lv_at hl 0 rfl) ?_
        refine x_g_78 C hR hK_a107 q_21_3 dX5_giveByNotch_135 ?_
        refine lv_topi (fun x118 ex118 => ?_)
        replace h := h x118 ex118
        refine lv_isub hx hb dX5_giveByNotch_138 ?_
        refine lv_topi (fun x119 ex119 => ?_)
        replace h := h x119 ex119
        refine x_p_199 (v := x119) C hR hK_x0 hS q_21_6 dX5_giveByNotch_139 (fun H locs hR hS => ?_)
        obtain ⟨S120, eS120⟩ : ∃ z : sT, z = s_sI S116 199 x0 x119 := ⟨_, rfl⟩
        rw [← eS120] at hR
        replace h := h S120 eS120
        have hK_a107 : s_K S120 a107 = 3 := by rw [eS120]; exact hK_a107
        have hK_x0 : s_K S120 x0 = 7 := by rw [eS120]; exact hK_x0
        exact t_X5_giveByNotch_b142 C hml hr hlocks (fun x0 x1 x3 x4 S h => ih x0 x1 x3 x4 S h) h H locs ls hR hS (lv_sub (l' := [(0, .ref x0), (1, .int x1), (3, .int x3), (4, .int x4)]) hl [1, 2, 3, 4] rfl)
set_option maxHeartbeats 4000000 in
theorem t_X5_giveByNotch_b49 {Q : sT → Prop} (C : x_C p s m args c cX5_giveByNotch RX5 gg) (hml : c.maxLocals = 6) (hr : meth.sig.returnType = none) (hlocks : meth.locks = false) {x0 : Nat} {x1 : Int32} {x2 : Nat} {x4 : Int32} {y0 : Int32} {y1 : Int32} {kk5 : Nat → Int32 → Nat → Int32 → Int32 → sT → Prop} {S : sT} (hk5 : ∀ (x0 : Nat) (x1 : Int32) (x2 : Nat) (x3 : Int32) (x4 : Int32) (S : sT), kk5 x0 x1 x2 x3 x4 S → x_X p l e r_X5_giveByNotch s m args below meth c gg 6 0 0 (MQ below (va_Qv Q (fun S1 t => s_Rep gg S1 t.heap) (s_A gg)) args s 0 0 (s_A gg)) 5 [(0, .ref x0), (1, .int x1), (2, .ref x2), (3, .int x3), (4, .int x4)] [] S) (h : w_X5_giveByNotch_b49 x0 x1 x2 x4 y0 y1 S kk5 Q) : x_X p l e r_X5_giveByNotch s m args below meth c gg 6 0 0 (MQ below (va_Qv Q (fun S1 t => s_Rep gg S1 t.heap) (s_A gg)) args s 0 0 (s_A gg)) 49 [(0, .ref x0), (1, .int x1), (2, .ref x2), (4, .int x4)] [.int y0, .int y1] S := by
  unfold w_X5_giveByNotch_b49 at h
  obtain ⟨hx, hb, -⟩ := id C
  intro H locs ls hR hS hl
  refine lv_iadd hx hb dX5_giveByNotch_49 ?_
  refine lv_topi (fun x101 ex101 => ?_)
  replace h := h x101 ex101
  refine lv_istore_n (lv' := [(3, .int x101), (0, .ref x0), (1, .int x1), (2, .ref x2), (4, .int x4)]) hx hb dX5_giveByNotch_50 rfl hl (by decide) rfl (fun ls hl => ?_)
  obtain ⟨x102, ex102⟩ : ∃ z : Int32, z = x4 + 1 := ⟨_, rfl⟩
  replace h := h x102 ex102
  refine lv_iinc (v := x102) (lv' := [(4, .int x102), (3, .int x101), (0, .ref x0), (1, .int x1), (2, .ref x2)]) hx hb dX5_giveByNotch_51 hl (k := 4) rfl (by rw [ex102]; rfl) (by decide) rfl (fun ls hl => ?_)
  refine lv_goto (tgt := 5) hx hb dX5_giveByNotch_54 (by decide) ?_
  exact hk5 x0 x1 x2 x101 x102 S h H locs ls hR hS (lv_sub (l' := [(0, .ref x0), (1, .int x1), (2, .ref x2), (3, .int x101), (4, .int x102)]) hl [2, 3, 4, 1, 0] rfl)
set_option maxHeartbeats 4000000 in
theorem t_X5_giveByNotch_b5 {Q : sT → Prop} (C : x_C p s m args c cX5_giveByNotch RX5 gg) (hml : c.maxLocals = 6) (hr : meth.sig.returnType = none) (hlocks : meth.locks = false)   : ∀ (n : Nat) (x0 : Nat) (x1 : Int32) (x2 : Nat) (x3 : Int32) (x4 : Int32) (S : sT), w_X5_giveByNotch_b5  Q n x0 x1 x2 x3 x4 S → x_X p l e r_X5_giveByNotch s m args below meth c gg 6 0 0 (MQ below (va_Qv Q (fun S1 t => s_Rep gg S1 t.heap) (s_A gg)) args s 0 0 (s_A gg)) 5 [(0, .ref x0), (1, .int x1), (2, .ref x2), (3, .int x3), (4, .int x4)] [] S := by
  obtain ⟨hx, hb, -⟩ := id C
  intro n
  induction n with
  | zero => intro x0 x1 x2 x3 x4 S h; exact absurd h id
  | succ n ih =>
    intro x0 x1 x2 x3 x4 S h H locs ls hR hS hl
    unfold w_X5_giveByNotch_b5 at h
    refine lv_iload hx hb dX5_giveByNotch_5 (lv_at hl 4 rfl) ?_
    refine lv_aload_n hx hb dX5_giveByNotch_7 rfl (lv_at hl 0 rfl) ?_
    obtain ⟨hK_x0, h⟩ := h
    refine x_g_195 C hR hK_x0 q_4_13 dX5_giveByNotch_8 ?_
    obtain ⟨a101, ea101, h⟩ := h
    refine x_some ea101 ?_
    obtain ⟨hK_a101, h⟩ := h
    refine x_ki (x_runV (As := []) (rest := [.int x4]) C hml hR hS (m_Jx4a65c_size_8abf5 l gg a101 S h) b_Jx4a65c_size_8abf5 q_10_4 (by rw [hK_a101]; decide) (s_E_0 hK_a101) rfl rfl rfl rfl ⟨Nat.le_of_ble_eq_true rfl, Nat.le_of_ble_eq_true rfl⟩ rfl hl.1 (Nat.le_of_ble_eq_true rfl) dX5_giveByNotch_11 ⟨Nat.le_refl _, Nat.le_refl _⟩) hS (fun x103 S102 H locs hn hR hS => ?_)
    replace h := hn
    clear hn
    refine lv_icmp_ge (tgt := 57) hx hb dX5_giveByNotch_14 (by decide) (fun hc104 => ?_) (fun hc104 => ?_)
    · replace h := h.1 hc104
      refine lv_iload_n hx hb dX5_giveByNotch_57 rfl (lv_at hl 3 rfl) ?_
      refine lv_if_gt (tgt := 72) hx hb dX5_giveByNotch_58 (by decide) (fun hc105 => ?_) (fun hc105 => ?_)
      · replace h := h.1 hc105
        refine lv_aload_n hx hb dX5_giveByNotch_72 rfl (lv_at hl 0 rfl) ?_
        refine lv_iload_n hx hb dX5_giveByNotch_73 rfl (lv_at hl 1 rfl) ?_
        obtain ⟨hK_x0, h⟩ := h
        refine x_p_199 (v := x1) C hR hK_x0 hS q_21_6 dX5_giveByNotch_74 (fun H locs hR hS => ?_)
        obtain ⟨S106, eS106⟩ : ∃ z : sT, z = s_sI S102 199 x0 x1 := ⟨_, rfl⟩
        rw [← eS106] at hR
        replace h := h S106 eS106
        have hK_x0 : s_K S106 x0 = 7 := by rw [eS106]; exact hK_x0
        refine lv_iconst (v := 0) hx hb dX5_giveByNotch_77 (by decide) ?_
        refine lv_istore (lv' := [(4, .int (0 : Int32)), (0, .ref x0), (1, .int x1), (2, .ref x2), (3, .int x3)]) hx hb dX5_giveByNotch_78 hl (by decide) rfl (fun ls hl => ?_)
        obtain ⟨n9, h⟩ := h
        exact t_X5_giveByNotch_b80 C hml hr hlocks  n9 x0 x1 x3 (0 : Int32) S106 h H locs ls hR hS (lv_sub (l' := [(0, .ref x0), (1, .int x1), (3, .int x3), (4, .int (0 : Int32))]) hl [1, 2, 4, 0] rfl)
      · replace h := h.2 hc105
        refine lv_aload_n hx hb dX5_giveByNotch_61 rfl (lv_at hl 2 rfl) ?_
        refine lv_dup hx hb dX5_giveByNotch_62 rfl ?_
        obtain ⟨hK_x2, h⟩ := h
        refine x_g_131 C hR hK_x2 q_21_7 dX5_giveByNotch_63 ?_
        refine lv_topi (fun x107 ex107 => ?_)
        replace h := h x107 ex107
        refine lv_iload_n hx hb dX5_giveByNotch_66 rfl (lv_at hl 1 rfl) ?_
        refine lv_iadd hx hb dX5_giveByNotch_67 ?_
        refine lv_topi (fun x108 ex108 => ?_)
        replace h := h x108 ex108
        refine x_p_131 (v := x108) C hR hK_x2 hS q_21_7 dX5_giveByNotch_68 (fun H locs hR hS => ?_)
        obtain ⟨S109, eS109⟩ : ∃ z : sT, z = s_sI S102 131 x2 x108 := ⟨_, rfl⟩
        rw [← eS109] at hR
        replace h := h S109 eS109
        have hK_x2 : s_K S109 x2 = 5 := by rw [eS109]; exact hK_x2
        exact W.vret hx hb hr (fun t ht hW => ⟨⟨S109, rfl, h, x_rt ht hR⟩, hS.F ht⟩) hS.2.2 dX5_giveByNotch_71
    · replace h := h.2 hc104
      refine lv_aload_n hx hb dX5_giveByNotch_17 rfl (lv_at hl 0 rfl) ?_
      obtain ⟨hK_x0, h⟩ := h
      refine x_g_195 C hR hK_x0 q_4_13 dX5_giveByNotch_18 ?_
      obtain ⟨a110, ea110, h⟩ := h
      refine x_some ea110 ?_
      refine lv_iload hx hb dX5_giveByNotch_21 (lv_at hl 4 rfl) ?_
      obtain ⟨hK_a110, h⟩ := h
      refine x_kq (x_runV (As := [.int x4]) (rest := []) C hml hR hS (m_Jx4a65c_get_915e3 l gg a110 x4 S102 h) b_Jx4a65c_get_915e3 q_10_5 (by rw [hK_a110]; decide) (s_E_0 hK_a110) rfl rfl rfl rfl ⟨Nat.le_of_ble_eq_true rfl, Nat.le_of_ble_eq_true rfl⟩ rfl hl.1 (Nat.le_of_ble_eq_true rfl) dX5_giveByNotch_23 ⟨Nat.le_refl _, Nat.le_refl _⟩) hS (fun ra112 S111 H locs hn hR hS => ?_)
      replace h := hn
      clear hn
      obtain ⟨a112, za112, h⟩ := h
      refine x_some za112 ?_
      obtain ⟨hK_a112, h⟩ := h
      refine x_cast (ci := 2) C hR (by rw [hK_a112]; decide) (s_E_2 hK_a112) rfl q_9_22 rfl dX5_giveByNotch_26 ?_
      refine lv_astore (lv' := [(5, .ref a112), (0, .ref x0), (1, .int x1), (2, .ref x2), (3, .int x3), (4, .int x4)]) hx hb dX5_giveByNotch_29 hl (by decide) rfl (fun ls hl => ?_)
      refine lv_iload_n hx hb dX5_giveByNotch_31 rfl (lv_at hl 4 rfl) ?_
      refine lv_aload hx hb dX5_giveByNotch_32 (lv_at hl 0 rfl) ?_
      refine x_ki (x_runV (As := []) (rest := [.int x3]) C hml hR hS (m_X1_takesWater l gg a112 S111 h) b_X1_takesWater q_15_5 (by rw [hK_a112]; decide) (s_E_2 hK_a112) rfl rfl rfl rfl ⟨Nat.le_of_ble_eq_true rfl, Nat.le_of_ble_eq_true rfl⟩ rfl hl.1 (Nat.le_of_ble_eq_true rfl) dX5_giveByNotch_34 ⟨Nat.le_refl _, Nat.le_refl _⟩) hS (fun x114 S113 H locs hn hR hS => ?_)
      replace h := hn
      clear hn
      refine lv_if_eq (tgt := 48) hx hb dX5_giveByNotch_37 (by decide) (fun hc115 => ?_) (fun hc115 => ?_)
      · replace h := h.1 hc115
        refine lv_iconst (v := 0) hx hb dX5_giveByNotch_48 (by decide) ?_
        exact t_X5_giveByNotch_b49 C hml hr hlocks (fun x0 x1 x2 x3 x4 S h => ih x0 x1 x2 x3 x4 S h) h H locs ls hR hS (lv_sub (l' := [(0, .ref x0), (1, .int x1), (2, .ref x2), (4, .int x4)]) hl [1, 2, 3, 5] rfl)
      · replace h := h.2 hc115
        refine lv_aload hx hb dX5_giveByNotch_40 (lv_at hl 0 rfl) ?_
        obtain ⟨hK_a112, h⟩ := h
        refine x_ki (x_runV (As := []) (rest := [.int x3]) C hml hR hS (m_X1_part l gg a112 S113 h) b_X1_part q_21_19 (by rw [hK_a112]; decide) (s_E_2 hK_a112) rfl rfl rfl rfl ⟨Nat.le_of_ble_eq_true rfl, Nat.le_of_ble_eq_true rfl⟩ rfl hl.1 (Nat.le_of_ble_eq_true rfl) dX5_giveByNotch_42 ⟨Nat.le_refl _, Nat.le_refl _⟩) hS (fun x117 S116 H locs hn hR hS => ?_)
        replace h := hn
        clear hn
        refine lv_goto (tgt := 49) hx hb dX5_giveByNotch_45 (by decide) ?_
        exact t_X5_giveByNotch_b49 C hml hr hlocks (fun x0 x1 x2 x3 x4 S h => ih x0 x1 x2 x3 x4 S h) h H locs ls hR hS (lv_sub (l' := [(0, .ref x0), (1, .int x1), (2, .ref x2), (4, .int x4)]) hl [1, 2, 3, 5] rfl)
set_option maxHeartbeats 4000000 in
theorem t_X5_giveByNotch_b0 {Q : sT → Prop} (C : x_C p s m args c cX5_giveByNotch RX5 gg) (hml : c.maxLocals = 6) (hr : meth.sig.returnType = none) (hlocks : meth.locks = false) {x0 : Nat} {x1 : Int32} {x2 : Nat}  {S : sT}  (h : w_X5_giveByNotch_b0 x0 x1 x2 S  Q) : x_X p l e r_X5_giveByNotch s m args below meth c gg 6 0 0 (MQ below (va_Qv Q (fun S1 t => s_Rep gg S1 t.heap) (s_A gg)) args s 0 0 (s_A gg)) 0 [(0, .ref x0), (1, .int x1), (2, .ref x2)] [] S := by
  unfold w_X5_giveByNotch_b0 at h
  obtain ⟨hx, hb, -⟩ := id C
  intro H locs ls hR hS hl
  refine lv_iconst (v := 0) hx hb dX5_giveByNotch_0 (by decide) ?_
  refine lv_istore_n (lv' := [(3, .int (0 : Int32)), (0, .ref x0), (1, .int x1), (2, .ref x2)]) hx hb dX5_giveByNotch_1 rfl hl (by decide) rfl (fun ls hl => ?_)
  refine lv_iconst (v := 0) hx hb dX5_giveByNotch_2 (by decide) ?_
  refine lv_istore (lv' := [(4, .int (0 : Int32)), (3, .int (0 : Int32)), (0, .ref x0), (1, .int x1), (2, .ref x2)]) hx hb dX5_giveByNotch_3 hl (by decide) rfl (fun ls hl => ?_)
  obtain ⟨n9, h⟩ := h
  exact t_X5_giveByNotch_b5 C hml hr hlocks  n9 x0 x1 x2 (0 : Int32) (0 : Int32) S h H locs ls hR hS (lv_sub (l' := [(0, .ref x0), (1, .int x1), (2, .ref x2), (3, .int (0 : Int32)), (4, .int (0 : Int32))]) hl [2, 3, 4, 1, 0] rfl)
theorem m_X5_giveByNotch (l : Launch) (gg : sG) (x0 : Nat) (x1 : Int32) (x2 : Nat) (S : sT) {Q : sT → Prop} (h : w_X5_giveByNotch x0 x1 x2 S Q) : x_Mv l gg yX5_giveByNotch (x_ws yX5_giveByNotch cX5_giveByNotch 6 none) r_X5_giveByNotch [.ref x0, .int x1, .ref x2] S Q 0 0 := by
  refine x_ofW (cc := cX5_giveByNotch) (own := RX5) (by decide +kernel) rfl (Nat.le_of_ble_eq_true rfl) ?_
  intro p e s m args below meth c C hml hr hlocks hin ht H locs ls hR hS hl
  exact t_X5_giveByNotch_b0 C hml hr hlocks h H locs ls hR hS (lv_sub (l' := [(0, .ref x0), (1, .int x1), (2, .ref x2)]) hl [0, 1, 2] rfl)
def w_X5_nextInTurn_b56 (x0 : Nat) (x1 : Option Nat) (x2 : Int32) (S : sT) (kk4 : Nat → Option Nat → Int32 → sT → Prop) (Q : Option Nat → sT → Prop) : Prop :=
∀ x101 : Int32, x101 = x2 + 1 →
    kk4 x0 x1 x101 S
def w_X5_nextInTurn_b4  (Q : Option Nat → sT → Prop) : Nat → Nat → Option Nat → Int32 → sT → Prop
  | 0 => fun _ _ _ _ => False
  | n + 1 => fun x0 x1 x2 S =>
s_K S x0 = 7 ∧
    ∃ a101 : Nat, s_R S 195 x0 = some a101 ∧
    s_K S a101 = 1 ∧
    w_Jx4a65c_size_8abf5 a101 S (fun x103 S102 =>
    ((x103 ≤ x2 → Q x1 S102) ∧
    (¬ x103 ≤ x2 → s_K S102 x0 = 7 ∧
    ∃ a105 : Nat, s_R S102 195 x0 = some a105 ∧
    s_K S102 a105 = 1 ∧
    w_Jx4a65c_get_915e3 a105 x2 S102 (fun a107 S106 =>
    s_K S106 a107 = 3 ∧
    w_X1_takesWater a107 S106 (fun x109 S108 =>
    ((¬ x109 = 0 → s_K S108 a107 = 3 ∧
    ∀ x111 : Int32, x111 = s_I S108 64 a107 →
    s_K S108 x0 = 7 ∧
    ∀ x112 : Int32, x112 = s_I S108 203 x0 →
    ((x111 ≤ x112 → ((x1 = none → w_X5_nextInTurn_b56 x0 (some a107) x2 S108 (fun x0 x1 x2 S => w_X5_nextInTurn_b4  Q n x0 x1 x2 S) Q) ∧
    (∀ a114 : Nat, x1 = some a114 → w_X5_nextInTurn_b56 x0 (some a114) x2 S108 (fun x0 x1 x2 S => w_X5_nextInTurn_b4  Q n x0 x1 x2 S) Q))) ∧
    (¬ x111 ≤ x112 → Q (some a107) S108))) ∧
    (x109 = 0 → w_X5_nextInTurn_b56 x0 x1 x2 S108 (fun x0 x1 x2 S => w_X5_nextInTurn_b4  Q n x0 x1 x2 S) Q)))))))
def w_X5_nextInTurn_b0 (x0 : Nat) (S : sT)  (Q : Option Nat → sT → Prop) : Prop :=
∃ n9 : Nat, w_X5_nextInTurn_b4  Q n9 x0 none (0 : Int32) S
def w_X5_nextInTurn (x0 : Nat) (S : sT) (Q : Option Nat → sT → Prop) : Prop := w_X5_nextInTurn_b0 x0 S Q
def r_X5_nextInTurn : Room := x_rm 3 64 0 0
theorem b_X5_nextInTurn : x_BV yX5_nextInTurn cX5_nextInTurn 4 (some (.object "Subakhall$Field")) 0 := ⟨q_15_3, q_15_1, q_15_2, q_4_5, by decide +kernel⟩
set_option maxHeartbeats 4000000 in
theorem t_X5_nextInTurn_b56 {Q : Option Nat → sT → Prop} (C : x_C p s m args c cX5_nextInTurn RX5 gg) (hml : c.maxLocals = 4) (hr : meth.sig.returnType = (some (.object "Subakhall$Field"))) (hlocks : meth.locks = false) {x0 : Nat} {x1 : Option Nat} {x2 : Int32} {kk4 : Nat → Option Nat → Int32 → sT → Prop} {S : sT} (hk4 : ∀ (x0 : Nat) (x1 : Option Nat) (x2 : Int32) (S : sT), kk4 x0 x1 x2 S → x_X p l e r_X5_nextInTurn s m args below meth c gg 4 0 0 (MQ below (va_Qq Q (fun S1 t => s_Rep gg S1 t.heap) (s_A gg)) args s 0 0 (s_A gg)) 4 [(0, .ref x0), (1, va_rf x1), (2, .int x2)] [] S) (h : w_X5_nextInTurn_b56 x0 x1 x2 S kk4 Q) : x_X p l e r_X5_nextInTurn s m args below meth c gg 4 0 0 (MQ below (va_Qq Q (fun S1 t => s_Rep gg S1 t.heap) (s_A gg)) args s 0 0 (s_A gg)) 56 [(0, .ref x0), (1, va_rf x1), (2, .int x2)] [] S := by
  unfold w_X5_nextInTurn_b56 at h
  obtain ⟨hx, hb, -⟩ := id C
  intro H locs ls hR hS hl
  obtain ⟨x101, ex101⟩ : ∃ z : Int32, z = x2 + 1 := ⟨_, rfl⟩
  replace h := h x101 ex101
  refine lv_iinc (v := x101) (lv' := [(2, .int x101), (0, .ref x0), (1, va_rf x1)]) hx hb dX5_nextInTurn_56 hl (k := 2) rfl (by rw [ex101]; rfl) (by decide) (by cases x1 <;> rfl) (fun ls hl => ?_)
  refine lv_goto (tgt := 4) hx hb dX5_nextInTurn_59 (by decide) ?_
  exact hk4 x0 x1 x101 S h H locs ls hR hS (lv_sub (l' := [(0, .ref x0), (1, va_rf x1), (2, .int x101)]) hl [1, 2, 0] rfl)
set_option maxHeartbeats 4000000 in
theorem t_X5_nextInTurn_b4 {Q : Option Nat → sT → Prop} (C : x_C p s m args c cX5_nextInTurn RX5 gg) (hml : c.maxLocals = 4) (hr : meth.sig.returnType = (some (.object "Subakhall$Field"))) (hlocks : meth.locks = false)   : ∀ (n : Nat) (x0 : Nat) (x1 : Option Nat) (x2 : Int32) (S : sT), w_X5_nextInTurn_b4  Q n x0 x1 x2 S → x_X p l e r_X5_nextInTurn s m args below meth c gg 4 0 0 (MQ below (va_Qq Q (fun S1 t => s_Rep gg S1 t.heap) (s_A gg)) args s 0 0 (s_A gg)) 4 [(0, .ref x0), (1, va_rf x1), (2, .int x2)] [] S := by
  obtain ⟨hx, hb, -⟩ := id C
  intro n
  induction n with
  | zero => intro x0 x1 x2 S h; exact absurd h id
  | succ n ih =>
    intro x0 x1 x2 S h H locs ls hR hS hl
    unfold w_X5_nextInTurn_b4 at h
    refine lv_iload_n hx hb dX5_nextInTurn_4 rfl (lv_at hl 2 rfl) ?_
    refine lv_aload_n hx hb dX5_nextInTurn_5 rfl (lv_at hl 0 rfl) ?_
    obtain ⟨hK_x0, h⟩ := h
    refine x_g_195 C hR hK_x0 q_4_13 dX5_nextInTurn_6 ?_
    obtain ⟨a101, ea101, h⟩ := h
    refine x_some ea101 ?_
    obtain ⟨hK_a101, h⟩ := h
    refine x_ki (x_runV (As := []) (rest := [.int x2]) C hml hR hS (m_Jx4a65c_size_8abf5 l gg a101 S h) b_Jx4a65c_size_8abf5 q_10_4 (by rw [hK_a101]; decide) (s_E_0 hK_a101) rfl rfl rfl rfl ⟨Nat.le_of_ble_eq_true rfl, Nat.le_of_ble_eq_true rfl⟩ rfl hl.1 (Nat.le_of_ble_eq_true rfl) dX5_nextInTurn_9 ⟨Nat.le_refl _, Nat.le_refl _⟩) hS (fun x103 S102 H locs hn hR hS => ?_)
    replace h := hn
    clear hn
    refine lv_icmp_ge (tgt := 62) hx hb dX5_nextInTurn_12 (by decide) (fun hc104 => ?_) (fun hc104 => ?_)
    · replace h := h.1 hc104
      refine x_aload_n hx hb dX5_nextInTurn_62 rfl (lv_at hl 1 rfl) ?_
      exact W.aret (v := va_rf x1) hx hb hr (Or.inl ⟨_, rfl⟩) (va_rf_or _) (fun t ht hW => ⟨⟨x1, S102, rfl, h, x_rt ht hR⟩, hS.F ht⟩) hS.2.2 dX5_nextInTurn_63
    · replace h := h.2 hc104
      refine lv_aload_n hx hb dX5_nextInTurn_15 rfl (lv_at hl 0 rfl) ?_
      obtain ⟨hK_x0, h⟩ := h
      refine x_g_195 C hR hK_x0 q_4_13 dX5_nextInTurn_16 ?_
      obtain ⟨a105, ea105, h⟩ := h
      refine x_some ea105 ?_
      refine lv_iload_n hx hb dX5_nextInTurn_19 rfl (lv_at hl 2 rfl) ?_
      obtain ⟨hK_a105, h⟩ := h
      refine x_kq (x_runV (As := [.int x2]) (rest := []) C hml hR hS (m_Jx4a65c_get_915e3 l gg a105 x2 S102 h) b_Jx4a65c_get_915e3 q_10_5 (by rw [hK_a105]; decide) (s_E_0 hK_a105) rfl rfl rfl rfl ⟨Nat.le_of_ble_eq_true rfl, Nat.le_of_ble_eq_true rfl⟩ rfl hl.1 (Nat.le_of_ble_eq_true rfl) dX5_nextInTurn_20 ⟨Nat.le_refl _, Nat.le_refl _⟩) hS (fun ra107 S106 H locs hn hR hS => ?_)
      replace h := hn
      clear hn
      obtain ⟨a107, za107, h⟩ := h
      refine x_some za107 ?_
      obtain ⟨hK_a107, h⟩ := h
      refine x_cast (ci := 2) C hR (by rw [hK_a107]; decide) (s_E_2 hK_a107) rfl q_9_22 rfl dX5_nextInTurn_23 ?_
      refine lv_astore_n (lv' := [(3, .ref a107), (0, .ref x0), (1, va_rf x1), (2, .int x2)]) hx hb dX5_nextInTurn_26 rfl hl (by decide) (by cases x1 <;> rfl) (fun ls hl => ?_)
      refine lv_aload_n hx hb dX5_nextInTurn_27 rfl (lv_at hl 0 rfl) ?_
      refine x_ki (x_runV (As := []) (rest := []) C hml hR hS (m_X1_takesWater l gg a107 S106 h) b_X1_takesWater q_15_5 (by rw [hK_a107]; decide) (s_E_2 hK_a107) rfl rfl rfl rfl ⟨Nat.le_of_ble_eq_true rfl, Nat.le_of_ble_eq_true rfl⟩ rfl hl.1 (Nat.le_of_ble_eq_true rfl) dX5_nextInTurn_28 ⟨Nat.le_refl _, Nat.le_refl _⟩) hS (fun x109 S108 H locs hn hR hS => ?_)
      replace h := hn
      clear hn
      refine lv_if_ne (tgt := 37) hx hb dX5_nextInTurn_31 (by decide) (fun hc110 => ?_) (fun hc110 => ?_)
      · replace h := h.1 hc110
        refine lv_aload_n hx hb dX5_nextInTurn_37 rfl (lv_at hl 0 rfl) ?_
        obtain ⟨hK_a107, h⟩ := h
        refine x_g_64 C hR hK_a107 q_15_4 dX5_nextInTurn_38 ?_
        refine lv_topi (fun x111 ex111 => ?_)
        replace h := h x111 ex111
        refine lv_aload_n hx hb dX5_nextInTurn_41 rfl (lv_at hl 1 rfl) ?_
        obtain ⟨hK_x0, h⟩ := h
        refine x_g_203 C hR hK_x0 q_4_14 dX5_nextInTurn_42 ?_
        refine lv_topi (fun x112 ex112 => ?_)
        replace h := h x112 ex112
        refine lv_icmp_le (tgt := 50) hx hb dX5_nextInTurn_45 (by decide) (fun hc113 => ?_) (fun hc113 => ?_)
        · replace h := h.1 hc113
          refine x_aload_n hx hb dX5_nextInTurn_50 rfl (lv_at hl 2 rfl) ?_
          refine x_ifnonnull (tgt := 56) hx hb dX5_nextInTurn_51 (by decide) (fun a114 hc115 => ?_) (fun hc115 => ?_)
          · replace h := h.2 a114 hc115
            have z2 : va_rf x1 = Value.ref a114 := by rw [hc115]; rfl
            rw [z2] at hl
            exact t_X5_nextInTurn_b56 C hml hr hlocks (fun x0 x1 x2 S h => ih x0 x1 x2 S h) h H locs ls hR hS (lv_sub (l' := [(0, .ref x0), (1, va_rf (some a114)), (2, .int x2)]) hl [1, 2, 3] rfl)
          · replace h := h.1 hc115
            have z2 : va_rf x1 = Value.null := by rw [hc115]; rfl
            rw [show va_rf x1 = va_rf none from z2] at hl
            refine lv_aload_n hx hb dX5_nextInTurn_54 rfl (lv_at hl 0 rfl) ?_
            refine lv_astore_n (lv' := [(1, .ref a107), (3, .ref a107), (0, .ref x0), (2, .int x2)]) hx hb dX5_nextInTurn_55 rfl hl (by decide) rfl (fun ls hl => ?_)
            exact t_X5_nextInTurn_b56 C hml hr hlocks (fun x0 x1 x2 S h => ih x0 x1 x2 S h) h H locs ls hR hS (lv_sub (l' := [(0, .ref x0), (1, va_rf (some a107)), (2, .int x2)]) hl [2, 0, 3] rfl)
        · replace h := h.2 hc113
          refine lv_aload_n hx hb dX5_nextInTurn_48 rfl (lv_at hl 0 rfl) ?_
          exact W.aret (v := va_rf (some a107)) hx hb hr (Or.inl ⟨_, rfl⟩) (va_rf_or _) (fun t ht hW => ⟨⟨(some a107), S108, rfl, h, x_rt ht hR⟩, hS.F ht⟩) hS.2.2 dX5_nextInTurn_49
      · replace h := h.2 hc110
        refine lv_goto (tgt := 56) hx hb dX5_nextInTurn_34 (by decide) ?_
        exact t_X5_nextInTurn_b56 C hml hr hlocks (fun x0 x1 x2 S h => ih x0 x1 x2 S h) h H locs ls hR hS (lv_sub (l' := [(0, .ref x0), (1, va_rf x1), (2, .int x2)]) hl [1, 2, 3] rfl)
set_option maxHeartbeats 4000000 in
theorem t_X5_nextInTurn_b0 {Q : Option Nat → sT → Prop} (C : x_C p s m args c cX5_nextInTurn RX5 gg) (hml : c.maxLocals = 4) (hr : meth.sig.returnType = (some (.object "Subakhall$Field"))) (hlocks : meth.locks = false) {x0 : Nat}  {S : sT}  (h : w_X5_nextInTurn_b0 x0 S  Q) : x_X p l e r_X5_nextInTurn s m args below meth c gg 4 0 0 (MQ below (va_Qq Q (fun S1 t => s_Rep gg S1 t.heap) (s_A gg)) args s 0 0 (s_A gg)) 0 [(0, .ref x0)] [] S := by
  unfold w_X5_nextInTurn_b0 at h
  obtain ⟨hx, hb, -⟩ := id C
  intro H locs ls hR hS hl
  refine lv_null hx hb dX5_nextInTurn_0 ?_
  refine x_astore_n (r := none) (lv' := [(1, va_rf none), (0, .ref x0)]) hx hb dX5_nextInTurn_1 rfl hl (by decide) rfl (fun ls hl => ?_)
  refine lv_iconst (v := 0) hx hb dX5_nextInTurn_2 (by decide) ?_
  refine lv_istore_n (lv' := [(2, .int (0 : Int32)), (1, va_rf none), (0, .ref x0)]) hx hb dX5_nextInTurn_3 rfl hl (by decide) rfl (fun ls hl => ?_)
  obtain ⟨n9, h⟩ := h
  exact t_X5_nextInTurn_b4 C hml hr hlocks  n9 x0 none (0 : Int32) S h H locs ls hR hS (lv_sub (l' := [(0, .ref x0), (1, va_rf none), (2, .int (0 : Int32))]) hl [2, 1, 0] rfl)
theorem m_X5_nextInTurn (l : Launch) (gg : sG) (x0 : Nat) (S : sT) {Q : Option Nat → sT → Prop} (h : w_X5_nextInTurn x0 S Q) : x_Mq l gg yX5_nextInTurn (x_ws yX5_nextInTurn cX5_nextInTurn 4 (some (.object "Subakhall$Field"))) r_X5_nextInTurn [.ref x0] S Q 0 0 := by
  refine x_ofW (cc := cX5_nextInTurn) (own := RX5) (by decide +kernel) rfl (Nat.le_of_ble_eq_true rfl) ?_
  intro p e s m args below meth c C hml hr hlocks hin ht H locs ls hR hS hl
  exact t_X5_nextInTurn_b0 C hml hr hlocks h H locs ls hR hS (lv_sub (l' := [(0, .ref x0)]) hl [0] rfl)
def w_X5_giveInTurn_b0 (x0 : Nat) (x1 : Option Nat) (x2 : Int32) (x3 : Nat) (S : sT)  (Q : sT → Prop) : Prop :=
((x1 = none → s_K S x3 = 5 ∧
    ∀ x103 : Int32, x103 = s_I S 131 x3 →
    ∀ x104 : Int32, x104 = x103 + x2 →
    ∀ S105 : sT, S105 = s_sI S 131 x3 x104 →
    Q S105) ∧
    (∀ a101 : Nat, x1 = some a101 → s_K S a101 = 3 ∧
    ∀ S106 : sT, S106 = s_sI S 78 a101 x2 →
    ∀ x107 : Int32, x107 = s_I S106 64 a101 →
    s_K S106 x0 = 7 ∧
    ∀ S108 : sT, S108 = s_sI S106 203 x0 x107 →
    Q S108))
def w_X5_giveInTurn (x0 : Nat) (x1 : Option Nat) (x2 : Int32) (x3 : Nat) (S : sT) (Q : sT → Prop) : Prop := w_X5_giveInTurn_b0 x0 x1 x2 x3 S Q
def r_X5_giveInTurn : Room := x_rm 0 0 0 0
theorem b_X5_giveInTurn : x_BV yX5_giveInTurn cX5_giveInTurn 4 none 3 := ⟨q_21_14, q_21_12, q_21_13, q_4_5, by decide +kernel⟩
set_option maxHeartbeats 4000000 in
theorem t_X5_giveInTurn_b0 {Q : sT → Prop} (C : x_C p s m args c cX5_giveInTurn RX5 gg) (hml : c.maxLocals = 4) (hr : meth.sig.returnType = none) (hlocks : meth.locks = false) {x0 : Nat} {x1 : Option Nat} {x2 : Int32} {x3 : Nat}  {S : sT}  (h : w_X5_giveInTurn_b0 x0 x1 x2 x3 S  Q) : x_X p l e r_X5_giveInTurn s m args below meth c gg 4 0 0 (MQ below (va_Qv Q (fun S1 t => s_Rep gg S1 t.heap) (s_A gg)) args s 0 0 (s_A gg)) 0 [(0, .ref x0), (1, va_rf x1), (2, .int x2), (3, .ref x3)] [] S := by
  unfold w_X5_giveInTurn_b0 at h
  obtain ⟨hx, hb, -⟩ := id C
  intro H locs ls hR hS hl
  refine x_aload_n hx hb dX5_giveInTurn_0 rfl (lv_at hl 1 rfl) ?_
  refine x_ifnonnull (tgt := 15) hx hb dX5_giveInTurn_1 (by decide) (fun a101 hc102 => ?_) (fun hc102 => ?_)
  · replace h := h.2 a101 hc102
    have z2 : va_rf x1 = Value.ref a101 := by rw [hc102]; rfl
    rw [z2] at hl
    refine lv_aload_n hx hb dX5_giveInTurn_15 rfl (lv_at hl 1 rfl) ?_
    refine lv_iload_n hx hb dX5_giveInTurn_16 rfl (lv_at hl 2 rfl) ?_
    obtain ⟨hK_a101, h⟩ := h
    refine x_p_78 (v := x2) C hR hK_a101 hS q_21_3 dX5_giveInTurn_17 (fun H locs hR hS => ?_)
    obtain ⟨S106, eS106⟩ : ∃ z : sT, z = s_sI S 78 a101 x2 := ⟨_, rfl⟩
    rw [← eS106] at hR
    replace h := h S106 eS106
    have hK_a101 : s_K S106 a101 = 3 := by rw [eS106]; exact hK_a101
    refine lv_aload_n hx hb dX5_giveInTurn_20 rfl (lv_at hl 0 rfl) ?_
    refine lv_aload_n hx hb dX5_giveInTurn_21 rfl (lv_at hl 1 rfl) ?_
    refine x_g_64 C hR hK_a101 q_15_4 dX5_giveInTurn_22 ?_
    refine lv_topi (fun x107 ex107 => ?_)
    replace h := h x107 ex107
    obtain ⟨hK_x0, h⟩ := h
    refine x_p_203 (v := x107) C hR hK_x0 hS q_4_14 dX5_giveInTurn_25 (fun H locs hR hS => ?_)
    obtain ⟨S108, eS108⟩ : ∃ z : sT, z = s_sI S106 203 x0 x107 := ⟨_, rfl⟩
    rw [← eS108] at hR
    replace h := h S108 eS108
    have hK_a101 : s_K S108 a101 = 3 := by rw [eS108]; exact hK_a101
    have hK_x0 : s_K S108 x0 = 7 := by rw [eS108]; exact hK_x0
    exact W.vret hx hb hr (fun t ht hW => ⟨⟨S108, rfl, h, x_rt ht hR⟩, hS.F ht⟩) hS.2.2 dX5_giveInTurn_28
  · replace h := h.1 hc102
    have z2 : va_rf x1 = Value.null := by rw [hc102]; rfl
    rw [show va_rf x1 = va_rf none from z2] at hl
    refine lv_aload_n hx hb dX5_giveInTurn_4 rfl (lv_at hl 3 rfl) ?_
    refine lv_dup hx hb dX5_giveInTurn_5 rfl ?_
    obtain ⟨hK_x3, h⟩ := h
    refine x_g_131 C hR hK_x3 q_21_7 dX5_giveInTurn_6 ?_
    refine lv_topi (fun x103 ex103 => ?_)
    replace h := h x103 ex103
    refine lv_iload_n hx hb dX5_giveInTurn_9 rfl (lv_at hl 2 rfl) ?_
    refine lv_iadd hx hb dX5_giveInTurn_10 ?_
    refine lv_topi (fun x104 ex104 => ?_)
    replace h := h x104 ex104
    refine x_p_131 (v := x104) C hR hK_x3 hS q_21_7 dX5_giveInTurn_11 (fun H locs hR hS => ?_)
    obtain ⟨S105, eS105⟩ : ∃ z : sT, z = s_sI S 131 x3 x104 := ⟨_, rfl⟩
    rw [← eS105] at hR
    replace h := h S105 eS105
    have hK_x3 : s_K S105 x3 = 5 := by rw [eS105]; exact hK_x3
    exact W.vret hx hb hr (fun t ht hW => ⟨⟨S105, rfl, h, x_rt ht hR⟩, hS.F ht⟩) hS.2.2 dX5_giveInTurn_14
theorem m_X5_giveInTurn (l : Launch) (gg : sG) (x0 : Nat) (x1 : Option Nat) (x2 : Int32) (x3 : Nat) (S : sT) {Q : sT → Prop} (h : w_X5_giveInTurn x0 x1 x2 x3 S Q) : x_Mv l gg yX5_giveInTurn (x_ws yX5_giveInTurn cX5_giveInTurn 4 none) r_X5_giveInTurn [.ref x0, va_rf x1, .int x2, .ref x3] S Q 0 0 := by
  cases x1 <;> (
  refine x_ofW (cc := cX5_giveInTurn) (own := RX5) (by decide +kernel) rfl (Nat.le_of_ble_eq_true rfl) ?_
  intro p e s m args below meth c C hml hr hlocks hin ht H locs ls hR hS hl
  exact t_X5_giveInTurn_b0 C hml hr hlocks h H locs ls hR hS (lv_sub hl [0, 1, 2, 3] rfl))
def w_X5_shareOut_b125  (S : sT)  (Q : sT → Prop) : Prop :=
Q S
def w_X5_shareOut_b2  (Q : sT → Prop) : Nat → Nat → Int32 → Nat → Int32 → sT → Prop
  | 0 => fun _ _ _ _ _ => False
  | n + 1 => fun x0 x1 x2 x3 S =>
s_K S x0 = 7 ∧
    ∃ a101 : Nat, s_R S 195 x0 = some a101 ∧
    s_K S a101 = 1 ∧
    w_Jx4a65c_size_8abf5 a101 S (fun x103 S102 =>
    ((x103 ≤ x3 → s_K S102 x0 = 7 ∧
    ∀ x105 : Int32, x105 = s_I S102 201 x0 →
    ∀ x106 : Int32, x106 = s_I S102 194 x0 →
    ∀ x107 : Int32, x107 = x105 * x106 →
    ∀ x108 : Int32, x108 = x107 / (100 : Int32) →
    s_K S102 x2 = 5 ∧
    ∀ x109 : Int32, x109 = s_I S102 129 x2 →
    ∀ x110 : Int32, x110 = x109 + x108 →
    ∀ S111 : sT, S111 = s_sI S102 129 x2 x110 →
    ∀ x112 : Int32, x112 = s_I S111 201 x0 →
    ∀ x113 : Int32, x113 = x112 - x108 →
    ∀ x114 : Int32, x114 = s_I S111 199 x0 →
    ∀ x115 : Int32, x115 = x113 + x114 →
    ∀ S116 : sT, S116 = s_sI S111 199 x0 (0 : Int32) →
    w_X5_isOpenOn x0 x1 S116 (fun x118 S117 =>
    ((¬ x118 = 0 → s_K S117 x0 = 7 ∧
    ∀ x120 : Int32, x120 = s_I S117 202 x0 →
    ((x120 = 0 → w_X5_giveByNotch x0 x115 x2 S117 (fun S122 =>
    w_X5_shareOut_b125  S122  Q)) ∧
    (¬ x120 = 0 → w_X5_nextInTurn x0 S117 (fun r124 S123 =>
    s_K S123 x0 = 7 ∧
    w_X5_giveInTurn x0 r124 x115 x2 S123 (fun S125 =>
    w_X5_shareOut_b125  S125  Q))))) ∧
    (x118 = 0 → s_K S117 x2 = 5 ∧
    ∀ x126 : Int32, x126 = s_I S117 131 x2 →
    ∀ x127 : Int32, x127 = x126 + x115 →
    ∀ S128 : sT, S128 = s_sI S117 131 x2 x127 →
    w_X5_shareOut_b125  S128  Q)))) ∧
    (¬ x103 ≤ x3 → s_K S102 x0 = 7 ∧
    ∃ a129 : Nat, s_R S102 195 x0 = some a129 ∧
    s_K S102 a129 = 1 ∧
    w_Jx4a65c_get_915e3 a129 x3 S102 (fun a131 S130 =>
    s_K S130 a131 = 3 ∧
    ∀ S132 : sT, S132 = s_sI S130 78 a131 (0 : Int32) →
    ∀ x133 : Int32, x133 = x3 + 1 →
    w_X5_shareOut_b2  Q n x0 x1 x2 x133 S132))))
def w_X5_shareOut_b0 (x0 : Nat) (x1 : Int32) (x2 : Nat) (S : sT)  (Q : sT → Prop) : Prop :=
∃ n9 : Nat, w_X5_shareOut_b2  Q n9 x0 x1 x2 (0 : Int32) S
def w_X5_shareOut (x0 : Nat) (x1 : Int32) (x2 : Nat) (S : sT) (Q : sT → Prop) : Prop := w_X5_shareOut_b0 x0 x1 x2 S Q
def r_X5_shareOut : Room := x_rm 4 89 0 0
theorem b_X5_shareOut : x_BV yX5_shareOut cX5_shareOut 5 none 2 := ⟨q_21_2, q_21_0, q_21_1, q_4_5, by decide +kernel⟩
set_option maxHeartbeats 4000000 in
theorem t_X5_shareOut_b125 {Q : sT → Prop} (C : x_C p s m args c cX5_shareOut RX5 gg) (hml : c.maxLocals = 5) (hr : meth.sig.returnType = none) (hlocks : meth.locks = false)   {S : sT}  (h : w_X5_shareOut_b125  S  Q) : x_X p l e r_X5_shareOut s m args below meth c gg 5 0 0 (MQ below (va_Qv Q (fun S1 t => s_Rep gg S1 t.heap) (s_A gg)) args s 0 0 (s_A gg)) 125 [] [] S := by
  unfold w_X5_shareOut_b125 at h
  obtain ⟨hx, hb, -⟩ := id C
  intro H locs ls hR hS hl
  exact W.vret hx hb hr (fun t ht hW => ⟨⟨S, rfl, h, x_rt ht hR⟩, hS.F ht⟩) hS.2.2 dX5_shareOut_125
set_option maxHeartbeats 4000000 in
theorem t_X5_shareOut_b2 {Q : sT → Prop} (C : x_C p s m args c cX5_shareOut RX5 gg) (hml : c.maxLocals = 5) (hr : meth.sig.returnType = none) (hlocks : meth.locks = false)   : ∀ (n : Nat) (x0 : Nat) (x1 : Int32) (x2 : Nat) (x3 : Int32) (S : sT), w_X5_shareOut_b2  Q n x0 x1 x2 x3 S → x_X p l e r_X5_shareOut s m args below meth c gg 5 0 0 (MQ below (va_Qv Q (fun S1 t => s_Rep gg S1 t.heap) (s_A gg)) args s 0 0 (s_A gg)) 2 [(0, .ref x0), (1, .int x1), (2, .ref x2), (3, .int x3)] [] S := by
  obtain ⟨hx, hb, -⟩ := id C
  intro n
  induction n with
  | zero => intro x0 x1 x2 x3 S h; exact absurd h id
  | succ n ih =>
    intro x0 x1 x2 x3 S h H locs ls hR hS hl
    unfold w_X5_shareOut_b2 at h
    refine lv_iload_n hx hb dX5_shareOut_2 rfl (lv_at hl 3 rfl) ?_
    refine lv_aload_n hx hb dX5_shareOut_3 rfl (lv_at hl 0 rfl) ?_
    obtain ⟨hK_x0, h⟩ := h
    refine x_g_195 C hR hK_x0 q_4_13 dX5_shareOut_4 ?_
    obtain ⟨a101, ea101, h⟩ := h
    refine x_some ea101 ?_
    obtain ⟨hK_a101, h⟩ := h
    refine x_ki (x_runV (As := []) (rest := [.int x3]) C hml hR hS (m_Jx4a65c_size_8abf5 l gg a101 S h) b_Jx4a65c_size_8abf5 q_10_4 (by rw [hK_a101]; decide) (s_E_0 hK_a101) rfl rfl rfl rfl ⟨Nat.le_of_ble_eq_true rfl, Nat.le_of_ble_eq_true rfl⟩ rfl hl.1 (Nat.le_of_ble_eq_true rfl) dX5_shareOut_7 ⟨Nat.le_refl _, Nat.le_refl _⟩) hS (fun x103 S102 H locs hn hR hS => ?_)
    replace h := hn
    clear hn
    refine lv_icmp_ge (tgt := 34) hx hb dX5_shareOut_10 (by decide) (fun hc104 => ?_) (fun hc104 => ?_)
    · replace h := h.1 hc104
      refine lv_aload_n hx hb dX5_shareOut_34 rfl (lv_at hl 0 rfl) ?_
      obtain ⟨hK_x0, h⟩ := h
      refine x_g_201 C hR hK_x0 q_21_4 dX5_shareOut_35 ?_
      refine lv_topi (fun x105 ex105 => ?_)
      replace h := h x105 ex105
      refine lv_aload_n hx hb dX5_shareOut_38 rfl (lv_at hl 0 rfl) ?_
      refine x_g_194 C hR hK_x0 q_4_17 dX5_shareOut_39 ?_
      refine lv_topi (fun x106 ex106 => ?_)
      replace h := h x106 ex106
      refine lv_imul hx hb dX5_shareOut_42 ?_
      refine lv_topi (fun x107 ex107 => ?_)
      replace h := h x107 ex107
      refine lv_bipush (v := 100) hx hb dX5_shareOut_43 (by decide) ?_
      refine lv_idiv hx hb dX5_shareOut_45 (by decide) ?_
      refine lv_topi (fun x108 ex108 => ?_)
      replace h := h x108 ex108
      refine lv_istore_n (lv' := [(3, .int x108), (0, .ref x0), (1, .int x1), (2, .ref x2)]) hx hb dX5_shareOut_46 rfl hl (by decide) rfl (fun ls hl => ?_)
      refine lv_aload_n hx hb dX5_shareOut_47 rfl (lv_at hl 3 rfl) ?_
      refine lv_dup hx hb dX5_shareOut_48 rfl ?_
      obtain ⟨hK_x2, h⟩ := h
      refine x_g_129 C hR hK_x2 q_21_5 dX5_shareOut_49 ?_
      refine lv_topi (fun x109 ex109 => ?_)
      replace h := h x109 ex109
      refine lv_iload_n hx hb dX5_shareOut_52 rfl (lv_at hl 0 rfl) ?_
      refine lv_iadd hx hb dX5_shareOut_53 ?_
      refine lv_topi (fun x110 ex110 => ?_)
      replace h := h x110 ex110
      refine x_p_129 (v := x110) C hR hK_x2 hS q_21_5 dX5_shareOut_54 (fun H locs hR hS => ?_)
      obtain ⟨S111, eS111⟩ : ∃ z : sT, z = s_sI S102 129 x2 x110 := ⟨_, rfl⟩
      rw [← eS111] at hR
      replace h := h S111 eS111
      have hK_x0 : s_K S111 x0 = 7 := by rw [eS111]; exact hK_x0
      have hK_x2 : s_K S111 x2 = 5 := by rw [eS111]; exact hK_x2
      refine lv_aload_n hx hb dX5_shareOut_57 rfl (lv_at hl 1 rfl) ?_
      refine x_g_201 C hR hK_x0 q_21_4 dX5_shareOut_58 ?_
      refine lv_topi (fun x112 ex112 => ?_)
      replace h := h x112 ex112
      refine lv_iload_n hx hb dX5_shareOut_61 rfl (lv_at hl 0 rfl) ?_
      refine lv_isub hx hb dX5_shareOut_62 ?_
      refine lv_topi (fun x113 ex113 => ?_)
      replace h := h x113 ex113
      refine lv_aload_n hx hb dX5_shareOut_63 rfl (lv_at hl 1 rfl) ?_
      refine x_g_199 C hR hK_x0 q_21_6 dX5_shareOut_64 ?_
      refine lv_topi (fun x114 ex114 => ?_)
      replace h := h x114 ex114
      refine lv_iadd hx hb dX5_shareOut_67 ?_
      refine lv_topi (fun x115 ex115 => ?_)
      replace h := h x115 ex115
      refine lv_istore (lv' := [(4, .int x115), (3, .int x108), (0, .ref x0), (1, .int x1), (2, .ref x2)]) hx hb dX5_shareOut_68 hl (by decide) rfl (fun ls hl => ?_)
      refine lv_aload_n hx hb dX5_shareOut_70 rfl (lv_at hl 2 rfl) ?_
      refine lv_iconst (v := 0) hx hb dX5_shareOut_71 (by decide) ?_
      refine x_p_199 (v := (0 : Int32)) C hR hK_x0 hS q_21_6 dX5_shareOut_72 (fun H locs hR hS => ?_)
      obtain ⟨S116, eS116⟩ : ∃ z : sT, z = s_sI S111 199 x0 (0 : Int32) := ⟨_, rfl⟩
      rw [← eS116] at hR
      replace h := h S116 eS116
      have hK_x0 : s_K S116 x0 = 7 := by rw [eS116]; exact hK_x0
      have hK_x2 : s_K S116 x2 = 5 := by rw [eS116]; exact hK_x2
      refine lv_aload_n hx hb dX5_shareOut_75 rfl (lv_at hl 2 rfl) ?_
      refine lv_iload_n hx hb dX5_shareOut_76 rfl (lv_at hl 3 rfl) ?_
      refine x_ki (x_runV (As := [.int x1]) (rest := []) C hml hR hS (m_X5_isOpenOn l gg x0 x1 S116 h) b_X5_isOpenOn q_21_9 (by rw [hK_x0]; decide) (s_E_6 hK_x0) rfl rfl rfl rfl ⟨Nat.le_of_ble_eq_true rfl, Nat.le_of_ble_eq_true rfl⟩ rfl hl.1 (Nat.le_of_ble_eq_true rfl) dX5_shareOut_77 ⟨Nat.le_refl _, Nat.le_refl _⟩) hS (fun x118 S117 H locs hn hR hS => ?_)
      replace h := hn
      clear hn
      refine lv_if_ne (tgt := 97) hx hb dX5_shareOut_80 (by decide) (fun hc119 => ?_) (fun hc119 => ?_)
      · replace h := h.1 hc119
        refine lv_aload_n hx hb dX5_shareOut_97 rfl (lv_at hl 2 rfl) ?_
        obtain ⟨hK_x0, h⟩ := h
        refine x_g_202 C hR hK_x0 q_21_8 dX5_shareOut_98 ?_
        refine lv_topi (fun x120 ex120 => ?_)
        replace h := h x120 ex120
        refine lv_if_eq (tgt := 118) hx hb dX5_shareOut_101 (by decide) (fun hc121 => ?_) (fun hc121 => ?_)
        · replace h := h.1 hc121
          refine lv_aload_n hx hb dX5_shareOut_118 rfl (lv_at hl 2 rfl) ?_
          refine lv_iload hx hb dX5_shareOut_119 (lv_at hl 0 rfl) ?_
          refine lv_aload_n hx hb dX5_shareOut_121 rfl (lv_at hl 4 rfl) ?_
          refine x_kv (x_runV (As := [.int x115, .ref x2]) (rest := []) C hml hR hS (m_X5_giveByNotch l gg x0 x115 x2 S117 h) b_X5_giveByNotch q_21_15 (by rw [hK_x0]; decide) (s_E_6 hK_x0) rfl rfl rfl rfl ⟨Nat.le_of_ble_eq_true rfl, Nat.le_of_ble_eq_true rfl⟩ rfl hl.1 (Nat.le_of_ble_eq_true rfl) dX5_shareOut_122 ⟨Nat.le_refl _, Nat.le_refl _⟩) hS (fun S122 H locs hn hR hS => ?_)
          replace h := hn
          clear hn
          exact t_X5_shareOut_b125 C hml hr hlocks  h H locs ls hR hS (lv_sub (l' := []) hl [] rfl)
        · replace h := h.2 hc121
          refine lv_aload_n hx hb dX5_shareOut_104 rfl (lv_at hl 2 rfl) ?_
          refine lv_aload_n hx hb dX5_shareOut_105 rfl (lv_at hl 2 rfl) ?_
          refine x_kq (x_runV (As := []) (rest := [.ref x0]) C hml hR hS (m_X5_nextInTurn l gg x0 S117 h) b_X5_nextInTurn q_21_10 (by rw [hK_x0]; decide) (s_E_6 hK_x0) rfl rfl rfl rfl ⟨Nat.le_of_ble_eq_true rfl, Nat.le_of_ble_eq_true rfl⟩ rfl hl.1 (Nat.le_of_ble_eq_true rfl) dX5_shareOut_106 ⟨Nat.le_refl _, Nat.le_refl _⟩) hS (fun r124 S123 H locs hn hR hS => ?_)
          replace h := hn
          clear hn
          refine lv_iload hx hb dX5_shareOut_109 (lv_at hl 0 rfl) ?_
          refine lv_aload_n hx hb dX5_shareOut_111 rfl (lv_at hl 4 rfl) ?_
          obtain ⟨hK_x0, h⟩ := h
          refine x_kv (x_runV (As := [va_rf r124, .int x115, .ref x2]) (rest := []) C hml hR hS (m_X5_giveInTurn l gg x0 r124 x115 x2 S123 h) b_X5_giveInTurn q_21_11 (by rw [hK_x0]; decide) (s_E_6 hK_x0) rfl rfl rfl rfl ⟨Nat.le_of_ble_eq_true rfl, Nat.le_of_ble_eq_true rfl⟩ rfl hl.1 (Nat.le_of_ble_eq_true rfl) dX5_shareOut_112 ⟨Nat.le_refl _, Nat.le_refl _⟩) hS (fun S125 H locs hn hR hS => ?_)
          replace h := hn
          clear hn
          refine lv_goto (tgt := 125) hx hb dX5_shareOut_115 (by decide) ?_
          exact t_X5_shareOut_b125 C hml hr hlocks  h H locs ls hR hS (lv_sub (l' := []) hl [] rfl)
      · replace h := h.2 hc119
        refine lv_aload_n hx hb dX5_shareOut_83 rfl (lv_at hl 4 rfl) ?_
        refine lv_dup hx hb dX5_shareOut_84 rfl ?_
        obtain ⟨hK_x2, h⟩ := h
        refine x_g_131 C hR hK_x2 q_21_7 dX5_shareOut_85 ?_
        refine lv_topi (fun x126 ex126 => ?_)
        replace h := h x126 ex126
        refine lv_iload hx hb dX5_shareOut_88 (lv_at hl 0 rfl) ?_
        refine lv_iadd hx hb dX5_shareOut_90 ?_
        refine lv_topi (fun x127 ex127 => ?_)
        replace h := h x127 ex127
        refine x_p_131 (v := x127) C hR hK_x2 hS q_21_7 dX5_shareOut_91 (fun H locs hR hS => ?_)
        obtain ⟨S128, eS128⟩ : ∃ z : sT, z = s_sI S117 131 x2 x127 := ⟨_, rfl⟩
        rw [← eS128] at hR
        replace h := h S128 eS128
        have hK_x2 : s_K S128 x2 = 5 := by rw [eS128]; exact hK_x2
        refine lv_goto (tgt := 125) hx hb dX5_shareOut_94 (by decide) ?_
        exact t_X5_shareOut_b125 C hml hr hlocks  h H locs ls hR hS (lv_sub (l' := []) hl [] rfl)
    · replace h := h.2 hc104
      refine lv_aload_n hx hb dX5_shareOut_13 rfl (lv_at hl 0 rfl) ?_
      obtain ⟨hK_x0, h⟩ := h
      refine x_g_195 C hR hK_x0 q_4_13 dX5_shareOut_14 ?_
      obtain ⟨a129, ea129, h⟩ := h
      refine x_some ea129 ?_
      refine lv_iload_n hx hb dX5_shareOut_17 rfl (lv_at hl 3 rfl) ?_
      obtain ⟨hK_a129, h⟩ := h
      refine x_kq (x_runV (As := [.int x3]) (rest := []) C hml hR hS (m_Jx4a65c_get_915e3 l gg a129 x3 S102 h) b_Jx4a65c_get_915e3 q_10_5 (by rw [hK_a129]; decide) (s_E_0 hK_a129) rfl rfl rfl rfl ⟨Nat.le_of_ble_eq_true rfl, Nat.le_of_ble_eq_true rfl⟩ rfl hl.1 (Nat.le_of_ble_eq_true rfl) dX5_shareOut_18 ⟨Nat.le_refl _, Nat.le_refl _⟩) hS (fun ra131 S130 H locs hn hR hS => ?_)
      replace h := hn
      clear hn
      obtain ⟨a131, za131, h⟩ := h
      refine x_some za131 ?_
      obtain ⟨hK_a131, h⟩ := h
      refine x_cast (ci := 2) C hR (by rw [hK_a131]; decide) (s_E_2 hK_a131) rfl q_9_22 rfl dX5_shareOut_21 ?_
      refine lv_iconst (v := 0) hx hb dX5_shareOut_24 (by decide) ?_
      refine x_p_78 (v := (0 : Int32)) C hR hK_a131 hS q_21_3 dX5_shareOut_25 (fun H locs hR hS => ?_)
      obtain ⟨S132, eS132⟩ : ∃ z : sT, z = s_sI S130 78 a131 (0 : Int32) := ⟨_, rfl⟩
      rw [← eS132] at hR
      replace h := h S132 eS132
      have hK_a131 : s_K S132 a131 = 3 := by rw [eS132]; exact hK_a131
      obtain ⟨x133, ex133⟩ : ∃ z : Int32, z = x3 + 1 := ⟨_, rfl⟩
      replace h := h x133 ex133
      refine lv_iinc (v := x133) (lv' := [(3, .int x133), (0, .ref x0), (1, .int x1), (2, .ref x2)]) hx hb dX5_shareOut_28 hl (k := 3) rfl (by rw [ex133]; rfl) (by decide) rfl (fun ls hl => ?_)
      refine lv_goto (tgt := 2) hx hb dX5_shareOut_31 (by decide) ?_
      exact ih x0 x1 x2 x133 S132 h H locs ls hR hS (lv_sub (l' := [(0, .ref x0), (1, .int x1), (2, .ref x2), (3, .int x133)]) hl [1, 2, 3, 0] rfl)
set_option maxHeartbeats 4000000 in
theorem t_X5_shareOut_b0 {Q : sT → Prop} (C : x_C p s m args c cX5_shareOut RX5 gg) (hml : c.maxLocals = 5) (hr : meth.sig.returnType = none) (hlocks : meth.locks = false) {x0 : Nat} {x1 : Int32} {x2 : Nat}  {S : sT}  (h : w_X5_shareOut_b0 x0 x1 x2 S  Q) : x_X p l e r_X5_shareOut s m args below meth c gg 5 0 0 (MQ below (va_Qv Q (fun S1 t => s_Rep gg S1 t.heap) (s_A gg)) args s 0 0 (s_A gg)) 0 [(0, .ref x0), (1, .int x1), (2, .ref x2)] [] S := by
  unfold w_X5_shareOut_b0 at h
  obtain ⟨hx, hb, -⟩ := id C
  intro H locs ls hR hS hl
  refine lv_iconst (v := 0) hx hb dX5_shareOut_0 (by decide) ?_
  refine lv_istore_n (lv' := [(3, .int (0 : Int32)), (0, .ref x0), (1, .int x1), (2, .ref x2)]) hx hb dX5_shareOut_1 rfl hl (by decide) rfl (fun ls hl => ?_)
  obtain ⟨n9, h⟩ := h
  exact t_X5_shareOut_b2 C hml hr hlocks  n9 x0 x1 x2 (0 : Int32) S h H locs ls hR hS (lv_sub (l' := [(0, .ref x0), (1, .int x1), (2, .ref x2), (3, .int (0 : Int32))]) hl [1, 2, 3, 0] rfl)
theorem m_X5_shareOut (l : Launch) (gg : sG) (x0 : Nat) (x1 : Int32) (x2 : Nat) (S : sT) {Q : sT → Prop} (h : w_X5_shareOut x0 x1 x2 S Q) : x_Mv l gg yX5_shareOut (x_ws yX5_shareOut cX5_shareOut 5 none) r_X5_shareOut [.ref x0, .int x1, .ref x2] S Q 0 0 := by
  refine x_ofW (cc := cX5_shareOut) (own := RX5) (by decide +kernel) rfl (Nat.le_of_ble_eq_true rfl) ?_
  intro p e s m args below meth c C hml hr hlocks hin ht H locs ls hR hS hl
  exact t_X5_shareOut_b0 C hml hr hlocks h H locs ls hR hS (lv_sub (l' := [(0, .ref x0), (1, .int x1), (2, .ref x2)]) hl [0, 1, 2] rfl)
def w_X5_mostAboveNotch_b131 (x0 : Nat) (x1 : Int32) (x2 : Int32) (x3 : Option Nat) (x4 : Int32) (x5 : Int32) (S : sT) (kk74 : Nat → Int32 → Int32 → Option Nat → Int32 → Int32 → sT → Prop) (Q : Option Nat → sT → Prop) : Prop :=
∀ x101 : Int32, x101 = x5 + 1 →
    kk74 x0 x1 x2 x3 x4 x101 S
def w_X5_mostAboveNotch_b74  (Q : Option Nat → sT → Prop) : Nat → Nat → Int32 → Int32 → Option Nat → Int32 → Int32 → sT → Prop
  | 0 => fun _ _ _ _ _ _ _ => False
  | n + 1 => fun x0 x1 x2 x3 x4 x5 S =>
s_K S x0 = 7 ∧
    ∃ a101 : Nat, s_R S 195 x0 = some a101 ∧
    s_K S a101 = 1 ∧
    w_Jx4a65c_size_8abf5 a101 S (fun x103 S102 =>
    ((x103 ≤ x5 → Q x3 S102) ∧
    (¬ x103 ≤ x5 → s_K S102 x0 = 7 ∧
    ∃ a105 : Nat, s_R S102 195 x0 = some a105 ∧
    s_K S102 a105 = 1 ∧
    w_Jx4a65c_get_915e3 a105 x5 S102 (fun a107 S106 =>
    s_K S106 a107 = 3 ∧
    ∀ x108 : Int32, x108 = s_I S106 78 a107 →
    ∀ x109 : Int32, x109 = s_I S106 66 a107 →
    ∀ x110 : Int32, x110 = x1 * x109 →
    ¬ x2 = 0 ∧
    ∀ x112 : Int32, x112 = x110 / x2 →
    ∀ x113 : Int32, x113 = x108 - x112 →
    ((x113 ≤ x4 → w_X5_mostAboveNotch_b131 x0 x1 x2 x3 x4 x5 S106 (fun x0 x1 x2 x3 x4 x5 S => w_X5_mostAboveNotch_b74  Q n x0 x1 x2 x3 x4 x5 S) Q) ∧
    (¬ x113 ≤ x4 → w_X5_mostAboveNotch_b131 x0 x1 x2 (some a107) x113 x5 S106 (fun x0 x1 x2 x3 x4 x5 S => w_X5_mostAboveNotch_b74  Q n x0 x1 x2 x3 x4 x5 S) Q))))))
def w_X5_mostAboveNotch_b54 (x0 : Nat) (x1 : Int32) (x2 : Int32) (x3 : Int32) (S : sT) (kk6 : Nat → Int32 → Int32 → Int32 → sT → Prop) (Q : Option Nat → sT → Prop) : Prop :=
∀ x101 : Int32, x101 = x3 + 1 →
    kk6 x0 x1 x2 x101 S
def w_X5_mostAboveNotch_b6  (Q : Option Nat → sT → Prop) : Nat → Nat → Int32 → Int32 → Int32 → sT → Prop
  | 0 => fun _ _ _ _ _ => False
  | n + 1 => fun x0 x1 x2 x3 S =>
s_K S x0 = 7 ∧
    ∃ a101 : Nat, s_R S 195 x0 = some a101 ∧
    s_K S a101 = 1 ∧
    w_Jx4a65c_size_8abf5 a101 S (fun x103 S102 =>
    ((x103 ≤ x3 → ((0 < x2 → ∃ n9 : Nat, w_X5_mostAboveNotch_b74  Q n9 x0 x1 x2 none (0 : Int32) (0 : Int32) S102) ∧
    (¬ 0 < x2 → Q none S102))) ∧
    (¬ x103 ≤ x3 → s_K S102 x0 = 7 ∧
    ∃ a106 : Nat, s_R S102 195 x0 = some a106 ∧
    s_K S102 a106 = 1 ∧
    w_Jx4a65c_get_915e3 a106 x3 S102 (fun a108 S107 =>
    s_K S107 a108 = 3 ∧
    ∀ x109 : Int32, x109 = s_I S107 78 a108 →
    ((x109 ≤ 0 → w_X5_mostAboveNotch_b54 x0 x1 x2 x3 S107 (fun x0 x1 x2 x3 S => w_X5_mostAboveNotch_b6  Q n x0 x1 x2 x3 S) Q) ∧
    (¬ x109 ≤ 0 → ∀ x111 : Int32, x111 = s_I S107 78 a108 →
    ∀ x112 : Int32, x112 = x1 + x111 →
    ∀ x113 : Int32, x113 = s_I S107 66 a108 →
    ∀ x114 : Int32, x114 = x2 + x113 →
    w_X5_mostAboveNotch_b54 x0 x112 x114 x3 S107 (fun x0 x1 x2 x3 S => w_X5_mostAboveNotch_b6  Q n x0 x1 x2 x3 S) Q))))))
def w_X5_mostAboveNotch_b0 (x0 : Nat) (S : sT)  (Q : Option Nat → sT → Prop) : Prop :=
∃ n9 : Nat, w_X5_mostAboveNotch_b6  Q n9 x0 (0 : Int32) (0 : Int32) (0 : Int32) S
def w_X5_mostAboveNotch (x0 : Nat) (S : sT) (Q : Option Nat → sT → Prop) : Prop := w_X5_mostAboveNotch_b0 x0 S Q
def r_X5_mostAboveNotch : Room := x_rm 3 64 0 0
theorem b_X5_mostAboveNotch : x_BV yX5_mostAboveNotch cX5_mostAboveNotch 8 (some (.object "Subakhall$Field")) 0 := ⟨q_25_3, q_25_1, q_25_2, q_4_5, by decide +kernel⟩
set_option maxHeartbeats 4000000 in
theorem t_X5_mostAboveNotch_b131 {Q : Option Nat → sT → Prop} (C : x_C p s m args c cX5_mostAboveNotch RX5 gg) (hml : c.maxLocals = 8) (hr : meth.sig.returnType = (some (.object "Subakhall$Field"))) (hlocks : meth.locks = false) {x0 : Nat} {x1 : Int32} {x2 : Int32} {x3 : Option Nat} {x4 : Int32} {x5 : Int32} {kk74 : Nat → Int32 → Int32 → Option Nat → Int32 → Int32 → sT → Prop} {S : sT} (hk74 : ∀ (x0 : Nat) (x1 : Int32) (x2 : Int32) (x3 : Option Nat) (x4 : Int32) (x5 : Int32) (S : sT), kk74 x0 x1 x2 x3 x4 x5 S → x_X p l e r_X5_mostAboveNotch s m args below meth c gg 8 0 0 (MQ below (va_Qq Q (fun S1 t => s_Rep gg S1 t.heap) (s_A gg)) args s 0 0 (s_A gg)) 74 [(0, .ref x0), (1, .int x1), (2, .int x2), (3, va_rf x3), (4, .int x4), (5, .int x5)] [] S) (h : w_X5_mostAboveNotch_b131 x0 x1 x2 x3 x4 x5 S kk74 Q) : x_X p l e r_X5_mostAboveNotch s m args below meth c gg 8 0 0 (MQ below (va_Qq Q (fun S1 t => s_Rep gg S1 t.heap) (s_A gg)) args s 0 0 (s_A gg)) 131 [(0, .ref x0), (1, .int x1), (2, .int x2), (3, va_rf x3), (4, .int x4), (5, .int x5)] [] S := by
  unfold w_X5_mostAboveNotch_b131 at h
  obtain ⟨hx, hb, -⟩ := id C
  intro H locs ls hR hS hl
  obtain ⟨x101, ex101⟩ : ∃ z : Int32, z = x5 + 1 := ⟨_, rfl⟩
  replace h := h x101 ex101
  refine lv_iinc (v := x101) (lv' := [(5, .int x101), (0, .ref x0), (1, .int x1), (2, .int x2), (3, va_rf x3), (4, .int x4)]) hx hb dX5_mostAboveNotch_131 hl (k := 5) rfl (by rw [ex101]; rfl) (by decide) (by cases x3 <;> rfl) (fun ls hl => ?_)
  refine lv_goto (tgt := 74) hx hb dX5_mostAboveNotch_134 (by decide) ?_
  exact hk74 x0 x1 x2 x3 x4 x101 S h H locs ls hR hS (lv_sub (l' := [(0, .ref x0), (1, .int x1), (2, .int x2), (3, va_rf x3), (4, .int x4), (5, .int x101)]) hl [1, 2, 3, 4, 5, 0] rfl)
set_option maxHeartbeats 4000000 in
theorem t_X5_mostAboveNotch_b74 {Q : Option Nat → sT → Prop} (C : x_C p s m args c cX5_mostAboveNotch RX5 gg) (hml : c.maxLocals = 8) (hr : meth.sig.returnType = (some (.object "Subakhall$Field"))) (hlocks : meth.locks = false)   : ∀ (n : Nat) (x0 : Nat) (x1 : Int32) (x2 : Int32) (x3 : Option Nat) (x4 : Int32) (x5 : Int32) (S : sT), w_X5_mostAboveNotch_b74  Q n x0 x1 x2 x3 x4 x5 S → x_X p l e r_X5_mostAboveNotch s m args below meth c gg 8 0 0 (MQ below (va_Qq Q (fun S1 t => s_Rep gg S1 t.heap) (s_A gg)) args s 0 0 (s_A gg)) 74 [(0, .ref x0), (1, .int x1), (2, .int x2), (3, va_rf x3), (4, .int x4), (5, .int x5)] [] S := by
  obtain ⟨hx, hb, -⟩ := id C
  intro n
  induction n with
  | zero => intro x0 x1 x2 x3 x4 x5 S h; exact absurd h id
  | succ n ih =>
    intro x0 x1 x2 x3 x4 x5 S h H locs ls hR hS hl
    unfold w_X5_mostAboveNotch_b74 at h
    refine lv_iload hx hb dX5_mostAboveNotch_74 (lv_at hl 5 rfl) ?_
    refine lv_aload_n hx hb dX5_mostAboveNotch_76 rfl (lv_at hl 0 rfl) ?_
    obtain ⟨hK_x0, h⟩ := h
    refine x_g_195 C hR hK_x0 q_4_13 dX5_mostAboveNotch_77 ?_
    obtain ⟨a101, ea101, h⟩ := h
    refine x_some ea101 ?_
    obtain ⟨hK_a101, h⟩ := h
    refine x_ki (x_runV (As := []) (rest := [.int x5]) C hml hR hS (m_Jx4a65c_size_8abf5 l gg a101 S h) b_Jx4a65c_size_8abf5 q_10_4 (by rw [hK_a101]; decide) (s_E_0 hK_a101) rfl rfl rfl rfl ⟨Nat.le_of_ble_eq_true rfl, Nat.le_of_ble_eq_true rfl⟩ rfl hl.1 (Nat.le_of_ble_eq_true rfl) dX5_mostAboveNotch_80 ⟨Nat.le_refl _, Nat.le_refl _⟩) hS (fun x103 S102 H locs hn hR hS => ?_)
    replace h := hn
    clear hn
    refine lv_icmp_ge (tgt := 137) hx hb dX5_mostAboveNotch_83 (by decide) (fun hc104 => ?_) (fun hc104 => ?_)
    · replace h := h.1 hc104
      refine x_aload_n hx hb dX5_mostAboveNotch_137 rfl (lv_at hl 3 rfl) ?_
      exact W.aret (v := va_rf x3) hx hb hr (Or.inl ⟨_, rfl⟩) (va_rf_or _) (fun t ht hW => ⟨⟨x3, S102, rfl, h, x_rt ht hR⟩, hS.F ht⟩) hS.2.2 dX5_mostAboveNotch_138
    · replace h := h.2 hc104
      refine lv_aload_n hx hb dX5_mostAboveNotch_86 rfl (lv_at hl 0 rfl) ?_
      obtain ⟨hK_x0, h⟩ := h
      refine x_g_195 C hR hK_x0 q_4_13 dX5_mostAboveNotch_87 ?_
      obtain ⟨a105, ea105, h⟩ := h
      refine x_some ea105 ?_
      refine lv_iload hx hb dX5_mostAboveNotch_90 (lv_at hl 5 rfl) ?_
      obtain ⟨hK_a105, h⟩ := h
      refine x_kq (x_runV (As := [.int x5]) (rest := []) C hml hR hS (m_Jx4a65c_get_915e3 l gg a105 x5 S102 h) b_Jx4a65c_get_915e3 q_10_5 (by rw [hK_a105]; decide) (s_E_0 hK_a105) rfl rfl rfl rfl ⟨Nat.le_of_ble_eq_true rfl, Nat.le_of_ble_eq_true rfl⟩ rfl hl.1 (Nat.le_of_ble_eq_true rfl) dX5_mostAboveNotch_92 ⟨Nat.le_refl _, Nat.le_refl _⟩) hS (fun ra107 S106 H locs hn hR hS => ?_)
      replace h := hn
      clear hn
      obtain ⟨a107, za107, h⟩ := h
      refine x_some za107 ?_
      obtain ⟨hK_a107, h⟩ := h
      refine x_cast (ci := 2) C hR (by rw [hK_a107]; decide) (s_E_2 hK_a107) rfl q_9_22 rfl dX5_mostAboveNotch_95 ?_
      refine lv_astore (lv' := [(6, .ref a107), (0, .ref x0), (1, .int x1), (2, .int x2), (3, va_rf x3), (4, .int x4), (5, .int x5)]) hx hb dX5_mostAboveNotch_98 hl (by decide) (by cases x3 <;> rfl) (fun ls hl => ?_)
      refine lv_aload hx hb dX5_mostAboveNotch_100 (lv_at hl 0 rfl) ?_
      refine x_g_78 C hR hK_a107 q_21_3 dX5_mostAboveNotch_102 ?_
      refine lv_topi (fun x108 ex108 => ?_)
      replace h := h x108 ex108
      refine lv_iload_n hx hb dX5_mostAboveNotch_105 rfl (lv_at hl 2 rfl) ?_
      refine lv_aload hx hb dX5_mostAboveNotch_106 (lv_at hl 0 rfl) ?_
      refine x_g_66 C hR hK_a107 q_25_4 dX5_mostAboveNotch_108 ?_
      refine lv_topi (fun x109 ex109 => ?_)
      replace h := h x109 ex109
      refine lv_imul hx hb dX5_mostAboveNotch_111 ?_
      refine lv_topi (fun x110 ex110 => ?_)
      replace h := h x110 ex110
      refine lv_iload_n hx hb dX5_mostAboveNotch_112 rfl (lv_at hl 3 rfl) ?_
      obtain ⟨hd111, h⟩ := h
      refine lv_idiv hx hb dX5_mostAboveNotch_113 hd111 ?_
      refine lv_topi (fun x112 ex112 => ?_)
      replace h := h x112 ex112
      refine lv_isub hx hb dX5_mostAboveNotch_114 ?_
      refine lv_topi (fun x113 ex113 => ?_)
      replace h := h x113 ex113
      refine lv_istore (lv' := [(7, .int x113), (6, .ref a107), (0, .ref x0), (1, .int x1), (2, .int x2), (3, va_rf x3), (4, .int x4), (5, .int x5)]) hx hb dX5_mostAboveNotch_115 hl (by decide) (by cases x3 <;> rfl) (fun ls hl => ?_)
      refine lv_iload hx hb dX5_mostAboveNotch_117 (lv_at hl 0 rfl) ?_
      refine lv_iload hx hb dX5_mostAboveNotch_119 (lv_at hl 6 rfl) ?_
      refine lv_icmp_le (tgt := 131) hx hb dX5_mostAboveNotch_121 (by decide) (fun hc114 => ?_) (fun hc114 => ?_)
      · replace h := h.1 hc114
        exact t_X5_mostAboveNotch_b131 C hml hr hlocks (fun x0 x1 x2 x3 x4 x5 S h => ih x0 x1 x2 x3 x4 x5 S h) h H locs ls hR hS (lv_sub (l' := [(0, .ref x0), (1, .int x1), (2, .int x2), (3, va_rf x3), (4, .int x4), (5, .int x5)]) hl [2, 3, 4, 5, 6, 7] rfl)
      · replace h := h.2 hc114
        refine lv_iload hx hb dX5_mostAboveNotch_124 (lv_at hl 0 rfl) ?_
        refine lv_istore (lv' := [(4, .int x113), (7, .int x113), (6, .ref a107), (0, .ref x0), (1, .int x1), (2, .int x2), (3, va_rf x3), (5, .int x5)]) hx hb dX5_mostAboveNotch_126 hl (by decide) (by cases x3 <;> rfl) (fun ls hl => ?_)
        refine lv_aload hx hb dX5_mostAboveNotch_128 (lv_at hl 2 rfl) ?_
        refine lv_astore_n (lv' := [(3, .ref a107), (4, .int x113), (7, .int x113), (6, .ref a107), (0, .ref x0), (1, .int x1), (2, .int x2), (5, .int x5)]) hx hb dX5_mostAboveNotch_130 rfl hl (by decide) rfl (fun ls hl => ?_)
        exact t_X5_mostAboveNotch_b131 C hml hr hlocks (fun x0 x1 x2 x3 x4 x5 S h => ih x0 x1 x2 x3 x4 x5 S h) h H locs ls hR hS (lv_sub (l' := [(0, .ref x0), (1, .int x1), (2, .int x2), (3, va_rf (some a107)), (4, .int x113), (5, .int x5)]) hl [4, 5, 6, 0, 1, 7] rfl)
set_option maxHeartbeats 4000000 in
theorem t_X5_mostAboveNotch_b54 {Q : Option Nat → sT → Prop} (C : x_C p s m args c cX5_mostAboveNotch RX5 gg) (hml : c.maxLocals = 8) (hr : meth.sig.returnType = (some (.object "Subakhall$Field"))) (hlocks : meth.locks = false) {x0 : Nat} {x1 : Int32} {x2 : Int32} {x3 : Int32} {kk6 : Nat → Int32 → Int32 → Int32 → sT → Prop} {S : sT} (hk6 : ∀ (x0 : Nat) (x1 : Int32) (x2 : Int32) (x3 : Int32) (S : sT), kk6 x0 x1 x2 x3 S → x_X p l e r_X5_mostAboveNotch s m args below meth c gg 8 0 0 (MQ below (va_Qq Q (fun S1 t => s_Rep gg S1 t.heap) (s_A gg)) args s 0 0 (s_A gg)) 6 [(0, .ref x0), (1, .int x1), (2, .int x2), (3, .int x3)] [] S) (h : w_X5_mostAboveNotch_b54 x0 x1 x2 x3 S kk6 Q) : x_X p l e r_X5_mostAboveNotch s m args below meth c gg 8 0 0 (MQ below (va_Qq Q (fun S1 t => s_Rep gg S1 t.heap) (s_A gg)) args s 0 0 (s_A gg)) 54 [(0, .ref x0), (1, .int x1), (2, .int x2), (3, .int x3)] [] S := by
  unfold w_X5_mostAboveNotch_b54 at h
  obtain ⟨hx, hb, -⟩ := id C
  intro H locs ls hR hS hl
  obtain ⟨x101, ex101⟩ : ∃ z : Int32, z = x3 + 1 := ⟨_, rfl⟩
  replace h := h x101 ex101
  refine lv_iinc (v := x101) (lv' := [(3, .int x101), (0, .ref x0), (1, .int x1), (2, .int x2)]) hx hb dX5_mostAboveNotch_54 hl (k := 3) rfl (by rw [ex101]; rfl) (by decide) rfl (fun ls hl => ?_)
  refine lv_goto (tgt := 6) hx hb dX5_mostAboveNotch_57 (by decide) ?_
  exact hk6 x0 x1 x2 x101 S h H locs ls hR hS (lv_sub (l' := [(0, .ref x0), (1, .int x1), (2, .int x2), (3, .int x101)]) hl [1, 2, 3, 0] rfl)
set_option maxHeartbeats 4000000 in
theorem t_X5_mostAboveNotch_b6 {Q : Option Nat → sT → Prop} (C : x_C p s m args c cX5_mostAboveNotch RX5 gg) (hml : c.maxLocals = 8) (hr : meth.sig.returnType = (some (.object "Subakhall$Field"))) (hlocks : meth.locks = false)   : ∀ (n : Nat) (x0 : Nat) (x1 : Int32) (x2 : Int32) (x3 : Int32) (S : sT), w_X5_mostAboveNotch_b6  Q n x0 x1 x2 x3 S → x_X p l e r_X5_mostAboveNotch s m args below meth c gg 8 0 0 (MQ below (va_Qq Q (fun S1 t => s_Rep gg S1 t.heap) (s_A gg)) args s 0 0 (s_A gg)) 6 [(0, .ref x0), (1, .int x1), (2, .int x2), (3, .int x3)] [] S := by
  obtain ⟨hx, hb, -⟩ := id C
  intro n
  induction n with
  | zero => intro x0 x1 x2 x3 S h; exact absurd h id
  | succ n ih =>
    intro x0 x1 x2 x3 S h H locs ls hR hS hl
    unfold w_X5_mostAboveNotch_b6 at h
    refine lv_iload_n hx hb dX5_mostAboveNotch_6 rfl (lv_at hl 3 rfl) ?_
    refine lv_aload_n hx hb dX5_mostAboveNotch_7 rfl (lv_at hl 0 rfl) ?_
    obtain ⟨hK_x0, h⟩ := h
    refine x_g_195 C hR hK_x0 q_4_13 dX5_mostAboveNotch_8 ?_
    obtain ⟨a101, ea101, h⟩ := h
    refine x_some ea101 ?_
    obtain ⟨hK_a101, h⟩ := h
    refine x_ki (x_runV (As := []) (rest := [.int x3]) C hml hR hS (m_Jx4a65c_size_8abf5 l gg a101 S h) b_Jx4a65c_size_8abf5 q_10_4 (by rw [hK_a101]; decide) (s_E_0 hK_a101) rfl rfl rfl rfl ⟨Nat.le_of_ble_eq_true rfl, Nat.le_of_ble_eq_true rfl⟩ rfl hl.1 (Nat.le_of_ble_eq_true rfl) dX5_mostAboveNotch_11 ⟨Nat.le_refl _, Nat.le_refl _⟩) hS (fun x103 S102 H locs hn hR hS => ?_)
    replace h := hn
    clear hn
    refine lv_icmp_ge (tgt := 60) hx hb dX5_mostAboveNotch_14 (by decide) (fun hc104 => ?_) (fun hc104 => ?_)
    · replace h := h.1 hc104
      refine lv_iload_n hx hb dX5_mostAboveNotch_60 rfl (lv_at hl 2 rfl) ?_
      refine lv_if_gt (tgt := 66) hx hb dX5_mostAboveNotch_61 (by decide) (fun hc105 => ?_) (fun hc105 => ?_)
      · replace h := h.1 hc105
        refine lv_null hx hb dX5_mostAboveNotch_66 ?_
        refine x_astore_n (r := none) (lv' := [(3, va_rf none), (0, .ref x0), (1, .int x1), (2, .int x2)]) hx hb dX5_mostAboveNotch_67 rfl hl (by decide) rfl (fun ls hl => ?_)
        refine lv_iconst (v := 0) hx hb dX5_mostAboveNotch_68 (by decide) ?_
        refine lv_istore (lv' := [(4, .int (0 : Int32)), (3, va_rf none), (0, .ref x0), (1, .int x1), (2, .int x2)]) hx hb dX5_mostAboveNotch_69 hl (by decide) rfl (fun ls hl => ?_)
        refine lv_iconst (v := 0) hx hb dX5_mostAboveNotch_71 (by decide) ?_
        refine lv_istore (lv' := [(5, .int (0 : Int32)), (4, .int (0 : Int32)), (3, va_rf none), (0, .ref x0), (1, .int x1), (2, .int x2)]) hx hb dX5_mostAboveNotch_72 hl (by decide) rfl (fun ls hl => ?_)
        obtain ⟨n9, h⟩ := h
        exact t_X5_mostAboveNotch_b74 C hml hr hlocks  n9 x0 x1 x2 none (0 : Int32) (0 : Int32) S102 h H locs ls hR hS (lv_sub (l' := [(0, .ref x0), (1, .int x1), (2, .int x2), (3, va_rf none), (4, .int (0 : Int32)), (5, .int (0 : Int32))]) hl [3, 4, 5, 2, 1, 0] rfl)
      · replace h := h.2 hc105
        refine lv_null hx hb dX5_mostAboveNotch_64 ?_
        exact W.aret (v := va_rf none) hx hb hr (Or.inl ⟨_, rfl⟩) (va_rf_or _) (fun t ht hW => ⟨⟨none, S102, rfl, h, x_rt ht hR⟩, hS.F ht⟩) hS.2.2 dX5_mostAboveNotch_65
    · replace h := h.2 hc104
      refine lv_aload_n hx hb dX5_mostAboveNotch_17 rfl (lv_at hl 0 rfl) ?_
      obtain ⟨hK_x0, h⟩ := h
      refine x_g_195 C hR hK_x0 q_4_13 dX5_mostAboveNotch_18 ?_
      obtain ⟨a106, ea106, h⟩ := h
      refine x_some ea106 ?_
      refine lv_iload_n hx hb dX5_mostAboveNotch_21 rfl (lv_at hl 3 rfl) ?_
      obtain ⟨hK_a106, h⟩ := h
      refine x_kq (x_runV (As := [.int x3]) (rest := []) C hml hR hS (m_Jx4a65c_get_915e3 l gg a106 x3 S102 h) b_Jx4a65c_get_915e3 q_10_5 (by rw [hK_a106]; decide) (s_E_0 hK_a106) rfl rfl rfl rfl ⟨Nat.le_of_ble_eq_true rfl, Nat.le_of_ble_eq_true rfl⟩ rfl hl.1 (Nat.le_of_ble_eq_true rfl) dX5_mostAboveNotch_22 ⟨Nat.le_refl _, Nat.le_refl _⟩) hS (fun ra108 S107 H locs hn hR hS => ?_)
      replace h := hn
      clear hn
      obtain ⟨a108, za108, h⟩ := h
      refine x_some za108 ?_
      obtain ⟨hK_a108, h⟩ := h
      refine x_cast (ci := 2) C hR (by rw [hK_a108]; decide) (s_E_2 hK_a108) rfl q_9_22 rfl dX5_mostAboveNotch_25 ?_
      refine lv_astore (lv' := [(4, .ref a108), (0, .ref x0), (1, .int x1), (2, .int x2), (3, .int x3)]) hx hb dX5_mostAboveNotch_28 hl (by decide) rfl (fun ls hl => ?_)
      refine lv_aload hx hb dX5_mostAboveNotch_30 (lv_at hl 0 rfl) ?_
      refine x_g_78 C hR hK_a108 q_21_3 dX5_mostAboveNotch_32 ?_
      refine lv_topi (fun x109 ex109 => ?_)
      replace h := h x109 ex109
      refine lv_if_le (tgt := 54) hx hb dX5_mostAboveNotch_35 (by decide) (fun hc110 => ?_) (fun hc110 => ?_)
      · replace h := h.1 hc110
        exact t_X5_mostAboveNotch_b54 C hml hr hlocks (fun x0 x1 x2 x3 S h => ih x0 x1 x2 x3 S h) h H locs ls hR hS (lv_sub (l' := [(0, .ref x0), (1, .int x1), (2, .int x2), (3, .int x3)]) hl [1, 2, 3, 4] rfl)
      · replace h := h.2 hc110
        refine lv_iload_n hx hb dX5_mostAboveNotch_38 rfl (lv_at hl 2 rfl) ?_
        refine lv_aload hx hb dX5_mostAboveNotch_39 (lv_at hl 0 rfl) ?_
        refine x_g_78 C hR hK_a108 q_21_3 dX5_mostAboveNotch_41 ?_
        refine lv_topi (fun x111 ex111 => ?_)
        replace h := h x111 ex111
        refine lv_iadd hx hb dX5_mostAboveNotch_44 ?_
        refine lv_topi (fun x112 ex112 => ?_)
        replace h := h x112 ex112
        refine lv_istore_n (lv' := [(1, .int x112), (4, .ref a108), (0, .ref x0), (2, .int x2), (3, .int x3)]) hx hb dX5_mostAboveNotch_45 rfl hl (by decide) rfl (fun ls hl => ?_)
        refine lv_iload_n hx hb dX5_mostAboveNotch_46 rfl (lv_at hl 3 rfl) ?_
        refine lv_aload hx hb dX5_mostAboveNotch_47 (lv_at hl 1 rfl) ?_
        refine x_g_66 C hR hK_a108 q_25_4 dX5_mostAboveNotch_49 ?_
        refine lv_topi (fun x113 ex113 => ?_)
        replace h := h x113 ex113
        refine lv_iadd hx hb dX5_mostAboveNotch_52 ?_
        refine lv_topi (fun x114 ex114 => ?_)
        replace h := h x114 ex114
        refine lv_istore_n (lv' := [(2, .int x114), (1, .int x112), (4, .ref a108), (0, .ref x0), (3, .int x3)]) hx hb dX5_mostAboveNotch_53 rfl hl (by decide) rfl (fun ls hl => ?_)
        exact t_X5_mostAboveNotch_b54 C hml hr hlocks (fun x0 x1 x2 x3 S h => ih x0 x1 x2 x3 S h) h H locs ls hR hS (lv_sub (l' := [(0, .ref x0), (1, .int x112), (2, .int x114), (3, .int x3)]) hl [3, 1, 0, 4] rfl)
set_option maxHeartbeats 4000000 in
theorem t_X5_mostAboveNotch_b0 {Q : Option Nat → sT → Prop} (C : x_C p s m args c cX5_mostAboveNotch RX5 gg) (hml : c.maxLocals = 8) (hr : meth.sig.returnType = (some (.object "Subakhall$Field"))) (hlocks : meth.locks = false) {x0 : Nat}  {S : sT}  (h : w_X5_mostAboveNotch_b0 x0 S  Q) : x_X p l e r_X5_mostAboveNotch s m args below meth c gg 8 0 0 (MQ below (va_Qq Q (fun S1 t => s_Rep gg S1 t.heap) (s_A gg)) args s 0 0 (s_A gg)) 0 [(0, .ref x0)] [] S := by
  unfold w_X5_mostAboveNotch_b0 at h
  obtain ⟨hx, hb, -⟩ := id C
  intro H locs ls hR hS hl
  refine lv_iconst (v := 0) hx hb dX5_mostAboveNotch_0 (by decide) ?_
  refine lv_istore_n (lv' := [(1, .int (0 : Int32)), (0, .ref x0)]) hx hb dX5_mostAboveNotch_1 rfl hl (by decide) rfl (fun ls hl => ?_)
  refine lv_iconst (v := 0) hx hb dX5_mostAboveNotch_2 (by decide) ?_
  refine lv_istore_n (lv' := [(2, .int (0 : Int32)), (1, .int (0 : Int32)), (0, .ref x0)]) hx hb dX5_mostAboveNotch_3 rfl hl (by decide) rfl (fun ls hl => ?_)
  refine lv_iconst (v := 0) hx hb dX5_mostAboveNotch_4 (by decide) ?_
  refine lv_istore_n (lv' := [(3, .int (0 : Int32)), (2, .int (0 : Int32)), (1, .int (0 : Int32)), (0, .ref x0)]) hx hb dX5_mostAboveNotch_5 rfl hl (by decide) rfl (fun ls hl => ?_)
  obtain ⟨n9, h⟩ := h
  exact t_X5_mostAboveNotch_b6 C hml hr hlocks  n9 x0 (0 : Int32) (0 : Int32) (0 : Int32) S h H locs ls hR hS (lv_sub (l' := [(0, .ref x0), (1, .int (0 : Int32)), (2, .int (0 : Int32)), (3, .int (0 : Int32))]) hl [3, 2, 1, 0] rfl)
theorem m_X5_mostAboveNotch (l : Launch) (gg : sG) (x0 : Nat) (S : sT) {Q : Option Nat → sT → Prop} (h : w_X5_mostAboveNotch x0 S Q) : x_Mq l gg yX5_mostAboveNotch (x_ws yX5_mostAboveNotch cX5_mostAboveNotch 8 (some (.object "Subakhall$Field"))) r_X5_mostAboveNotch [.ref x0] S Q 0 0 := by
  refine x_ofW (cc := cX5_mostAboveNotch) (own := RX5) (by decide +kernel) rfl (Nat.le_of_ble_eq_true rfl) ?_
  intro p e s m args below meth c C hml hr hlocks hin ht H locs ls hR hS hl
  exact t_X5_mostAboveNotch_b0 C hml hr hlocks h H locs ls hR hS (lv_sub (l' := [(0, .ref x0)]) hl [0] rfl)
def w_X5_fineStones_b4  (Q : Int32 → sT → Prop) : Nat → Nat → Int32 → Int32 → sT → Prop
  | 0 => fun _ _ _ _ => False
  | n + 1 => fun x0 x1 x2 S =>
s_K S x0 = 7 ∧
    ∃ a101 : Nat, s_R S 195 x0 = some a101 ∧
    s_K S a101 = 1 ∧
    w_Jx4a65c_size_8abf5 a101 S (fun x103 S102 =>
    ((x103 ≤ x2 → s_K S102 x0 = 7 ∧
    ∀ x105 : Int32, x105 = s_I S102 198 x0 →
    ∀ x106 : Int32, x106 = x105 + x1 →
    ∀ S107 : sT, S107 = s_sI S102 198 x0 x106 →
    Q x1 S107) ∧
    (¬ x103 ≤ x2 → s_K S102 x0 = 7 ∧
    ∃ a108 : Nat, s_R S102 195 x0 = some a108 ∧
    s_K S102 a108 = 1 ∧
    w_Jx4a65c_get_915e3 a108 x2 S102 (fun a110 S109 =>
    s_K S109 a110 = 3 ∧
    ∀ x111 : Int32, x111 = s_I S109 71 a110 →
    ∀ x112 : Int32, x112 = (5 : Int32) * x111 →
    ∃ a113 : Nat, s_R S109 68 a110 = some a113 ∧
    s_K S109 a113 = 6 ∧
    ∀ x114 : Int32, x114 = s_I S109 160 a113 →
    ∀ x115 : Int32, x115 = x114 - x112 →
    ∀ S116 : sT, S116 = s_sI S109 160 a113 x115 →
    ∀ S117 : sT, S117 = s_sI S116 71 a110 (0 : Int32) →
    ∀ x118 : Int32, x118 = x1 + x112 →
    ∀ x119 : Int32, x119 = x2 + 1 →
    w_X5_fineStones_b4  Q n x0 x118 x119 S117))))
def w_X5_fineStones_b0 (x0 : Nat) (S : sT)  (Q : Int32 → sT → Prop) : Prop :=
∃ n9 : Nat, w_X5_fineStones_b4  Q n9 x0 (0 : Int32) (0 : Int32) S
def w_X5_fineStones (x0 : Nat) (S : sT) (Q : Int32 → sT → Prop) : Prop := w_X5_fineStones_b0 x0 S Q
def r_X5_fineStones : Room := x_rm 3 64 0 0
theorem b_X5_fineStones : x_BV yX5_fineStones cX5_fineStones 5 (some .int) 0 := ⟨q_12_14, q_12_12, q_12_13, q_4_5, by decide +kernel⟩
set_option maxHeartbeats 4000000 in
theorem t_X5_fineStones_b4 {Q : Int32 → sT → Prop} (C : x_C p s m args c cX5_fineStones RX5 gg) (hml : c.maxLocals = 5) (hr : meth.sig.returnType = (some .int)) (hlocks : meth.locks = false)   : ∀ (n : Nat) (x0 : Nat) (x1 : Int32) (x2 : Int32) (S : sT), w_X5_fineStones_b4  Q n x0 x1 x2 S → x_X p l e r_X5_fineStones s m args below meth c gg 5 0 0 (MQ below (va_Qi Q (fun S1 t => s_Rep gg S1 t.heap) (s_A gg)) args s 0 0 (s_A gg)) 4 [(0, .ref x0), (1, .int x1), (2, .int x2)] [] S := by
  obtain ⟨hx, hb, -⟩ := id C
  intro n
  induction n with
  | zero => intro x0 x1 x2 S h; exact absurd h id
  | succ n ih =>
    intro x0 x1 x2 S h H locs ls hR hS hl
    unfold w_X5_fineStones_b4 at h
    refine lv_iload_n hx hb dX5_fineStones_4 rfl (lv_at hl 2 rfl) ?_
    refine lv_aload_n hx hb dX5_fineStones_5 rfl (lv_at hl 0 rfl) ?_
    obtain ⟨hK_x0, h⟩ := h
    refine x_g_195 C hR hK_x0 q_4_13 dX5_fineStones_6 ?_
    obtain ⟨a101, ea101, h⟩ := h
    refine x_some ea101 ?_
    obtain ⟨hK_a101, h⟩ := h
    refine x_ki (x_runV (As := []) (rest := [.int x2]) C hml hR hS (m_Jx4a65c_size_8abf5 l gg a101 S h) b_Jx4a65c_size_8abf5 q_10_4 (by rw [hK_a101]; decide) (s_E_0 hK_a101) rfl rfl rfl rfl ⟨Nat.le_of_ble_eq_true rfl, Nat.le_of_ble_eq_true rfl⟩ rfl hl.1 (Nat.le_of_ble_eq_true rfl) dX5_fineStones_9 ⟨Nat.le_refl _, Nat.le_refl _⟩) hS (fun x103 S102 H locs hn hR hS => ?_)
    replace h := hn
    clear hn
    refine lv_icmp_ge (tgt := 65) hx hb dX5_fineStones_12 (by decide) (fun hc104 => ?_) (fun hc104 => ?_)
    · replace h := h.1 hc104
      refine lv_aload_n hx hb dX5_fineStones_65 rfl (lv_at hl 0 rfl) ?_
      refine lv_dup hx hb dX5_fineStones_66 rfl ?_
      obtain ⟨hK_x0, h⟩ := h
      refine x_g_198 C hR hK_x0 q_12_18 dX5_fineStones_67 ?_
      refine lv_topi (fun x105 ex105 => ?_)
      replace h := h x105 ex105
      refine lv_iload_n hx hb dX5_fineStones_70 rfl (lv_at hl 1 rfl) ?_
      refine lv_iadd hx hb dX5_fineStones_71 ?_
      refine lv_topi (fun x106 ex106 => ?_)
      replace h := h x106 ex106
      refine x_p_198 (v := x106) C hR hK_x0 hS q_12_18 dX5_fineStones_72 (fun H locs hR hS => ?_)
      obtain ⟨S107, eS107⟩ : ∃ z : sT, z = s_sI S102 198 x0 x106 := ⟨_, rfl⟩
      rw [← eS107] at hR
      replace h := h S107 eS107
      have hK_x0 : s_K S107 x0 = 7 := by rw [eS107]; exact hK_x0
      refine lv_iload_n hx hb dX5_fineStones_75 rfl (lv_at hl 1 rfl) ?_
      exact W.iret (v := x1) hx hb hr (fun t ht hW => ⟨⟨x1, S107, rfl, h, x_rt ht hR⟩, hS.F ht⟩) hS.2.2 dX5_fineStones_76
    · replace h := h.2 hc104
      refine lv_aload_n hx hb dX5_fineStones_15 rfl (lv_at hl 0 rfl) ?_
      obtain ⟨hK_x0, h⟩ := h
      refine x_g_195 C hR hK_x0 q_4_13 dX5_fineStones_16 ?_
      obtain ⟨a108, ea108, h⟩ := h
      refine x_some ea108 ?_
      refine lv_iload_n hx hb dX5_fineStones_19 rfl (lv_at hl 2 rfl) ?_
      obtain ⟨hK_a108, h⟩ := h
      refine x_kq (x_runV (As := [.int x2]) (rest := []) C hml hR hS (m_Jx4a65c_get_915e3 l gg a108 x2 S102 h) b_Jx4a65c_get_915e3 q_10_5 (by rw [hK_a108]; decide) (s_E_0 hK_a108) rfl rfl rfl rfl ⟨Nat.le_of_ble_eq_true rfl, Nat.le_of_ble_eq_true rfl⟩ rfl hl.1 (Nat.le_of_ble_eq_true rfl) dX5_fineStones_20 ⟨Nat.le_refl _, Nat.le_refl _⟩) hS (fun ra110 S109 H locs hn hR hS => ?_)
      replace h := hn
      clear hn
      obtain ⟨a110, za110, h⟩ := h
      refine x_some za110 ?_
      obtain ⟨hK_a110, h⟩ := h
      refine x_cast (ci := 2) C hR (by rw [hK_a110]; decide) (s_E_2 hK_a110) rfl q_9_22 rfl dX5_fineStones_23 ?_
      refine lv_astore_n (lv' := [(3, .ref a110), (0, .ref x0), (1, .int x1), (2, .int x2)]) hx hb dX5_fineStones_26 rfl hl (by decide) rfl (fun ls hl => ?_)
      refine lv_iconst (v := 5) hx hb dX5_fineStones_27 (by decide) ?_
      refine lv_aload_n hx hb dX5_fineStones_28 rfl (lv_at hl 0 rfl) ?_
      refine x_g_71 C hR hK_a110 q_12_15 dX5_fineStones_29 ?_
      refine lv_topi (fun x111 ex111 => ?_)
      replace h := h x111 ex111
      refine lv_imul hx hb dX5_fineStones_32 ?_
      refine lv_topi (fun x112 ex112 => ?_)
      replace h := h x112 ex112
      refine lv_istore (lv' := [(4, .int x112), (3, .ref a110), (0, .ref x0), (1, .int x1), (2, .int x2)]) hx hb dX5_fineStones_33 hl (by decide) rfl (fun ls hl => ?_)
      refine lv_aload_n hx hb dX5_fineStones_35 rfl (lv_at hl 1 rfl) ?_
      refine x_g_68 C hR hK_a110 q_12_16 dX5_fineStones_36 ?_
      obtain ⟨a113, ea113, h⟩ := h
      refine x_some ea113 ?_
      refine lv_dup hx hb dX5_fineStones_39 rfl ?_
      obtain ⟨hK_a113, h⟩ := h
      refine x_g_160 C hR hK_a113 q_12_17 dX5_fineStones_40 ?_
      refine lv_topi (fun x114 ex114 => ?_)
      replace h := h x114 ex114
      refine lv_iload hx hb dX5_fineStones_43 (lv_at hl 0 rfl) ?_
      refine lv_isub hx hb dX5_fineStones_45 ?_
      refine lv_topi (fun x115 ex115 => ?_)
      replace h := h x115 ex115
      refine x_p_160 (v := x115) C hR hK_a113 hS q_12_17 dX5_fineStones_46 (fun H locs hR hS => ?_)
      obtain ⟨S116, eS116⟩ : ∃ z : sT, z = s_sI S109 160 a113 x115 := ⟨_, rfl⟩
      rw [← eS116] at hR
      replace h := h S116 eS116
      have hK_a110 : s_K S116 a110 = 3 := by rw [eS116]; exact hK_a110
      have hK_a113 : s_K S116 a113 = 6 := by rw [eS116]; exact hK_a113
      refine lv_aload_n hx hb dX5_fineStones_49 rfl (lv_at hl 1 rfl) ?_
      refine lv_iconst (v := 0) hx hb dX5_fineStones_50 (by decide) ?_
      refine x_p_71 (v := (0 : Int32)) C hR hK_a110 hS q_12_15 dX5_fineStones_51 (fun H locs hR hS => ?_)
      obtain ⟨S117, eS117⟩ : ∃ z : sT, z = s_sI S116 71 a110 (0 : Int32) := ⟨_, rfl⟩
      rw [← eS117] at hR
      replace h := h S117 eS117
      have hK_a110 : s_K S117 a110 = 3 := by rw [eS117]; exact hK_a110
      have hK_a113 : s_K S117 a113 = 6 := by rw [eS117]; exact hK_a113
      refine lv_iload_n hx hb dX5_fineStones_54 rfl (lv_at hl 3 rfl) ?_
      refine lv_iload hx hb dX5_fineStones_55 (lv_at hl 0 rfl) ?_
      refine lv_iadd hx hb dX5_fineStones_57 ?_
      refine lv_topi (fun x118 ex118 => ?_)
      replace h := h x118 ex118
      refine lv_istore_n (lv' := [(1, .int x118), (4, .int x112), (3, .ref a110), (0, .ref x0), (2, .int x2)]) hx hb dX5_fineStones_58 rfl hl (by decide) rfl (fun ls hl => ?_)
      obtain ⟨x119, ex119⟩ : ∃ z : Int32, z = x2 + 1 := ⟨_, rfl⟩
      replace h := h x119 ex119
      refine lv_iinc (v := x119) (lv' := [(2, .int x119), (1, .int x118), (4, .int x112), (3, .ref a110), (0, .ref x0)]) hx hb dX5_fineStones_59 hl (k := 4) rfl (by rw [ex119]; rfl) (by decide) rfl (fun ls hl => ?_)
      refine lv_goto (tgt := 4) hx hb dX5_fineStones_62 (by decide) ?_
      exact ih x0 x118 x119 S117 h H locs ls hR hS (lv_sub (l' := [(0, .ref x0), (1, .int x118), (2, .int x119)]) hl [4, 1, 0] rfl)
set_option maxHeartbeats 4000000 in
theorem t_X5_fineStones_b0 {Q : Int32 → sT → Prop} (C : x_C p s m args c cX5_fineStones RX5 gg) (hml : c.maxLocals = 5) (hr : meth.sig.returnType = (some .int)) (hlocks : meth.locks = false) {x0 : Nat}  {S : sT}  (h : w_X5_fineStones_b0 x0 S  Q) : x_X p l e r_X5_fineStones s m args below meth c gg 5 0 0 (MQ below (va_Qi Q (fun S1 t => s_Rep gg S1 t.heap) (s_A gg)) args s 0 0 (s_A gg)) 0 [(0, .ref x0)] [] S := by
  unfold w_X5_fineStones_b0 at h
  obtain ⟨hx, hb, -⟩ := id C
  intro H locs ls hR hS hl
  refine lv_iconst (v := 0) hx hb dX5_fineStones_0 (by decide) ?_
  refine lv_istore_n (lv' := [(1, .int (0 : Int32)), (0, .ref x0)]) hx hb dX5_fineStones_1 rfl hl (by decide) rfl (fun ls hl => ?_)
  refine lv_iconst (v := 0) hx hb dX5_fineStones_2 (by decide) ?_
  refine lv_istore_n (lv' := [(2, .int (0 : Int32)), (1, .int (0 : Int32)), (0, .ref x0)]) hx hb dX5_fineStones_3 rfl hl (by decide) rfl (fun ls hl => ?_)
  obtain ⟨n9, h⟩ := h
  exact t_X5_fineStones_b4 C hml hr hlocks  n9 x0 (0 : Int32) (0 : Int32) S h H locs ls hR hS (lv_sub (l' := [(0, .ref x0), (1, .int (0 : Int32)), (2, .int (0 : Int32))]) hl [2, 1, 0] rfl)
theorem m_X5_fineStones (l : Launch) (gg : sG) (x0 : Nat) (S : sT) {Q : Int32 → sT → Prop} (h : w_X5_fineStones x0 S Q) : x_Mi l gg yX5_fineStones (x_ws yX5_fineStones cX5_fineStones 5 (some .int)) r_X5_fineStones [.ref x0] S Q 0 0 := by
  refine x_ofW (cc := cX5_fineStones) (own := RX5) (by decide +kernel) rfl (Nat.le_of_ble_eq_true rfl) ?_
  intro p e s m args below meth c C hml hr hlocks hin ht H locs ls hR hS hl
  exact t_X5_fineStones_b0 C hml hr hlocks h H locs ls hR hS (lv_sub (l' := [(0, .ref x0)]) hl [0] rfl)
def w_X5_cropPerField_b22 (y0 : Int32) (S : sT)  (Q : Int32 → sT → Prop) : Prop :=
Q y0 S
def w_X5_cropPerField_b0 (x0 : Nat) (S : sT)  (Q : Int32 → sT → Prop) : Prop :=
s_K S x0 = 7 ∧
    ∃ a101 : Nat, s_R S 195 x0 = some a101 ∧
    s_K S a101 = 1 ∧
    w_Jx4a65c_size_8abf5 a101 S (fun x103 S102 =>
    ((¬ x103 = 0 → s_K S102 x0 = 7 ∧
    ∀ x105 : Int32, x105 = s_I S102 200 x0 →
    ¬ x103 = 0 ∧
    ∀ x107 : Int32, x107 = x105 / x103 →
    w_X5_cropPerField_b22 x107 S102  Q) ∧
    (x103 = 0 → w_X5_cropPerField_b22 (0 : Int32) S102  Q)))
def w_X5_cropPerField (x0 : Nat) (S : sT) (Q : Int32 → sT → Prop) : Prop := w_X5_cropPerField_b0 x0 S Q
def r_X5_cropPerField : Room := x_rm 1 20 0 0
theorem b_X5_cropPerField : x_BV yX5_cropPerField cX5_cropPerField 2 (some .int) 0 := ⟨q_13_19, q_13_17, q_13_18, q_4_5, by decide +kernel⟩
set_option maxHeartbeats 4000000 in
theorem t_X5_cropPerField_b22 {Q : Int32 → sT → Prop} (C : x_C p s m args c cX5_cropPerField RX5 gg) (hml : c.maxLocals = 2) (hr : meth.sig.returnType = (some .int)) (hlocks : meth.locks = false) {y0 : Int32}  {S : sT}  (h : w_X5_cropPerField_b22 y0 S  Q) : x_X p l e r_X5_cropPerField s m args below meth c gg 2 0 0 (MQ below (va_Qi Q (fun S1 t => s_Rep gg S1 t.heap) (s_A gg)) args s 0 0 (s_A gg)) 22 [] [.int y0] S := by
  unfold w_X5_cropPerField_b22 at h
  obtain ⟨hx, hb, -⟩ := id C
  intro H locs ls hR hS hl
  exact W.iret (v := y0) hx hb hr (fun t ht hW => ⟨⟨y0, S, rfl, h, x_rt ht hR⟩, hS.F ht⟩) hS.2.2 dX5_cropPerField_22
set_option maxHeartbeats 4000000 in
theorem t_X5_cropPerField_b0 {Q : Int32 → sT → Prop} (C : x_C p s m args c cX5_cropPerField RX5 gg) (hml : c.maxLocals = 2) (hr : meth.sig.returnType = (some .int)) (hlocks : meth.locks = false) {x0 : Nat}  {S : sT}  (h : w_X5_cropPerField_b0 x0 S  Q) : x_X p l e r_X5_cropPerField s m args below meth c gg 2 0 0 (MQ below (va_Qi Q (fun S1 t => s_Rep gg S1 t.heap) (s_A gg)) args s 0 0 (s_A gg)) 0 [(0, .ref x0)] [] S := by
  unfold w_X5_cropPerField_b0 at h
  obtain ⟨hx, hb, -⟩ := id C
  intro H locs ls hR hS hl
  refine lv_aload_n hx hb dX5_cropPerField_0 rfl (lv_at hl 0 rfl) ?_
  obtain ⟨hK_x0, h⟩ := h
  refine x_g_195 C hR hK_x0 q_4_13 dX5_cropPerField_1 ?_
  obtain ⟨a101, ea101, h⟩ := h
  refine x_some ea101 ?_
  obtain ⟨hK_a101, h⟩ := h
  refine x_ki (x_runV (As := []) (rest := []) C hml hR hS (m_Jx4a65c_size_8abf5 l gg a101 S h) b_Jx4a65c_size_8abf5 q_10_4 (by rw [hK_a101]; decide) (s_E_0 hK_a101) rfl rfl rfl rfl ⟨Nat.le_of_ble_eq_true rfl, Nat.le_of_ble_eq_true rfl⟩ rfl hl.1 (Nat.le_of_ble_eq_true rfl) dX5_cropPerField_4 ⟨Nat.le_refl _, Nat.le_refl _⟩) hS (fun x103 S102 H locs hn hR hS => ?_)
  replace h := hn
  clear hn
  refine lv_istore_n (lv' := [(1, .int x103), (0, .ref x0)]) hx hb dX5_cropPerField_7 rfl hl (by decide) rfl (fun ls hl => ?_)
  refine lv_iload_n hx hb dX5_cropPerField_8 rfl (lv_at hl 0 rfl) ?_
  refine lv_if_ne (tgt := 16) hx hb dX5_cropPerField_9 (by decide) (fun hc104 => ?_) (fun hc104 => ?_)
  · replace h := h.1 hc104
    refine lv_aload_n hx hb dX5_cropPerField_16 rfl (lv_at hl 1 rfl) ?_
    obtain ⟨hK_x0, h⟩ := h
    refine x_g_200 C hR hK_x0 q_13_20 dX5_cropPerField_17 ?_
    refine lv_topi (fun x105 ex105 => ?_)
    replace h := h x105 ex105
    refine lv_iload_n hx hb dX5_cropPerField_20 rfl (lv_at hl 0 rfl) ?_
    obtain ⟨hd106, h⟩ := h
    refine lv_idiv hx hb dX5_cropPerField_21 hd106 ?_
    refine lv_topi (fun x107 ex107 => ?_)
    replace h := h x107 ex107
    exact t_X5_cropPerField_b22 C hml hr hlocks  h H locs ls hR hS (lv_sub (l' := []) hl [] rfl)
  · replace h := h.2 hc104
    refine lv_iconst (v := 0) hx hb dX5_cropPerField_12 (by decide) ?_
    refine lv_goto (tgt := 22) hx hb dX5_cropPerField_13 (by decide) ?_
    exact t_X5_cropPerField_b22 C hml hr hlocks  h H locs ls hR hS (lv_sub (l' := []) hl [] rfl)
theorem m_X5_cropPerField (l : Launch) (gg : sG) (x0 : Nat) (S : sT) {Q : Int32 → sT → Prop} (h : w_X5_cropPerField x0 S Q) : x_Mi l gg yX5_cropPerField (x_ws yX5_cropPerField cX5_cropPerField 2 (some .int)) r_X5_cropPerField [.ref x0] S Q 0 0 := by
  refine x_ofW (cc := cX5_cropPerField) (own := RX5) (by decide +kernel) rfl (Nat.le_of_ble_eq_true rfl) ?_
  intro p e s m args below meth c C hml hr hlocks hin ht H locs ls hR hS hl
  exact t_X5_cropPerField_b0 C hml hr hlocks h H locs ls hR hS (lv_sub (l' := [(0, .ref x0)]) hl [0] rfl)
def w_X5_countYes_b65 (x0 : Nat) (x2 : Int32) (x3 : Int32) (x4 : Int32) (S : sT) (kk26 : Nat → Int32 → Int32 → Int32 → sT → Prop) (Q : Int32 → sT → Prop) : Prop :=
∀ x101 : Int32, x101 = x4 + 1 →
    kk26 x0 x2 x3 x101 S
def w_X5_countYes_b62 (x0 : Nat) (x2 : Int32) (x3 : Int32) (x4 : Int32) (S : sT) (kk26 : Nat → Int32 → Int32 → Int32 → sT → Prop) (Q : Int32 → sT → Prop) : Prop :=
∀ x101 : Int32, x101 = x3 + 1 →
    w_X5_countYes_b65 x0 x2 x101 x4 S kk26 Q
def w_X5_countYes_b26  (Q : Int32 → sT → Prop) : Nat → Nat → Int32 → Int32 → Int32 → sT → Prop
  | 0 => fun _ _ _ _ _ => False
  | n + 1 => fun x0 x2 x3 x4 S =>
s_K S x0 = 7 ∧
    ∃ a101 : Nat, s_R S 195 x0 = some a101 ∧
    s_K S a101 = 1 ∧
    w_Jx4a65c_size_8abf5 a101 S (fun x103 S102 =>
    ((x103 ≤ x4 → Q x3 S102) ∧
    (¬ x103 ≤ x4 → ((¬ x2 = 0 → w_X5_countYes_b62 x0 x2 x3 x4 S102 (fun x0 x2 x3 x4 S => w_X5_countYes_b26  Q n x0 x2 x3 x4 S) Q) ∧
    (x2 = 0 → s_K S102 x0 = 7 ∧
    ∃ a106 : Nat, s_R S102 195 x0 = some a106 ∧
    s_K S102 a106 = 1 ∧
    w_Jx4a65c_get_915e3 a106 x4 S102 (fun a108 S107 =>
    s_K S107 a108 = 3 ∧
    ∀ x109 : Int32, x109 = s_I S107 76 a108 →
    ((x109 ≤ (30 : Int32) → w_X5_countYes_b65 x0 x2 x3 x4 S107 (fun x0 x2 x3 x4 S => w_X5_countYes_b26  Q n x0 x2 x3 x4 S) Q) ∧
    (¬ x109 ≤ (30 : Int32) → w_X5_countYes_b62 x0 x2 x3 x4 S107 (fun x0 x2 x3 x4 S => w_X5_countYes_b26  Q n x0 x2 x3 x4 S) Q))))))))
def w_X5_countYes_b20 (x0 : Nat) (y0 : Int32) (S : sT)  (Q : Int32 → sT → Prop) : Prop :=
∃ n9 : Nat, w_X5_countYes_b26  Q n9 x0 y0 (0 : Int32) (0 : Int32) S
def w_X5_countYes_b19 (x0 : Nat) (S : sT)  (Q : Int32 → sT → Prop) : Prop :=
w_X5_countYes_b20 x0 (0 : Int32) S  Q
def w_X5_countYes_b0 (x0 : Nat) (x1 : Option Nat) (S : sT)  (Q : Int32 → sT → Prop) : Prop :=
((x1 = none → w_X5_countYes_b19 x0 S  Q) ∧
    (∀ a101 : Nat, x1 = some a101 → s_K S a101 = 7 ∧
    w_X5_cropPerField a101 S (fun x104 S103 =>
    s_K S103 x0 = 7 ∧
    w_X5_cropPerField x0 S103 (fun x106 S105 =>
    ((x104 ≤ x106 → w_X5_countYes_b19 x0 S105  Q) ∧
    (¬ x104 ≤ x106 → w_X5_countYes_b20 x0 (1 : Int32) S105  Q))))))
def w_X5_countYes (x0 : Nat) (x1 : Option Nat) (S : sT) (Q : Int32 → sT → Prop) : Prop := w_X5_countYes_b0 x0 x1 S Q
def r_X5_countYes : Room := x_rm 3 64 0 0
theorem b_X5_countYes : x_BV yX5_countYes cX5_countYes 5 (some .int) 1 := ⟨q_14_0, q_13_22, q_13_23, q_4_5, by decide +kernel⟩
set_option maxHeartbeats 4000000 in
theorem t_X5_countYes_b65 {Q : Int32 → sT → Prop} (C : x_C p s m args c cX5_countYes RX5 gg) (hml : c.maxLocals = 5) (hr : meth.sig.returnType = (some .int)) (hlocks : meth.locks = false) {x0 : Nat} {x2 : Int32} {x3 : Int32} {x4 : Int32} {kk26 : Nat → Int32 → Int32 → Int32 → sT → Prop} {S : sT} (hk26 : ∀ (x0 : Nat) (x2 : Int32) (x3 : Int32) (x4 : Int32) (S : sT), kk26 x0 x2 x3 x4 S → x_X p l e r_X5_countYes s m args below meth c gg 5 0 0 (MQ below (va_Qi Q (fun S1 t => s_Rep gg S1 t.heap) (s_A gg)) args s 0 0 (s_A gg)) 26 [(0, .ref x0), (2, .int x2), (3, .int x3), (4, .int x4)] [] S) (h : w_X5_countYes_b65 x0 x2 x3 x4 S kk26 Q) : x_X p l e r_X5_countYes s m args below meth c gg 5 0 0 (MQ below (va_Qi Q (fun S1 t => s_Rep gg S1 t.heap) (s_A gg)) args s 0 0 (s_A gg)) 65 [(0, .ref x0), (2, .int x2), (3, .int x3), (4, .int x4)] [] S := by
  unfold w_X5_countYes_b65 at h
  obtain ⟨hx, hb, -⟩ := id C
  intro H locs ls hR hS hl
  obtain ⟨x101, ex101⟩ : ∃ z : Int32, z = x4 + 1 := ⟨_, rfl⟩
  replace h := h x101 ex101
  refine lv_iinc (v := x101) (lv' := [(4, .int x101), (0, .ref x0), (2, .int x2), (3, .int x3)]) hx hb dX5_countYes_65 hl (k := 3) rfl (by rw [ex101]; rfl) (by decide) rfl (fun ls hl => ?_)
  refine lv_goto (tgt := 26) hx hb dX5_countYes_68 (by decide) ?_
  exact hk26 x0 x2 x3 x101 S h H locs ls hR hS (lv_sub (l' := [(0, .ref x0), (2, .int x2), (3, .int x3), (4, .int x101)]) hl [1, 2, 3, 0] rfl)
set_option maxHeartbeats 4000000 in
theorem t_X5_countYes_b62 {Q : Int32 → sT → Prop} (C : x_C p s m args c cX5_countYes RX5 gg) (hml : c.maxLocals = 5) (hr : meth.sig.returnType = (some .int)) (hlocks : meth.locks = false) {x0 : Nat} {x2 : Int32} {x3 : Int32} {x4 : Int32} {kk26 : Nat → Int32 → Int32 → Int32 → sT → Prop} {S : sT} (hk26 : ∀ (x0 : Nat) (x2 : Int32) (x3 : Int32) (x4 : Int32) (S : sT), kk26 x0 x2 x3 x4 S → x_X p l e r_X5_countYes s m args below meth c gg 5 0 0 (MQ below (va_Qi Q (fun S1 t => s_Rep gg S1 t.heap) (s_A gg)) args s 0 0 (s_A gg)) 26 [(0, .ref x0), (2, .int x2), (3, .int x3), (4, .int x4)] [] S) (h : w_X5_countYes_b62 x0 x2 x3 x4 S kk26 Q) : x_X p l e r_X5_countYes s m args below meth c gg 5 0 0 (MQ below (va_Qi Q (fun S1 t => s_Rep gg S1 t.heap) (s_A gg)) args s 0 0 (s_A gg)) 62 [(0, .ref x0), (2, .int x2), (3, .int x3), (4, .int x4)] [] S := by
  unfold w_X5_countYes_b62 at h
  obtain ⟨hx, hb, -⟩ := id C
  intro H locs ls hR hS hl
  obtain ⟨x101, ex101⟩ : ∃ z : Int32, z = x3 + 1 := ⟨_, rfl⟩
  replace h := h x101 ex101
  refine lv_iinc (v := x101) (lv' := [(3, .int x101), (0, .ref x0), (2, .int x2), (4, .int x4)]) hx hb dX5_countYes_62 hl (k := 2) rfl (by rw [ex101]; rfl) (by decide) rfl (fun ls hl => ?_)
  exact t_X5_countYes_b65 C hml hr hlocks hk26 h H locs ls hR hS (lv_sub (l' := [(0, .ref x0), (2, .int x2), (3, .int x101), (4, .int x4)]) hl [1, 2, 0, 3] rfl)
set_option maxHeartbeats 4000000 in
theorem t_X5_countYes_b26 {Q : Int32 → sT → Prop} (C : x_C p s m args c cX5_countYes RX5 gg) (hml : c.maxLocals = 5) (hr : meth.sig.returnType = (some .int)) (hlocks : meth.locks = false)   : ∀ (n : Nat) (x0 : Nat) (x2 : Int32) (x3 : Int32) (x4 : Int32) (S : sT), w_X5_countYes_b26  Q n x0 x2 x3 x4 S → x_X p l e r_X5_countYes s m args below meth c gg 5 0 0 (MQ below (va_Qi Q (fun S1 t => s_Rep gg S1 t.heap) (s_A gg)) args s 0 0 (s_A gg)) 26 [(0, .ref x0), (2, .int x2), (3, .int x3), (4, .int x4)] [] S := by
  obtain ⟨hx, hb, -⟩ := id C
  intro n
  induction n with
  | zero => intro x0 x2 x3 x4 S h; exact absurd h id
  | succ n ih =>
    intro x0 x2 x3 x4 S h H locs ls hR hS hl
    unfold w_X5_countYes_b26 at h
    refine lv_iload hx hb dX5_countYes_26 (lv_at hl 3 rfl) ?_
    refine lv_aload_n hx hb dX5_countYes_28 rfl (lv_at hl 0 rfl) ?_
    obtain ⟨hK_x0, h⟩ := h
    refine x_g_195 C hR hK_x0 q_4_13 dX5_countYes_29 ?_
    obtain ⟨a101, ea101, h⟩ := h
    refine x_some ea101 ?_
    obtain ⟨hK_a101, h⟩ := h
    refine x_ki (x_runV (As := []) (rest := [.int x4]) C hml hR hS (m_Jx4a65c_size_8abf5 l gg a101 S h) b_Jx4a65c_size_8abf5 q_10_4 (by rw [hK_a101]; decide) (s_E_0 hK_a101) rfl rfl rfl rfl ⟨Nat.le_of_ble_eq_true rfl, Nat.le_of_ble_eq_true rfl⟩ rfl hl.1 (Nat.le_of_ble_eq_true rfl) dX5_countYes_32 ⟨Nat.le_refl _, Nat.le_refl _⟩) hS (fun x103 S102 H locs hn hR hS => ?_)
    replace h := hn
    clear hn
    refine lv_icmp_ge (tgt := 71) hx hb dX5_countYes_35 (by decide) (fun hc104 => ?_) (fun hc104 => ?_)
    · replace h := h.1 hc104
      refine lv_iload_n hx hb dX5_countYes_71 rfl (lv_at hl 2 rfl) ?_
      exact W.iret (v := x3) hx hb hr (fun t ht hW => ⟨⟨x3, S102, rfl, h, x_rt ht hR⟩, hS.F ht⟩) hS.2.2 dX5_countYes_72
    · replace h := h.2 hc104
      refine lv_iload_n hx hb dX5_countYes_38 rfl (lv_at hl 1 rfl) ?_
      refine lv_if_ne (tgt := 62) hx hb dX5_countYes_39 (by decide) (fun hc105 => ?_) (fun hc105 => ?_)
      · replace h := h.1 hc105
        exact t_X5_countYes_b62 C hml hr hlocks (fun x0 x2 x3 x4 S h => ih x0 x2 x3 x4 S h) h H locs ls hR hS (lv_sub (l' := [(0, .ref x0), (2, .int x2), (3, .int x3), (4, .int x4)]) hl [0, 1, 2, 3] rfl)
      · replace h := h.2 hc105
        refine lv_aload_n hx hb dX5_countYes_42 rfl (lv_at hl 0 rfl) ?_
        obtain ⟨hK_x0, h⟩ := h
        refine x_g_195 C hR hK_x0 q_4_13 dX5_countYes_43 ?_
        obtain ⟨a106, ea106, h⟩ := h
        refine x_some ea106 ?_
        refine lv_iload hx hb dX5_countYes_46 (lv_at hl 3 rfl) ?_
        obtain ⟨hK_a106, h⟩ := h
        refine x_kq (x_runV (As := [.int x4]) (rest := []) C hml hR hS (m_Jx4a65c_get_915e3 l gg a106 x4 S102 h) b_Jx4a65c_get_915e3 q_10_5 (by rw [hK_a106]; decide) (s_E_0 hK_a106) rfl rfl rfl rfl ⟨Nat.le_of_ble_eq_true rfl, Nat.le_of_ble_eq_true rfl⟩ rfl hl.1 (Nat.le_of_ble_eq_true rfl) dX5_countYes_48 ⟨Nat.le_refl _, Nat.le_refl _⟩) hS (fun ra108 S107 H locs hn hR hS => ?_)
        replace h := hn
        clear hn
        obtain ⟨a108, za108, h⟩ := h
        refine x_some za108 ?_
        obtain ⟨hK_a108, h⟩ := h
        refine x_cast (ci := 2) C hR (by rw [hK_a108]; decide) (s_E_2 hK_a108) rfl q_9_22 rfl dX5_countYes_51 ?_
        refine x_g_76 C hR hK_a108 q_14_1 dX5_countYes_54 ?_
        refine lv_topi (fun x109 ex109 => ?_)
        replace h := h x109 ex109
        refine lv_bipush (v := 30) hx hb dX5_countYes_57 (by decide) ?_
        refine lv_icmp_le (tgt := 65) hx hb dX5_countYes_59 (by decide) (fun hc110 => ?_) (fun hc110 => ?_)
        · replace h := h.1 hc110
          exact t_X5_countYes_b65 C hml hr hlocks (fun x0 x2 x3 x4 S h => ih x0 x2 x3 x4 S h) h H locs ls hR hS (lv_sub (l' := [(0, .ref x0), (2, .int x2), (3, .int x3), (4, .int x4)]) hl [0, 1, 2, 3] rfl)
        · replace h := h.2 hc110
          exact t_X5_countYes_b62 C hml hr hlocks (fun x0 x2 x3 x4 S h => ih x0 x2 x3 x4 S h) h H locs ls hR hS (lv_sub (l' := [(0, .ref x0), (2, .int x2), (3, .int x3), (4, .int x4)]) hl [0, 1, 2, 3] rfl)
set_option maxHeartbeats 4000000 in
theorem t_X5_countYes_b20 {Q : Int32 → sT → Prop} (C : x_C p s m args c cX5_countYes RX5 gg) (hml : c.maxLocals = 5) (hr : meth.sig.returnType = (some .int)) (hlocks : meth.locks = false) {x0 : Nat} {y0 : Int32}  {S : sT}  (h : w_X5_countYes_b20 x0 y0 S  Q) : x_X p l e r_X5_countYes s m args below meth c gg 5 0 0 (MQ below (va_Qi Q (fun S1 t => s_Rep gg S1 t.heap) (s_A gg)) args s 0 0 (s_A gg)) 20 [(0, .ref x0)] [.int y0] S := by
  unfold w_X5_countYes_b20 at h
  obtain ⟨hx, hb, -⟩ := id C
  intro H locs ls hR hS hl
  refine lv_istore_n (lv' := [(2, .int y0), (0, .ref x0)]) hx hb dX5_countYes_20 rfl hl (by decide) rfl (fun ls hl => ?_)
  refine lv_iconst (v := 0) hx hb dX5_countYes_21 (by decide) ?_
  refine lv_istore_n (lv' := [(3, .int (0 : Int32)), (2, .int y0), (0, .ref x0)]) hx hb dX5_countYes_22 rfl hl (by decide) rfl (fun ls hl => ?_)
  refine lv_iconst (v := 0) hx hb dX5_countYes_23 (by decide) ?_
  refine lv_istore (lv' := [(4, .int (0 : Int32)), (3, .int (0 : Int32)), (2, .int y0), (0, .ref x0)]) hx hb dX5_countYes_24 hl (by decide) rfl (fun ls hl => ?_)
  obtain ⟨n9, h⟩ := h
  exact t_X5_countYes_b26 C hml hr hlocks  n9 x0 y0 (0 : Int32) (0 : Int32) S h H locs ls hR hS (lv_sub (l' := [(0, .ref x0), (2, .int y0), (3, .int (0 : Int32)), (4, .int (0 : Int32))]) hl [3, 2, 1, 0] rfl)
set_option maxHeartbeats 4000000 in
theorem t_X5_countYes_b19 {Q : Int32 → sT → Prop} (C : x_C p s m args c cX5_countYes RX5 gg) (hml : c.maxLocals = 5) (hr : meth.sig.returnType = (some .int)) (hlocks : meth.locks = false) {x0 : Nat}  {S : sT}  (h : w_X5_countYes_b19 x0 S  Q) : x_X p l e r_X5_countYes s m args below meth c gg 5 0 0 (MQ below (va_Qi Q (fun S1 t => s_Rep gg S1 t.heap) (s_A gg)) args s 0 0 (s_A gg)) 19 [(0, .ref x0)] [] S := by
  unfold w_X5_countYes_b19 at h
  obtain ⟨hx, hb, -⟩ := id C
  intro H locs ls hR hS hl
  refine lv_iconst (v := 0) hx hb dX5_countYes_19 (by decide) ?_
  exact t_X5_countYes_b20 C hml hr hlocks  h H locs ls hR hS (lv_sub (l' := [(0, .ref x0)]) hl [0] rfl)
set_option maxHeartbeats 4000000 in
theorem t_X5_countYes_b0 {Q : Int32 → sT → Prop} (C : x_C p s m args c cX5_countYes RX5 gg) (hml : c.maxLocals = 5) (hr : meth.sig.returnType = (some .int)) (hlocks : meth.locks = false) {x0 : Nat} {x1 : Option Nat}  {S : sT}  (h : w_X5_countYes_b0 x0 x1 S  Q) : x_X p l e r_X5_countYes s m args below meth c gg 5 0 0 (MQ below (va_Qi Q (fun S1 t => s_Rep gg S1 t.heap) (s_A gg)) args s 0 0 (s_A gg)) 0 [(0, .ref x0), (1, va_rf x1)] [] S := by
  unfold w_X5_countYes_b0 at h
  obtain ⟨hx, hb, -⟩ := id C
  intro H locs ls hR hS hl
  refine x_aload_n hx hb dX5_countYes_0 rfl (lv_at hl 1 rfl) ?_
  refine x_ifnull (tgt := 19) hx hb dX5_countYes_1 (by decide) (fun hc102 => ?_) (fun a101 hc102 => ?_)
  · replace h := h.1 hc102
    have z2 : va_rf x1 = Value.null := by rw [hc102]; rfl
    rw [show va_rf x1 = va_rf none from z2] at hl
    exact t_X5_countYes_b19 C hml hr hlocks  h H locs ls hR hS (lv_sub (l' := [(0, .ref x0)]) hl [0] rfl)
  · replace h := h.2 a101 hc102
    have z2 : va_rf x1 = Value.ref a101 := by rw [hc102]; rfl
    rw [z2] at hl
    refine lv_aload_n hx hb dX5_countYes_4 rfl (lv_at hl 1 rfl) ?_
    obtain ⟨hK_a101, h⟩ := h
    refine x_ki (x_runV (As := []) (rest := []) C hml hR hS (m_X5_cropPerField l gg a101 S h) b_X5_cropPerField q_14_2 (by rw [hK_a101]; decide) (s_E_6 hK_a101) rfl rfl rfl rfl ⟨Nat.le_of_ble_eq_true rfl, Nat.le_of_ble_eq_true rfl⟩ rfl hl.1 (Nat.le_of_ble_eq_true rfl) dX5_countYes_5 ⟨Nat.le_refl _, Nat.le_refl _⟩) hS (fun x104 S103 H locs hn hR hS => ?_)
    replace h := hn
    clear hn
    refine lv_aload_n hx hb dX5_countYes_8 rfl (lv_at hl 0 rfl) ?_
    obtain ⟨hK_x0, h⟩ := h
    refine x_ki (x_runV (As := []) (rest := [.int x104]) C hml hR hS (m_X5_cropPerField l gg x0 S103 h) b_X5_cropPerField q_14_2 (by rw [hK_x0]; decide) (s_E_6 hK_x0) rfl rfl rfl rfl ⟨Nat.le_of_ble_eq_true rfl, Nat.le_of_ble_eq_true rfl⟩ rfl hl.1 (Nat.le_of_ble_eq_true rfl) dX5_countYes_9 ⟨Nat.le_refl _, Nat.le_refl _⟩) hS (fun x106 S105 H locs hn hR hS => ?_)
    replace h := hn
    clear hn
    refine lv_icmp_le (tgt := 19) hx hb dX5_countYes_12 (by decide) (fun hc107 => ?_) (fun hc107 => ?_)
    · replace h := h.1 hc107
      exact t_X5_countYes_b19 C hml hr hlocks  h H locs ls hR hS (lv_sub (l' := [(0, .ref x0)]) hl [0] rfl)
    · replace h := h.2 hc107
      refine lv_iconst (v := 1) hx hb dX5_countYes_15 (by decide) ?_
      refine lv_goto (tgt := 20) hx hb dX5_countYes_16 (by decide) ?_
      exact t_X5_countYes_b20 C hml hr hlocks  h H locs ls hR hS (lv_sub (l' := [(0, .ref x0)]) hl [0] rfl)
theorem m_X5_countYes (l : Launch) (gg : sG) (x0 : Nat) (x1 : Option Nat) (S : sT) {Q : Int32 → sT → Prop} (h : w_X5_countYes x0 x1 S Q) : x_Mi l gg yX5_countYes (x_ws yX5_countYes cX5_countYes 5 (some .int)) r_X5_countYes [.ref x0, va_rf x1] S Q 0 0 := by
  cases x1 <;> (
  refine x_ofW (cc := cX5_countYes) (own := RX5) (by decide +kernel) rfl (Nat.le_of_ble_eq_true rfl) ?_
  intro p e s m args below meth c C hml hr hlocks hin ht H locs ls hR hS hl
  exact t_X5_countYes_b0 C hml hr hlocks h H locs ls hR hS (lv_sub hl [0, 1] rfl))
def w_X5_plantAll_b59 (x0 : Nat) (x1 : Int32) (x2 : Int32) (S : sT) (kk2 : Nat → Int32 → Int32 → sT → Prop) (Q : sT → Prop) : Prop :=
∀ x101 : Int32, x101 = x2 + 1 →
    kk2 x0 x1 x101 S
def w_X5_plantAll_b46 (x0 : Nat) (x1 : Int32) (x2 : Int32) (x3 : Nat) (S : sT) (kk2 : Nat → Int32 → Int32 → sT → Prop) (Q : sT → Prop) : Prop :=
s_K S x3 = 3 ∧
    ∃ a101 : Nat, s_R S 69 x3 = some a101 ∧
    s_K S a101 = 2 ∧
    w_X0_begin a101 x1 S (fun S102 =>
    s_K S102 x3 = 3 ∧
    ∀ S103 : sT, S103 = s_sI S102 74 x3 (0 : Int32) →
    w_X5_plantAll_b59 x0 x1 x2 S103 kk2 Q)
def w_X5_plantAll_b2  (Q : sT → Prop) : Nat → Nat → Int32 → Int32 → sT → Prop
  | 0 => fun _ _ _ _ => False
  | n + 1 => fun x0 x1 x2 S =>
s_K S x0 = 7 ∧
    ∃ a101 : Nat, s_R S 195 x0 = some a101 ∧
    s_K S a101 = 1 ∧
    w_Jx4a65c_size_8abf5 a101 S (fun x103 S102 =>
    ((x103 ≤ x2 → Q S102) ∧
    (¬ x103 ≤ x2 → s_K S102 x0 = 7 ∧
    ∃ a105 : Nat, s_R S102 195 x0 = some a105 ∧
    s_K S102 a105 = 1 ∧
    w_Jx4a65c_get_915e3 a105 x2 S102 (fun a107 S106 =>
    s_K S106 a107 = 3 ∧
    ∃ a108 : Nat, s_R S106 69 a107 = some a108 ∧
    s_K S106 a108 = 2 ∧
    ∀ x109 : Int32, x109 = s_I S106 32 a108 →
    ((x109 = 0 → w_X5_plantAll_b46 x0 x1 x2 a107 S106 (fun x0 x1 x2 S => w_X5_plantAll_b2  Q n x0 x1 x2 S) Q) ∧
    (¬ x109 = 0 → ∃ a111 : Nat, s_R S106 69 a107 = some a111 ∧
    s_K S106 a111 = 2 ∧
    ∀ x112 : Int32, x112 = s_I S106 32 a111 →
    ((¬ x112 = (1 : Int32) → w_X5_plantAll_b59 x0 x1 x2 S106 (fun x0 x1 x2 S => w_X5_plantAll_b2  Q n x0 x1 x2 S) Q) ∧
    (x112 = (1 : Int32) → w_X5_plantAll_b46 x0 x1 x2 a107 S106 (fun x0 x1 x2 S => w_X5_plantAll_b2  Q n x0 x1 x2 S) Q))))))))
def w_X5_plantAll_b0 (x0 : Nat) (x1 : Int32) (S : sT)  (Q : sT → Prop) : Prop :=
∃ n9 : Nat, w_X5_plantAll_b2  Q n9 x0 x1 (0 : Int32) S
def w_X5_plantAll (x0 : Nat) (x1 : Int32) (S : sT) (Q : sT → Prop) : Prop := w_X5_plantAll_b0 x0 x1 S Q
def r_X5_plantAll : Room := x_rm 3 64 0 0
theorem b_X5_plantAll : x_BV yX5_plantAll cX5_plantAll 4 none 1 := ⟨q_29_6, q_29_4, q_29_5, q_4_5, by decide +kernel⟩
set_option maxHeartbeats 4000000 in
theorem t_X5_plantAll_b59 {Q : sT → Prop} (C : x_C p s m args c cX5_plantAll RX5 gg) (hml : c.maxLocals = 4) (hr : meth.sig.returnType = none) (hlocks : meth.locks = false) {x0 : Nat} {x1 : Int32} {x2 : Int32} {kk2 : Nat → Int32 → Int32 → sT → Prop} {S : sT} (hk2 : ∀ (x0 : Nat) (x1 : Int32) (x2 : Int32) (S : sT), kk2 x0 x1 x2 S → x_X p l e r_X5_plantAll s m args below meth c gg 4 0 0 (MQ below (va_Qv Q (fun S1 t => s_Rep gg S1 t.heap) (s_A gg)) args s 0 0 (s_A gg)) 2 [(0, .ref x0), (1, .int x1), (2, .int x2)] [] S) (h : w_X5_plantAll_b59 x0 x1 x2 S kk2 Q) : x_X p l e r_X5_plantAll s m args below meth c gg 4 0 0 (MQ below (va_Qv Q (fun S1 t => s_Rep gg S1 t.heap) (s_A gg)) args s 0 0 (s_A gg)) 59 [(0, .ref x0), (1, .int x1), (2, .int x2)] [] S := by
  unfold w_X5_plantAll_b59 at h
  obtain ⟨hx, hb, -⟩ := id C
  intro H locs ls hR hS hl
  obtain ⟨x101, ex101⟩ : ∃ z : Int32, z = x2 + 1 := ⟨_, rfl⟩
  replace h := h x101 ex101
  refine lv_iinc (v := x101) (lv' := [(2, .int x101), (0, .ref x0), (1, .int x1)]) hx hb dX5_plantAll_59 hl (k := 2) rfl (by rw [ex101]; rfl) (by decide) rfl (fun ls hl => ?_)
  refine lv_goto (tgt := 2) hx hb dX5_plantAll_62 (by decide) ?_
  exact hk2 x0 x1 x101 S h H locs ls hR hS (lv_sub (l' := [(0, .ref x0), (1, .int x1), (2, .int x101)]) hl [1, 2, 0] rfl)
set_option maxHeartbeats 4000000 in
theorem t_X5_plantAll_b46 {Q : sT → Prop} (C : x_C p s m args c cX5_plantAll RX5 gg) (hml : c.maxLocals = 4) (hr : meth.sig.returnType = none) (hlocks : meth.locks = false) {x0 : Nat} {x1 : Int32} {x2 : Int32} {x3 : Nat} {kk2 : Nat → Int32 → Int32 → sT → Prop} {S : sT} (hk2 : ∀ (x0 : Nat) (x1 : Int32) (x2 : Int32) (S : sT), kk2 x0 x1 x2 S → x_X p l e r_X5_plantAll s m args below meth c gg 4 0 0 (MQ below (va_Qv Q (fun S1 t => s_Rep gg S1 t.heap) (s_A gg)) args s 0 0 (s_A gg)) 2 [(0, .ref x0), (1, .int x1), (2, .int x2)] [] S) (h : w_X5_plantAll_b46 x0 x1 x2 x3 S kk2 Q) : x_X p l e r_X5_plantAll s m args below meth c gg 4 0 0 (MQ below (va_Qv Q (fun S1 t => s_Rep gg S1 t.heap) (s_A gg)) args s 0 0 (s_A gg)) 46 [(0, .ref x0), (1, .int x1), (2, .int x2), (3, .ref x3)] [] S := by
  unfold w_X5_plantAll_b46 at h
  obtain ⟨hx, hb, -⟩ := id C
  intro H locs ls hR hS hl
  refine lv_aload_n hx hb dX5_plantAll_46 rfl (lv_at hl 3 rfl) ?_
  obtain ⟨hK_x3, h⟩ := h
  refine x_g_69 C hR hK_x3 q_29_7 dX5_plantAll_47 ?_
  obtain ⟨a101, ea101, h⟩ := h
  refine x_some ea101 ?_
  refine lv_iload_n hx hb dX5_plantAll_50 rfl (lv_at hl 1 rfl) ?_
  obtain ⟨hK_a101, h⟩ := h
  refine x_kv (x_runV (As := [.int x1]) (rest := []) C hml hR hS (m_X0_begin l gg a101 x1 S h) b_X0_begin q_29_10 (by rw [hK_a101]; decide) (s_E_1 hK_a101) rfl rfl rfl rfl ⟨Nat.le_of_ble_eq_true rfl, Nat.le_of_ble_eq_true rfl⟩ rfl hl.1 (Nat.le_of_ble_eq_true rfl) dX5_plantAll_51 ⟨Nat.le_refl _, Nat.le_refl _⟩) hS (fun S102 H locs hn hR hS => ?_)
  replace h := hn
  clear hn
  refine lv_aload_n hx hb dX5_plantAll_54 rfl (lv_at hl 3 rfl) ?_
  refine lv_iconst (v := 0) hx hb dX5_plantAll_55 (by decide) ?_
  obtain ⟨hK_x3, h⟩ := h
  refine x_p_74 (v := (0 : Int32)) C hR hK_x3 hS q_29_9 dX5_plantAll_56 (fun H locs hR hS => ?_)
  obtain ⟨S103, eS103⟩ : ∃ z : sT, z = s_sI S102 74 x3 (0 : Int32) := ⟨_, rfl⟩
  rw [← eS103] at hR
  replace h := h S103 eS103
  have hK_x3 : s_K S103 x3 = 3 := by rw [eS103]; exact hK_x3
  exact t_X5_plantAll_b59 C hml hr hlocks hk2 h H locs ls hR hS (lv_sub (l' := [(0, .ref x0), (1, .int x1), (2, .int x2)]) hl [0, 1, 2] rfl)
set_option maxHeartbeats 4000000 in
theorem t_X5_plantAll_b2 {Q : sT → Prop} (C : x_C p s m args c cX5_plantAll RX5 gg) (hml : c.maxLocals = 4) (hr : meth.sig.returnType = none) (hlocks : meth.locks = false)   : ∀ (n : Nat) (x0 : Nat) (x1 : Int32) (x2 : Int32) (S : sT), w_X5_plantAll_b2  Q n x0 x1 x2 S → x_X p l e r_X5_plantAll s m args below meth c gg 4 0 0 (MQ below (va_Qv Q (fun S1 t => s_Rep gg S1 t.heap) (s_A gg)) args s 0 0 (s_A gg)) 2 [(0, .ref x0), (1, .int x1), (2, .int x2)] [] S := by
  obtain ⟨hx, hb, -⟩ := id C
  intro n
  induction n with
  | zero => intro x0 x1 x2 S h; exact absurd h id
  | succ n ih =>
    intro x0 x1 x2 S h H locs ls hR hS hl
    unfold w_X5_plantAll_b2 at h
    refine lv_iload_n hx hb dX5_plantAll_2 rfl (lv_at hl 2 rfl) ?_
    refine lv_aload_n hx hb dX5_plantAll_3 rfl (lv_at hl 0 rfl) ?_
    obtain ⟨hK_x0, h⟩ := h
    refine x_g_195 C hR hK_x0 q_4_13 dX5_plantAll_4 ?_
    obtain ⟨a101, ea101, h⟩ := h
    refine x_some ea101 ?_
    obtain ⟨hK_a101, h⟩ := h
    refine x_ki (x_runV (As := []) (rest := [.int x2]) C hml hR hS (m_Jx4a65c_size_8abf5 l gg a101 S h) b_Jx4a65c_size_8abf5 q_10_4 (by rw [hK_a101]; decide) (s_E_0 hK_a101) rfl rfl rfl rfl ⟨Nat.le_of_ble_eq_true rfl, Nat.le_of_ble_eq_true rfl⟩ rfl hl.1 (Nat.le_of_ble_eq_true rfl) dX5_plantAll_7 ⟨Nat.le_refl _, Nat.le_refl _⟩) hS (fun x103 S102 H locs hn hR hS => ?_)
    replace h := hn
    clear hn
    refine lv_icmp_ge (tgt := 65) hx hb dX5_plantAll_10 (by decide) (fun hc104 => ?_) (fun hc104 => ?_)
    · replace h := h.1 hc104
      exact W.vret hx hb hr (fun t ht hW => ⟨⟨S102, rfl, h, x_rt ht hR⟩, hS.F ht⟩) hS.2.2 dX5_plantAll_65
    · replace h := h.2 hc104
      refine lv_aload_n hx hb dX5_plantAll_13 rfl (lv_at hl 0 rfl) ?_
      obtain ⟨hK_x0, h⟩ := h
      refine x_g_195 C hR hK_x0 q_4_13 dX5_plantAll_14 ?_
      obtain ⟨a105, ea105, h⟩ := h
      refine x_some ea105 ?_
      refine lv_iload_n hx hb dX5_plantAll_17 rfl (lv_at hl 2 rfl) ?_
      obtain ⟨hK_a105, h⟩ := h
      refine x_kq (x_runV (As := [.int x2]) (rest := []) C hml hR hS (m_Jx4a65c_get_915e3 l gg a105 x2 S102 h) b_Jx4a65c_get_915e3 q_10_5 (by rw [hK_a105]; decide) (s_E_0 hK_a105) rfl rfl rfl rfl ⟨Nat.le_of_ble_eq_true rfl, Nat.le_of_ble_eq_true rfl⟩ rfl hl.1 (Nat.le_of_ble_eq_true rfl) dX5_plantAll_18 ⟨Nat.le_refl _, Nat.le_refl _⟩) hS (fun ra107 S106 H locs hn hR hS => ?_)
      replace h := hn
      clear hn
      obtain ⟨a107, za107, h⟩ := h
      refine x_some za107 ?_
      obtain ⟨hK_a107, h⟩ := h
      refine x_cast (ci := 2) C hR (by rw [hK_a107]; decide) (s_E_2 hK_a107) rfl q_9_22 rfl dX5_plantAll_21 ?_
      refine lv_astore_n (lv' := [(3, .ref a107), (0, .ref x0), (1, .int x1), (2, .int x2)]) hx hb dX5_plantAll_24 rfl hl (by decide) rfl (fun ls hl => ?_)
      refine lv_aload_n hx hb dX5_plantAll_25 rfl (lv_at hl 0 rfl) ?_
      refine x_g_69 C hR hK_a107 q_29_7 dX5_plantAll_26 ?_
      obtain ⟨a108, ea108, h⟩ := h
      refine x_some ea108 ?_
      obtain ⟨hK_a108, h⟩ := h
      refine x_g_32 C hR hK_a108 q_29_8 dX5_plantAll_29 ?_
      refine lv_topi (fun x109 ex109 => ?_)
      replace h := h x109 ex109
      refine lv_if_eq (tgt := 46) hx hb dX5_plantAll_32 (by decide) (fun hc110 => ?_) (fun hc110 => ?_)
      · replace h := h.1 hc110
        exact t_X5_plantAll_b46 C hml hr hlocks (fun x0 x1 x2 S h => ih x0 x1 x2 S h) h H locs ls hR hS (lv_sub (l' := [(0, .ref x0), (1, .int x1), (2, .int x2), (3, .ref a107)]) hl [1, 2, 3, 0] rfl)
      · replace h := h.2 hc110
        refine lv_aload_n hx hb dX5_plantAll_35 rfl (lv_at hl 0 rfl) ?_
        refine x_g_69 C hR hK_a107 q_29_7 dX5_plantAll_36 ?_
        obtain ⟨a111, ea111, h⟩ := h
        refine x_some ea111 ?_
        obtain ⟨hK_a111, h⟩ := h
        refine x_g_32 C hR hK_a111 q_29_8 dX5_plantAll_39 ?_
        refine lv_topi (fun x112 ex112 => ?_)
        replace h := h x112 ex112
        refine lv_iconst (v := 1) hx hb dX5_plantAll_42 (by decide) ?_
        refine lv_icmp_ne (tgt := 59) hx hb dX5_plantAll_43 (by decide) (fun hc113 => ?_) (fun hc113 => ?_)
        · replace h := h.1 hc113
          exact t_X5_plantAll_b59 C hml hr hlocks (fun x0 x1 x2 S h => ih x0 x1 x2 S h) h H locs ls hR hS (lv_sub (l' := [(0, .ref x0), (1, .int x1), (2, .int x2)]) hl [1, 2, 3] rfl)
        · replace h := h.2 hc113
          exact t_X5_plantAll_b46 C hml hr hlocks (fun x0 x1 x2 S h => ih x0 x1 x2 S h) h H locs ls hR hS (lv_sub (l' := [(0, .ref x0), (1, .int x1), (2, .int x2), (3, .ref a107)]) hl [1, 2, 3, 0] rfl)
set_option maxHeartbeats 4000000 in
theorem t_X5_plantAll_b0 {Q : sT → Prop} (C : x_C p s m args c cX5_plantAll RX5 gg) (hml : c.maxLocals = 4) (hr : meth.sig.returnType = none) (hlocks : meth.locks = false) {x0 : Nat} {x1 : Int32}  {S : sT}  (h : w_X5_plantAll_b0 x0 x1 S  Q) : x_X p l e r_X5_plantAll s m args below meth c gg 4 0 0 (MQ below (va_Qv Q (fun S1 t => s_Rep gg S1 t.heap) (s_A gg)) args s 0 0 (s_A gg)) 0 [(0, .ref x0), (1, .int x1)] [] S := by
  unfold w_X5_plantAll_b0 at h
  obtain ⟨hx, hb, -⟩ := id C
  intro H locs ls hR hS hl
  refine lv_iconst (v := 0) hx hb dX5_plantAll_0 (by decide) ?_
  refine lv_istore_n (lv' := [(2, .int (0 : Int32)), (0, .ref x0), (1, .int x1)]) hx hb dX5_plantAll_1 rfl hl (by decide) rfl (fun ls hl => ?_)
  obtain ⟨n9, h⟩ := h
  exact t_X5_plantAll_b2 C hml hr hlocks  n9 x0 x1 (0 : Int32) S h H locs ls hR hS (lv_sub (l' := [(0, .ref x0), (1, .int x1), (2, .int (0 : Int32))]) hl [1, 2, 0] rfl)
theorem m_X5_plantAll (l : Launch) (gg : sG) (x0 : Nat) (x1 : Int32) (S : sT) {Q : sT → Prop} (h : w_X5_plantAll x0 x1 S Q) : x_Mv l gg yX5_plantAll (x_ws yX5_plantAll cX5_plantAll 4 none) r_X5_plantAll [.ref x0, .int x1] S Q 0 0 := by
  refine x_ofW (cc := cX5_plantAll) (own := RX5) (by decide +kernel) rfl (Nat.le_of_ble_eq_true rfl) ?_
  intro p e s m args below meth c C hml hr hlocks hin ht H locs ls hR hS hl
  exact t_X5_plantAll_b0 C hml hr hlocks h H locs ls hR hS (lv_sub (l' := [(0, .ref x0), (1, .int x1)]) hl [0, 1] rfl)
def w_X5_copyFrom_b0 (x0 : Nat) (x1 : Nat) (S : sT)  (Q : sT → Prop) : Prop :=
s_K S x1 = 7 ∧
    ∀ x101 : Int32, x101 = s_I S 196 x1 →
    s_K S x0 = 7 ∧
    ∀ S102 : sT, S102 = s_sI S 196 x0 x101 →
    ∀ x103 : Int32, x103 = s_I S102 197 x1 →
    ∀ S104 : sT, S104 = s_sI S102 197 x0 x103 →
    ∀ x105 : Int32, x105 = s_I S104 199 x1 →
    ∀ S106 : sT, S106 = s_sI S104 199 x0 x105 →
    ∀ x107 : Int32, x107 = s_I S106 202 x1 →
    (x107 = 0 ∨ x107 = 1) ∧
    ∀ S109 : sT, S109 = s_sI S106 202 x0 x107 →
    ∀ x110 : Int32, x110 = s_I S109 203 x1 →
    ∀ S111 : sT, S111 = s_sI S109 203 x0 x110 →
    Q S111
def w_X5_copyFrom (x0 : Nat) (x1 : Nat) (S : sT) (Q : sT → Prop) : Prop := w_X5_copyFrom_b0 x0 x1 S Q
def r_X5_copyFrom : Room := x_rm 0 0 0 0
theorem b_X5_copyFrom : x_BV yX5_copyFrom cX5_copyFrom 2 none 1 := ⟨q_27_9, q_27_7, q_27_8, q_4_5, by decide +kernel⟩
set_option maxHeartbeats 4000000 in
theorem t_X5_copyFrom_b0 {Q : sT → Prop} (C : x_C p s m args c cX5_copyFrom RX5 gg) (hml : c.maxLocals = 2) (hr : meth.sig.returnType = none) (hlocks : meth.locks = false) {x0 : Nat} {x1 : Nat}  {S : sT}  (h : w_X5_copyFrom_b0 x0 x1 S  Q) : x_X p l e r_X5_copyFrom s m args below meth c gg 2 0 0 (MQ below (va_Qv Q (fun S1 t => s_Rep gg S1 t.heap) (s_A gg)) args s 0 0 (s_A gg)) 0 [(0, .ref x0), (1, .ref x1)] [] S := by
  unfold w_X5_copyFrom_b0 at h
  obtain ⟨hx, hb, -⟩ := id C
  intro H locs ls hR hS hl
  refine lv_aload_n hx hb dX5_copyFrom_0 rfl (lv_at hl 0 rfl) ?_
  refine lv_aload_n hx hb dX5_copyFrom_1 rfl (lv_at hl 1 rfl) ?_
  obtain ⟨hK_x1, h⟩ := h
  refine x_g_196 C hR hK_x1 q_4_18 dX5_copyFrom_2 ?_
  refine lv_topi (fun x101 ex101 => ?_)
  replace h := h x101 ex101
  obtain ⟨hK_x0, h⟩ := h
  refine x_p_196 (v := x101) C hR hK_x0 hS q_4_18 dX5_copyFrom_5 (fun H locs hR hS => ?_)
  obtain ⟨S102, eS102⟩ : ∃ z : sT, z = s_sI S 196 x0 x101 := ⟨_, rfl⟩
  rw [← eS102] at hR
  replace h := h S102 eS102
  have hK_x1 : s_K S102 x1 = 7 := by rw [eS102]; exact hK_x1
  have hK_x0 : s_K S102 x0 = 7 := by rw [eS102]; exact hK_x0
  refine lv_aload_n hx hb dX5_copyFrom_8 rfl (lv_at hl 0 rfl) ?_
  refine lv_aload_n hx hb dX5_copyFrom_9 rfl (lv_at hl 1 rfl) ?_
  refine x_g_197 C hR hK_x1 q_4_19 dX5_copyFrom_10 ?_
  refine lv_topi (fun x103 ex103 => ?_)
  replace h := h x103 ex103
  refine x_p_197 (v := x103) C hR hK_x0 hS q_4_19 dX5_copyFrom_13 (fun H locs hR hS => ?_)
  obtain ⟨S104, eS104⟩ : ∃ z : sT, z = s_sI S102 197 x0 x103 := ⟨_, rfl⟩
  rw [← eS104] at hR
  replace h := h S104 eS104
  have hK_x1 : s_K S104 x1 = 7 := by rw [eS104]; exact hK_x1
  have hK_x0 : s_K S104 x0 = 7 := by rw [eS104]; exact hK_x0
  refine lv_aload_n hx hb dX5_copyFrom_16 rfl (lv_at hl 0 rfl) ?_
  refine lv_aload_n hx hb dX5_copyFrom_17 rfl (lv_at hl 1 rfl) ?_
  refine x_g_199 C hR hK_x1 q_21_6 dX5_copyFrom_18 ?_
  refine lv_topi (fun x105 ex105 => ?_)
  replace h := h x105 ex105
  refine x_p_199 (v := x105) C hR hK_x0 hS q_21_6 dX5_copyFrom_21 (fun H locs hR hS => ?_)
  obtain ⟨S106, eS106⟩ : ∃ z : sT, z = s_sI S104 199 x0 x105 := ⟨_, rfl⟩
  rw [← eS106] at hR
  replace h := h S106 eS106
  have hK_x1 : s_K S106 x1 = 7 := by rw [eS106]; exact hK_x1
  have hK_x0 : s_K S106 x0 = 7 := by rw [eS106]; exact hK_x0
  refine lv_aload_n hx hb dX5_copyFrom_24 rfl (lv_at hl 0 rfl) ?_
  refine lv_aload_n hx hb dX5_copyFrom_25 rfl (lv_at hl 1 rfl) ?_
  refine x_g_202 C hR hK_x1 q_21_8 dX5_copyFrom_26 ?_
  refine lv_topi (fun x107 ex107 => ?_)
  replace h := h x107 ex107
  obtain ⟨hz108, h⟩ := h
  refine x_p_202 (v := x107) C hR hK_x0 hS (zb_n hz108) (zb_f hz108) q_21_8 dX5_copyFrom_29 (fun H locs hR hS => ?_)
  obtain ⟨S109, eS109⟩ : ∃ z : sT, z = s_sI S106 202 x0 x107 := ⟨_, rfl⟩
  rw [← eS109] at hR
  replace h := h S109 eS109
  have hK_x1 : s_K S109 x1 = 7 := by rw [eS109]; exact hK_x1
  have hK_x0 : s_K S109 x0 = 7 := by rw [eS109]; exact hK_x0
  refine lv_aload_n hx hb dX5_copyFrom_32 rfl (lv_at hl 0 rfl) ?_
  refine lv_aload_n hx hb dX5_copyFrom_33 rfl (lv_at hl 1 rfl) ?_
  refine x_g_203 C hR hK_x1 q_4_14 dX5_copyFrom_34 ?_
  refine lv_topi (fun x110 ex110 => ?_)
  replace h := h x110 ex110
  refine x_p_203 (v := x110) C hR hK_x0 hS q_4_14 dX5_copyFrom_37 (fun H locs hR hS => ?_)
  obtain ⟨S111, eS111⟩ : ∃ z : sT, z = s_sI S109 203 x0 x110 := ⟨_, rfl⟩
  rw [← eS111] at hR
  replace h := h S111 eS111
  have hK_x1 : s_K S111 x1 = 7 := by rw [eS111]; exact hK_x1
  have hK_x0 : s_K S111 x0 = 7 := by rw [eS111]; exact hK_x0
  exact W.vret hx hb hr (fun t ht hW => ⟨⟨S111, rfl, h, x_rt ht hR⟩, hS.F ht⟩) hS.2.2 dX5_copyFrom_40
theorem m_X5_copyFrom (l : Launch) (gg : sG) (x0 : Nat) (x1 : Nat) (S : sT) {Q : sT → Prop} (h : w_X5_copyFrom x0 x1 S Q) : x_Mv l gg yX5_copyFrom (x_ws yX5_copyFrom cX5_copyFrom 2 none) r_X5_copyFrom [.ref x0, .ref x1] S Q 0 0 := by
  refine x_ofW (cc := cX5_copyFrom) (own := RX5) (by decide +kernel) rfl (Nat.le_of_ble_eq_true rfl) ?_
  intro p e s m args below meth c C hml hr hlocks hin ht H locs ls hR hS hl
  exact t_X5_copyFrom_b0 C hml hr hlocks h H locs ls hR hS (lv_sub (l' := [(0, .ref x0), (1, .ref x1)]) hl [0, 1] rfl)
def w_X2_templeDay_b0 (x0 : Nat) (S : sT)  (Q : Int32 → sT → Prop) : Prop :=
s_K S x0 = 4 ∧
    ∀ x101 : Int32, x101 = s_I S 99 x0 →
    w_J9_floorMod_7cf53 x101 (210 : Int32) S (fun x103 S102 =>
    Q x103 S102)
def w_X2_templeDay (x0 : Nat) (S : sT) (Q : Int32 → sT → Prop) : Prop := w_X2_templeDay_b0 x0 S Q
def r_X2_templeDay : Room := x_rm 1 22 0 0
theorem b_X2_templeDay : x_BV yX2_templeDay cX2_templeDay 1 (some .int) 0 := ⟨q_14_13, q_14_11, q_14_12, q_1_12, by decide +kernel⟩
set_option maxHeartbeats 4000000 in
theorem t_X2_templeDay_b0 {Q : Int32 → sT → Prop} (C : x_C p s m args c cX2_templeDay RX2 gg) (hml : c.maxLocals = 1) (hr : meth.sig.returnType = (some .int)) (hlocks : meth.locks = false) {x0 : Nat}  {S : sT}  (h : w_X2_templeDay_b0 x0 S  Q) : x_X p l e r_X2_templeDay s m args below meth c gg 1 0 0 (MQ below (va_Qi Q (fun S1 t => s_Rep gg S1 t.heap) (s_A gg)) args s 0 0 (s_A gg)) 0 [(0, .ref x0)] [] S := by
  unfold w_X2_templeDay_b0 at h
  obtain ⟨hx, hb, -⟩ := id C
  intro H locs ls hR hS hl
  refine lv_aload_n hx hb dX2_templeDay_0 rfl (lv_at hl 0 rfl) ?_
  obtain ⟨hK_x0, h⟩ := h
  refine x_g_99 C hR hK_x0 q_14_14 dX2_templeDay_1 ?_
  refine lv_topi (fun x101 ex101 => ?_)
  replace h := h x101 ex101
  refine lv_sipush (v := 210) hx hb dX2_templeDay_4 (by decide) ?_
  refine x_ki (x_runS (As := [.int x101, .int (210 : Int32)]) (rest := []) C hml hR hS (m_J9_floorMod_7cf53 l gg x101 (210 : Int32) S h) b_J9_floorMod_7cf53 q_14_15 rfl rfl ⟨Nat.le_of_ble_eq_true rfl, Nat.le_of_ble_eq_true rfl⟩ rfl hl.1 (Nat.le_of_ble_eq_true rfl) dX2_templeDay_7 ⟨Nat.le_refl _, Nat.le_refl _⟩) hS (fun x103 S102 H locs hn hR hS => ?_)
  replace h := hn
  clear hn
  exact W.iret (v := x103) hx hb hr (fun t ht hW => ⟨⟨x103, S102, rfl, h, x_rt ht hR⟩, hS.F ht⟩) hS.2.2 dX2_templeDay_10
theorem m_X2_templeDay (l : Launch) (gg : sG) (x0 : Nat) (S : sT) {Q : Int32 → sT → Prop} (h : w_X2_templeDay x0 S Q) : x_Mi l gg yX2_templeDay (x_ws yX2_templeDay cX2_templeDay 1 (some .int)) r_X2_templeDay [.ref x0] S Q 0 0 := by
  refine x_ofW (cc := cX2_templeDay) (own := RX2) (by decide +kernel) rfl (Nat.le_of_ble_eq_true rfl) ?_
  intro p e s m args below meth c C hml hr hlocks hin ht H locs ls hR hS hl
  exact t_X2_templeDay_b0 C hml hr hlocks h H locs ls hR hS (lv_sub (l' := [(0, .ref x0)]) hl [0] rfl)
def w_X2_isDark_b15 (y0 : Int32) (S : sT)  (Q : Int32 → sT → Prop) : Prop :=
(y0 = 0 ∨ y0 = 1) ∧
    Q y0 S
def w_X2_isDark_b0 (x0 : Nat) (S : sT)  (Q : Int32 → sT → Prop) : Prop :=
s_K S x0 = 4 ∧
    ∀ x101 : Int32, x101 = s_I S 99 x0 →
    ∀ x102 : Int32, x102 = x101 - x101 / (30 : Int32) * (30 : Int32) →
    ((¬ x102 = 0 → w_X2_isDark_b15 (0 : Int32) S  Q) ∧
    (x102 = 0 → w_X2_isDark_b15 (1 : Int32) S  Q))
def w_X2_isDark (x0 : Nat) (S : sT) (Q : Int32 → sT → Prop) : Prop := w_X2_isDark_b0 x0 S Q
def r_X2_isDark : Room := x_rm 0 0 0 0
theorem b_X2_isDark : x_BV yX2_isDark cX2_isDark 1 (some .boolean) 0 := ⟨q_17_1, q_16_23, q_17_0, q_1_12, by decide +kernel⟩
set_option maxHeartbeats 4000000 in
theorem t_X2_isDark_b15 {Q : Int32 → sT → Prop} (C : x_C p s m args c cX2_isDark RX2 gg) (hml : c.maxLocals = 1) (hr : meth.sig.returnType = (some .boolean)) (hlocks : meth.locks = false) {y0 : Int32}  {S : sT}  (h : w_X2_isDark_b15 y0 S  Q) : x_X p l e r_X2_isDark s m args below meth c gg 1 0 0 (MQ below (va_Qi Q (fun S1 t => s_Rep gg S1 t.heap) (s_A gg)) args s 0 0 (s_A gg)) 15 [] [.int y0] S := by
  unfold w_X2_isDark_b15 at h
  obtain ⟨hx, hb, -⟩ := id C
  intro H locs ls hR hS hl
  obtain ⟨hz101, h⟩ := h
  exact W.zret (v := y0) hx hb hr (zb_n hz101) (fun t ht hW => ⟨⟨y0, S, rfl, h, x_rt ht hR⟩, hS.F ht⟩) hS.2.2 dX2_isDark_15
set_option maxHeartbeats 4000000 in
theorem t_X2_isDark_b0 {Q : Int32 → sT → Prop} (C : x_C p s m args c cX2_isDark RX2 gg) (hml : c.maxLocals = 1) (hr : meth.sig.returnType = (some .boolean)) (hlocks : meth.locks = false) {x0 : Nat}  {S : sT}  (h : w_X2_isDark_b0 x0 S  Q) : x_X p l e r_X2_isDark s m args below meth c gg 1 0 0 (MQ below (va_Qi Q (fun S1 t => s_Rep gg S1 t.heap) (s_A gg)) args s 0 0 (s_A gg)) 0 [(0, .ref x0)] [] S := by
  unfold w_X2_isDark_b0 at h
  obtain ⟨hx, hb, -⟩ := id C
  intro H locs ls hR hS hl
  refine lv_aload_n hx hb dX2_isDark_0 rfl (lv_at hl 0 rfl) ?_
  obtain ⟨hK_x0, h⟩ := h
  refine x_g_99 C hR hK_x0 q_14_14 dX2_isDark_1 ?_
  refine lv_topi (fun x101 ex101 => ?_)
  replace h := h x101 ex101
  refine lv_bipush (v := 30) hx hb dX2_isDark_4 (by decide) ?_
  refine lv_irem hx hb dX2_isDark_6 (by decide) ?_
  refine lv_topi (fun x102 ex102 => ?_)
  replace h := h x102 ex102
  refine lv_if_ne (tgt := 14) hx hb dX2_isDark_7 (by decide) (fun hc103 => ?_) (fun hc103 => ?_)
  · replace h := h.1 hc103
    refine lv_iconst (v := 0) hx hb dX2_isDark_14 (by decide) ?_
    exact t_X2_isDark_b15 C hml hr hlocks  h H locs ls hR hS (lv_sub (l' := []) hl [] rfl)
  · replace h := h.2 hc103
    refine lv_iconst (v := 1) hx hb dX2_isDark_10 (by decide) ?_
    refine lv_goto (tgt := 15) hx hb dX2_isDark_11 (by decide) ?_
    exact t_X2_isDark_b15 C hml hr hlocks  h H locs ls hR hS (lv_sub (l' := []) hl [] rfl)
theorem m_X2_isDark (l : Launch) (gg : sG) (x0 : Nat) (S : sT) {Q : Int32 → sT → Prop} (h : w_X2_isDark x0 S Q) : x_Mi l gg yX2_isDark (x_ws yX2_isDark cX2_isDark 1 (some .boolean)) r_X2_isDark [.ref x0] S Q 0 0 := by
  refine x_ofW (cc := cX2_isDark) (own := RX2) (by decide +kernel) rfl (Nat.le_of_ble_eq_true rfl) ?_
  intro p e s m args below meth c C hml hr hlocks hin ht H locs ls hR hS hl
  exact t_X2_isDark_b0 C hml hr hlocks h H locs ls hR hS (lv_sub (l' := [(0, .ref x0)]) hl [0] rfl)
def w_X2_nearestOnTheStalk_b34  (S : sT)  (Q : Option Nat → sT → Prop) : Prop :=
Q none S
def w_X2_nearestOnTheStalk_b7  (Q : Option Nat → sT → Prop) : Nat → Nat → Int32 → Int32 → Int32 → sT → Prop
  | 0 => fun _ _ _ _ _ => False
  | n + 1 => fun x0 x2 x3 x4 S =>
s_K S x0 = 4 ∧
    ∃ a101 : Nat, s_R S 97 x0 = some a101 ∧
    s_K S a101 = 1 ∧
    w_Jx4a65c_size_8abf5 a101 S (fun x103 S102 =>
    ((x103 ≤ x4 → Q none S102) ∧
    (¬ x103 ≤ x4 → ((x3 < 0 → w_X2_nearestOnTheStalk_b34  S102  Q) ∧
    (¬ x3 < 0 → s_K S102 x0 = 4 ∧
    ∃ a106 : Nat, s_R S102 97 x0 = some a106 ∧
    s_K S102 a106 = 1 ∧
    w_Jx4a65c_size_8abf5 a106 S102 (fun x108 S107 =>
    ((x3 < x108 → s_K S107 x0 = 4 ∧
    ∃ a110 : Nat, s_R S107 97 x0 = some a110 ∧
    s_K S107 a110 = 1 ∧
    w_Jx4a65c_get_915e3 a110 x3 S107 (fun a112 S111 =>
    s_K S111 a112 = 3 ∧
    ∃ a113 : Nat, s_R S111 69 a112 = some a113 ∧
    s_K S111 a113 = 2 ∧
    ∀ x114 : Int32, x114 = s_I S111 32 a113 →
    w_X6_isOnTheStalk x114 S111 (fun x116 S115 =>
    ((x116 = 0 → ∀ x118 : Int32, x118 = x3 + x2 →
    ∀ x119 : Int32, x119 = x4 + 1 →
    w_X2_nearestOnTheStalk_b7  Q n x0 x2 x118 x119 S115) ∧
    (¬ x116 = 0 → Q (some a112) S115))))) ∧
    (¬ x3 < x108 → w_X2_nearestOnTheStalk_b34  S107  Q))))))))
def w_X2_nearestOnTheStalk_b0 (x0 : Nat) (x1 : Int32) (x2 : Int32) (S : sT)  (Q : Option Nat → sT → Prop) : Prop :=
∀ x101 : Int32, x101 = x1 + x2 →
    ∃ n9 : Nat, w_X2_nearestOnTheStalk_b7  Q n9 x0 x2 x101 (0 : Int32) S
def w_X2_nearestOnTheStalk (x0 : Nat) (x1 : Int32) (x2 : Int32) (S : sT) (Q : Option Nat → sT → Prop) : Prop := w_X2_nearestOnTheStalk_b0 x0 x1 x2 S Q
def r_X2_nearestOnTheStalk : Room := x_rm 3 64 0 0
theorem b_X2_nearestOnTheStalk : x_BV yX2_nearestOnTheStalk cX2_nearestOnTheStalk 6 (some (.object "Subakhall$Field")) 2 := ⟨q_24_5, q_24_3, q_24_4, q_1_12, by decide +kernel⟩
set_option maxHeartbeats 4000000 in
theorem t_X2_nearestOnTheStalk_b34 {Q : Option Nat → sT → Prop} (C : x_C p s m args c cX2_nearestOnTheStalk RX2 gg) (hml : c.maxLocals = 6) (hr : meth.sig.returnType = (some (.object "Subakhall$Field"))) (hlocks : meth.locks = false)   {S : sT}  (h : w_X2_nearestOnTheStalk_b34  S  Q) : x_X p l e r_X2_nearestOnTheStalk s m args below meth c gg 6 0 0 (MQ below (va_Qq Q (fun S1 t => s_Rep gg S1 t.heap) (s_A gg)) args s 0 0 (s_A gg)) 34 [] [] S := by
  unfold w_X2_nearestOnTheStalk_b34 at h
  obtain ⟨hx, hb, -⟩ := id C
  intro H locs ls hR hS hl
  refine lv_null hx hb dX2_nearestOnTheStalk_34 ?_
  exact W.aret (v := va_rf none) hx hb hr (Or.inl ⟨_, rfl⟩) (va_rf_or _) (fun t ht hW => ⟨⟨none, S, rfl, h, x_rt ht hR⟩, hS.F ht⟩) hS.2.2 dX2_nearestOnTheStalk_35
set_option maxHeartbeats 4000000 in
theorem t_X2_nearestOnTheStalk_b7 {Q : Option Nat → sT → Prop} (C : x_C p s m args c cX2_nearestOnTheStalk RX2 gg) (hml : c.maxLocals = 6) (hr : meth.sig.returnType = (some (.object "Subakhall$Field"))) (hlocks : meth.locks = false)   : ∀ (n : Nat) (x0 : Nat) (x2 : Int32) (x3 : Int32) (x4 : Int32) (S : sT), w_X2_nearestOnTheStalk_b7  Q n x0 x2 x3 x4 S → x_X p l e r_X2_nearestOnTheStalk s m args below meth c gg 6 0 0 (MQ below (va_Qq Q (fun S1 t => s_Rep gg S1 t.heap) (s_A gg)) args s 0 0 (s_A gg)) 7 [(0, .ref x0), (2, .int x2), (3, .int x3), (4, .int x4)] [] S := by
  obtain ⟨hx, hb, -⟩ := id C
  intro n
  induction n with
  | zero => intro x0 x2 x3 x4 S h; exact absurd h id
  | succ n ih =>
    intro x0 x2 x3 x4 S h H locs ls hR hS hl
    unfold w_X2_nearestOnTheStalk_b7 at h
    refine lv_iload hx hb dX2_nearestOnTheStalk_7 (lv_at hl 3 rfl) ?_
    refine lv_aload_n hx hb dX2_nearestOnTheStalk_9 rfl (lv_at hl 0 rfl) ?_
    obtain ⟨hK_x0, h⟩ := h
    refine x_g_97 C hR hK_x0 q_1_22 dX2_nearestOnTheStalk_10 ?_
    obtain ⟨a101, ea101, h⟩ := h
    refine x_some ea101 ?_
    obtain ⟨hK_a101, h⟩ := h
    refine x_ki (x_runV (As := []) (rest := [.int x4]) C hml hR hS (m_Jx4a65c_size_8abf5 l gg a101 S h) b_Jx4a65c_size_8abf5 q_4_7 (by rw [hK_a101]; decide) (s_E_0 hK_a101) rfl rfl rfl rfl ⟨Nat.le_of_ble_eq_true rfl, Nat.le_of_ble_eq_true rfl⟩ rfl hl.1 (Nat.le_of_ble_eq_true rfl) dX2_nearestOnTheStalk_13 ⟨Nat.le_refl _, Nat.le_refl _⟩) hS (fun x103 S102 H locs hn hR hS => ?_)
    replace h := hn
    clear hn
    refine lv_icmp_ge (tgt := 76) hx hb dX2_nearestOnTheStalk_16 (by decide) (fun hc104 => ?_) (fun hc104 => ?_)
    · replace h := h.1 hc104
      refine lv_null hx hb dX2_nearestOnTheStalk_76 ?_
      exact W.aret (v := va_rf none) hx hb hr (Or.inl ⟨_, rfl⟩) (va_rf_or _) (fun t ht hW => ⟨⟨none, S102, rfl, h, x_rt ht hR⟩, hS.F ht⟩) hS.2.2 dX2_nearestOnTheStalk_77
    · replace h := h.2 hc104
      refine lv_iload_n hx hb dX2_nearestOnTheStalk_19 rfl (lv_at hl 2 rfl) ?_
      refine lv_if_lt (tgt := 34) hx hb dX2_nearestOnTheStalk_20 (by decide) (fun hc105 => ?_) (fun hc105 => ?_)
      · replace h := h.1 hc105
        exact t_X2_nearestOnTheStalk_b34 C hml hr hlocks  h H locs ls hR hS (lv_sub (l' := []) hl [] rfl)
      · replace h := h.2 hc105
        refine lv_iload_n hx hb dX2_nearestOnTheStalk_23 rfl (lv_at hl 2 rfl) ?_
        refine lv_aload_n hx hb dX2_nearestOnTheStalk_24 rfl (lv_at hl 0 rfl) ?_
        obtain ⟨hK_x0, h⟩ := h
        refine x_g_97 C hR hK_x0 q_1_22 dX2_nearestOnTheStalk_25 ?_
        obtain ⟨a106, ea106, h⟩ := h
        refine x_some ea106 ?_
        obtain ⟨hK_a106, h⟩ := h
        refine x_ki (x_runV (As := []) (rest := [.int x3]) C hml hR hS (m_Jx4a65c_size_8abf5 l gg a106 S102 h) b_Jx4a65c_size_8abf5 q_4_7 (by rw [hK_a106]; decide) (s_E_0 hK_a106) rfl rfl rfl rfl ⟨Nat.le_of_ble_eq_true rfl, Nat.le_of_ble_eq_true rfl⟩ rfl hl.1 (Nat.le_of_ble_eq_true rfl) dX2_nearestOnTheStalk_28 ⟨Nat.le_refl _, Nat.le_refl _⟩) hS (fun x108 S107 H locs hn hR hS => ?_)
        replace h := hn
        clear hn
        refine lv_icmp_lt (tgt := 36) hx hb dX2_nearestOnTheStalk_31 (by decide) (fun hc109 => ?_) (fun hc109 => ?_)
        · replace h := h.1 hc109
          refine lv_aload_n hx hb dX2_nearestOnTheStalk_36 rfl (lv_at hl 0 rfl) ?_
          obtain ⟨hK_x0, h⟩ := h
          refine x_g_97 C hR hK_x0 q_1_22 dX2_nearestOnTheStalk_37 ?_
          obtain ⟨a110, ea110, h⟩ := h
          refine x_some ea110 ?_
          refine lv_iload_n hx hb dX2_nearestOnTheStalk_40 rfl (lv_at hl 2 rfl) ?_
          obtain ⟨hK_a110, h⟩ := h
          refine x_kq (x_runV (As := [.int x3]) (rest := []) C hml hR hS (m_Jx4a65c_get_915e3 l gg a110 x3 S107 h) b_Jx4a65c_get_915e3 q_8_14 (by rw [hK_a110]; decide) (s_E_0 hK_a110) rfl rfl rfl rfl ⟨Nat.le_of_ble_eq_true rfl, Nat.le_of_ble_eq_true rfl⟩ rfl hl.1 (Nat.le_of_ble_eq_true rfl) dX2_nearestOnTheStalk_41 ⟨Nat.le_refl _, Nat.le_refl _⟩) hS (fun ra112 S111 H locs hn hR hS => ?_)
          replace h := hn
          clear hn
          obtain ⟨a112, za112, h⟩ := h
          refine x_some za112 ?_
          obtain ⟨hK_a112, h⟩ := h
          refine x_cast (ci := 2) C hR (by rw [hK_a112]; decide) (s_E_2 hK_a112) rfl q_20_11 rfl dX2_nearestOnTheStalk_44 ?_
          refine lv_astore (lv' := [(5, .ref a112), (0, .ref x0), (2, .int x2), (3, .int x3), (4, .int x4)]) hx hb dX2_nearestOnTheStalk_47 hl (by decide) rfl (fun ls hl => ?_)
          refine lv_aload hx hb dX2_nearestOnTheStalk_49 (lv_at hl 0 rfl) ?_
          refine x_g_69 C hR hK_a112 q_20_12 dX2_nearestOnTheStalk_51 ?_
          obtain ⟨a113, ea113, h⟩ := h
          refine x_some ea113 ?_
          obtain ⟨hK_a113, h⟩ := h
          refine x_g_32 C hR hK_a113 q_24_6 dX2_nearestOnTheStalk_54 ?_
          refine lv_topi (fun x114 ex114 => ?_)
          replace h := h x114 ex114
          refine x_ki (x_runSN (As := [.int x114]) (rest := []) (host := "Subakhall") C hml hR hS (m_X6_isOnTheStalk l gg x114 S111 h) b_X6_isOnTheStalk xm_2 rfl rfl ⟨Nat.le_of_ble_eq_true rfl, Nat.le_of_ble_eq_true rfl⟩ rfl hl.1 (Nat.le_of_ble_eq_true rfl) dX2_nearestOnTheStalk_57 ⟨Nat.le_refl _, Nat.le_refl _⟩) hS (fun x116 S115 H locs hn hR hS => ?_)
          replace h := hn
          clear hn
          refine lv_if_eq (tgt := 66) hx hb dX2_nearestOnTheStalk_60 (by decide) (fun hc117 => ?_) (fun hc117 => ?_)
          · replace h := h.1 hc117
            refine lv_iload_n hx hb dX2_nearestOnTheStalk_66 rfl (lv_at hl 3 rfl) ?_
            refine lv_iload_n hx hb dX2_nearestOnTheStalk_67 rfl (lv_at hl 2 rfl) ?_
            refine lv_iadd hx hb dX2_nearestOnTheStalk_68 ?_
            refine lv_topi (fun x118 ex118 => ?_)
            replace h := h x118 ex118
            refine lv_istore_n (lv' := [(3, .int x118), (5, .ref a112), (0, .ref x0), (2, .int x2), (4, .int x4)]) hx hb dX2_nearestOnTheStalk_69 rfl hl (by decide) rfl (fun ls hl => ?_)
            obtain ⟨x119, ex119⟩ : ∃ z : Int32, z = x4 + 1 := ⟨_, rfl⟩
            replace h := h x119 ex119
            refine lv_iinc (v := x119) (lv' := [(4, .int x119), (3, .int x118), (5, .ref a112), (0, .ref x0), (2, .int x2)]) hx hb dX2_nearestOnTheStalk_70 hl (k := 4) rfl (by rw [ex119]; rfl) (by decide) rfl (fun ls hl => ?_)
            refine lv_goto (tgt := 7) hx hb dX2_nearestOnTheStalk_73 (by decide) ?_
            exact ih x0 x2 x118 x119 S115 h H locs ls hR hS (lv_sub (l' := [(0, .ref x0), (2, .int x2), (3, .int x118), (4, .int x119)]) hl [3, 4, 1, 0] rfl)
          · replace h := h.2 hc117
            refine lv_aload hx hb dX2_nearestOnTheStalk_63 (lv_at hl 0 rfl) ?_
            exact W.aret (v := va_rf (some a112)) hx hb hr (Or.inl ⟨_, rfl⟩) (va_rf_or _) (fun t ht hW => ⟨⟨(some a112), S115, rfl, h, x_rt ht hR⟩, hS.F ht⟩) hS.2.2 dX2_nearestOnTheStalk_65
        · replace h := h.2 hc109
          exact t_X2_nearestOnTheStalk_b34 C hml hr hlocks  h H locs ls hR hS (lv_sub (l' := []) hl [] rfl)
set_option maxHeartbeats 4000000 in
theorem t_X2_nearestOnTheStalk_b0 {Q : Option Nat → sT → Prop} (C : x_C p s m args c cX2_nearestOnTheStalk RX2 gg) (hml : c.maxLocals = 6) (hr : meth.sig.returnType = (some (.object "Subakhall$Field"))) (hlocks : meth.locks = false) {x0 : Nat} {x1 : Int32} {x2 : Int32}  {S : sT}  (h : w_X2_nearestOnTheStalk_b0 x0 x1 x2 S  Q) : x_X p l e r_X2_nearestOnTheStalk s m args below meth c gg 6 0 0 (MQ below (va_Qq Q (fun S1 t => s_Rep gg S1 t.heap) (s_A gg)) args s 0 0 (s_A gg)) 0 [(0, .ref x0), (1, .int x1), (2, .int x2)] [] S := by
  unfold w_X2_nearestOnTheStalk_b0 at h
  obtain ⟨hx, hb, -⟩ := id C
  intro H locs ls hR hS hl
  refine lv_iload_n hx hb dX2_nearestOnTheStalk_0 rfl (lv_at hl 1 rfl) ?_
  refine lv_iload_n hx hb dX2_nearestOnTheStalk_1 rfl (lv_at hl 2 rfl) ?_
  refine lv_iadd hx hb dX2_nearestOnTheStalk_2 ?_
  refine lv_topi (fun x101 ex101 => ?_)
  replace h := h x101 ex101
  refine lv_istore_n (lv' := [(3, .int x101), (0, .ref x0), (1, .int x1), (2, .int x2)]) hx hb dX2_nearestOnTheStalk_3 rfl hl (by decide) rfl (fun ls hl => ?_)
  refine lv_iconst (v := 0) hx hb dX2_nearestOnTheStalk_4 (by decide) ?_
  refine lv_istore (lv' := [(4, .int (0 : Int32)), (3, .int x101), (0, .ref x0), (1, .int x1), (2, .int x2)]) hx hb dX2_nearestOnTheStalk_5 hl (by decide) rfl (fun ls hl => ?_)
  obtain ⟨n9, h⟩ := h
  exact t_X2_nearestOnTheStalk_b7 C hml hr hlocks  n9 x0 x2 x101 (0 : Int32) S h H locs ls hR hS (lv_sub (l' := [(0, .ref x0), (2, .int x2), (3, .int x101), (4, .int (0 : Int32))]) hl [2, 4, 1, 0] rfl)
theorem m_X2_nearestOnTheStalk (l : Launch) (gg : sG) (x0 : Nat) (x1 : Int32) (x2 : Int32) (S : sT) {Q : Option Nat → sT → Prop} (h : w_X2_nearestOnTheStalk x0 x1 x2 S Q) : x_Mq l gg yX2_nearestOnTheStalk (x_ws yX2_nearestOnTheStalk cX2_nearestOnTheStalk 6 (some (.object "Subakhall$Field"))) r_X2_nearestOnTheStalk [.ref x0, .int x1, .int x2] S Q 0 0 := by
  refine x_ofW (cc := cX2_nearestOnTheStalk) (own := RX2) (by decide +kernel) rfl (Nat.le_of_ble_eq_true rfl) ?_
  intro p e s m args below meth c C hml hr hlocks hin ht H locs ls hR hS hl
  exact t_X2_nearestOnTheStalk_b0 C hml hr hlocks h H locs ls hR hS (lv_sub (l' := [(0, .ref x0), (1, .int x1), (2, .int x2)]) hl [0, 1, 2] rfl)
def w_X2_flyFrom_b0 (x1 : Nat) (x2 : Option Nat) (S : sT)  (Q : sT → Prop) : Prop :=
((x2 = none → Q S) ∧
    (∀ a101 : Nat, x2 = some a101 → s_K S x1 = 3 ∧
    ∀ x103 : Int32, x103 = s_I S 76 x1 →
    ∀ x104 : Int32, x104 = x103 / (5 : Int32) →
    ∀ x105 : Int32, x105 = s_I S 80 x1 →
    ∀ x106 : Int32, x106 = x105 - x104 →
    ∀ S107 : sT, S107 = s_sI S 80 x1 x106 →
    s_K S107 a101 = 3 ∧
    ∀ x108 : Int32, x108 = s_I S107 80 a101 →
    ∀ x109 : Int32, x109 = x108 + x104 →
    ∀ S110 : sT, S110 = s_sI S107 80 a101 x109 →
    Q S110))
def w_X2_flyFrom (x0 : Nat) (x1 : Nat) (x2 : Option Nat) (S : sT) (Q : sT → Prop) : Prop := w_X2_flyFrom_b0 x1 x2 S Q
def r_X2_flyFrom : Room := x_rm 0 0 0 0
theorem b_X2_flyFrom : x_BV yX2_flyFrom cX2_flyFrom 4 none 2 := ⟨q_24_10, q_24_8, q_24_9, q_1_12, by decide +kernel⟩
set_option maxHeartbeats 4000000 in
theorem t_X2_flyFrom_b0 {Q : sT → Prop} (C : x_C p s m args c cX2_flyFrom RX2 gg) (hml : c.maxLocals = 4) (hr : meth.sig.returnType = none) (hlocks : meth.locks = false) {x1 : Nat} {x2 : Option Nat}  {S : sT}  (h : w_X2_flyFrom_b0 x1 x2 S  Q) : x_X p l e r_X2_flyFrom s m args below meth c gg 4 0 0 (MQ below (va_Qv Q (fun S1 t => s_Rep gg S1 t.heap) (s_A gg)) args s 0 0 (s_A gg)) 0 [(1, .ref x1), (2, va_rf x2)] [] S := by
  unfold w_X2_flyFrom_b0 at h
  obtain ⟨hx, hb, -⟩ := id C
  intro H locs ls hR hS hl
  refine x_aload_n hx hb dX2_flyFrom_0 rfl (lv_at hl 1 rfl) ?_
  refine x_ifnonnull (tgt := 5) hx hb dX2_flyFrom_1 (by decide) (fun a101 hc102 => ?_) (fun hc102 => ?_)
  · replace h := h.2 a101 hc102
    have z2 : va_rf x2 = Value.ref a101 := by rw [hc102]; rfl
    rw [z2] at hl
    refine lv_aload_n hx hb dX2_flyFrom_5 rfl (lv_at hl 0 rfl) ?_
    obtain ⟨hK_x1, h⟩ := h
    refine x_g_76 C hR hK_x1 q_20_14 dX2_flyFrom_6 ?_
    refine lv_topi (fun x103 ex103 => ?_)
    replace h := h x103 ex103
    refine lv_iconst (v := 5) hx hb dX2_flyFrom_9 (by decide) ?_
    refine lv_idiv hx hb dX2_flyFrom_10 (by decide) ?_
    refine lv_topi (fun x104 ex104 => ?_)
    replace h := h x104 ex104
    refine lv_istore_n (lv' := [(3, .int x104), (1, .ref x1), (2, .ref a101)]) hx hb dX2_flyFrom_11 rfl hl (by decide) rfl (fun ls hl => ?_)
    refine lv_aload_n hx hb dX2_flyFrom_12 rfl (lv_at hl 1 rfl) ?_
    refine lv_dup hx hb dX2_flyFrom_13 rfl ?_
    refine x_g_80 C hR hK_x1 q_24_11 dX2_flyFrom_14 ?_
    refine lv_topi (fun x105 ex105 => ?_)
    replace h := h x105 ex105
    refine lv_iload_n hx hb dX2_flyFrom_17 rfl (lv_at hl 0 rfl) ?_
    refine lv_isub hx hb dX2_flyFrom_18 ?_
    refine lv_topi (fun x106 ex106 => ?_)
    replace h := h x106 ex106
    refine x_p_80 (v := x106) C hR hK_x1 hS q_24_11 dX2_flyFrom_19 (fun H locs hR hS => ?_)
    obtain ⟨S107, eS107⟩ : ∃ z : sT, z = s_sI S 80 x1 x106 := ⟨_, rfl⟩
    rw [← eS107] at hR
    replace h := h S107 eS107
    have hK_x1 : s_K S107 x1 = 3 := by rw [eS107]; exact hK_x1
    refine lv_aload_n hx hb dX2_flyFrom_22 rfl (lv_at hl 2 rfl) ?_
    refine lv_dup hx hb dX2_flyFrom_23 rfl ?_
    obtain ⟨hK_a101, h⟩ := h
    refine x_g_80 C hR hK_a101 q_24_11 dX2_flyFrom_24 ?_
    refine lv_topi (fun x108 ex108 => ?_)
    replace h := h x108 ex108
    refine lv_iload_n hx hb dX2_flyFrom_27 rfl (lv_at hl 0 rfl) ?_
    refine lv_iadd hx hb dX2_flyFrom_28 ?_
    refine lv_topi (fun x109 ex109 => ?_)
    replace h := h x109 ex109
    refine x_p_80 (v := x109) C hR hK_a101 hS q_24_11 dX2_flyFrom_29 (fun H locs hR hS => ?_)
    obtain ⟨S110, eS110⟩ : ∃ z : sT, z = s_sI S107 80 a101 x109 := ⟨_, rfl⟩
    rw [← eS110] at hR
    replace h := h S110 eS110
    have hK_x1 : s_K S110 x1 = 3 := by rw [eS110]; exact hK_x1
    have hK_a101 : s_K S110 a101 = 3 := by rw [eS110]; exact hK_a101
    exact W.vret hx hb hr (fun t ht hW => ⟨⟨S110, rfl, h, x_rt ht hR⟩, hS.F ht⟩) hS.2.2 dX2_flyFrom_32
  · replace h := h.1 hc102
    have z2 : va_rf x2 = Value.null := by rw [hc102]; rfl
    rw [show va_rf x2 = va_rf none from z2] at hl
    exact W.vret hx hb hr (fun t ht hW => ⟨⟨S, rfl, h, x_rt ht hR⟩, hS.F ht⟩) hS.2.2 dX2_flyFrom_4
theorem m_X2_flyFrom (l : Launch) (gg : sG) (x0 : Nat) (x1 : Nat) (x2 : Option Nat) (S : sT) {Q : sT → Prop} (h : w_X2_flyFrom x0 x1 x2 S Q) : x_Mv l gg yX2_flyFrom (x_ws yX2_flyFrom cX2_flyFrom 4 none) r_X2_flyFrom [.ref x0, .ref x1, va_rf x2] S Q 0 0 := by
  cases x2 <;> (
  refine x_ofW (cc := cX2_flyFrom) (own := RX2) (by decide +kernel) rfl (Nat.le_of_ble_eq_true rfl) ?_
  intro p e s m args below meth c C hml hr hlocks hin ht H locs ls hR hS hl
  exact t_X2_flyFrom_b0 C hml hr hlocks h H locs ls hR hS (lv_sub hl [1, 2] rfl))
def w_X2_flyPests_b64  (Q : sT → Prop) : Nat → Nat → Int32 → sT → Prop
  | 0 => fun _ _ _ => False
  | n + 1 => fun x0 x1 S =>
s_K S x0 = 4 ∧
    ∃ a101 : Nat, s_R S 97 x0 = some a101 ∧
    s_K S a101 = 1 ∧
    w_Jx4a65c_size_8abf5 a101 S (fun x103 S102 =>
    ((x103 ≤ x1 → Q S102) ∧
    (¬ x103 ≤ x1 → s_K S102 x0 = 4 ∧
    ∃ a105 : Nat, s_R S102 97 x0 = some a105 ∧
    s_K S102 a105 = 1 ∧
    w_Jx4a65c_get_915e3 a105 x1 S102 (fun a107 S106 =>
    s_K S106 a107 = 3 ∧
    w_X1_settlePests a107 S106 (fun S108 =>
    ∀ x109 : Int32, x109 = x1 + 1 →
    w_X2_flyPests_b64  Q n x0 x109 S108)))))
def w_X2_flyPests_b56 (x0 : Nat) (x1 : Int32) (S : sT) (kk2 : Nat → Int32 → sT → Prop) (Q : sT → Prop) : Prop :=
∀ x101 : Int32, x101 = x1 + 1 →
    kk2 x0 x101 S
def w_X2_flyPests_b2  (Q : sT → Prop) : Nat → Nat → Int32 → sT → Prop
  | 0 => fun _ _ _ => False
  | n + 1 => fun x0 x1 S =>
s_K S x0 = 4 ∧
    ∃ a101 : Nat, s_R S 97 x0 = some a101 ∧
    s_K S a101 = 1 ∧
    w_Jx4a65c_size_8abf5 a101 S (fun x103 S102 =>
    ((x103 ≤ x1 → ∃ n9 : Nat, w_X2_flyPests_b64  Q n9 x0 (0 : Int32) S102) ∧
    (¬ x103 ≤ x1 → s_K S102 x0 = 4 ∧
    ∃ a105 : Nat, s_R S102 97 x0 = some a105 ∧
    s_K S102 a105 = 1 ∧
    w_Jx4a65c_get_915e3 a105 x1 S102 (fun a107 S106 =>
    s_K S106 a107 = 3 ∧
    ∀ x108 : Int32, x108 = s_I S106 76 a107 →
    ((x108 ≤ (20 : Int32) → w_X2_flyPests_b56 x0 x1 S106 (fun x0 x1 S => w_X2_flyPests_b2  Q n x0 x1 S) Q) ∧
    (¬ x108 ≤ (20 : Int32) → s_K S106 x0 = 4 ∧
    w_X2_nearestOnTheStalk x0 x1 (-1 : Int32) S106 (fun r111 S110 =>
    s_K S110 x0 = 4 ∧
    w_X2_flyFrom x0 a107 r111 S110 (fun S112 =>
    s_K S112 x0 = 4 ∧
    w_X2_nearestOnTheStalk x0 x1 (1 : Int32) S112 (fun r114 S113 =>
    s_K S113 x0 = 4 ∧
    w_X2_flyFrom x0 a107 r114 S113 (fun S115 =>
    w_X2_flyPests_b56 x0 x1 S115 (fun x0 x1 S => w_X2_flyPests_b2  Q n x0 x1 S) Q))))))))))
def w_X2_flyPests_b0 (x0 : Nat) (S : sT)  (Q : sT → Prop) : Prop :=
∃ n9 : Nat, w_X2_flyPests_b2  Q n9 x0 (0 : Int32) S
def w_X2_flyPests (x0 : Nat) (S : sT) (Q : sT → Prop) : Prop := w_X2_flyPests_b0 x0 S Q
def r_X2_flyPests : Room := x_rm 4 89 0 0
theorem b_X2_flyPests : x_BV yX2_flyPests cX2_flyPests 3 none 0 := ⟨q_24_1, q_23_23, q_24_0, q_1_12, by decide +kernel⟩
set_option maxHeartbeats 4000000 in
theorem t_X2_flyPests_b64 {Q : sT → Prop} (C : x_C p s m args c cX2_flyPests RX2 gg) (hml : c.maxLocals = 3) (hr : meth.sig.returnType = none) (hlocks : meth.locks = false)   : ∀ (n : Nat) (x0 : Nat) (x1 : Int32) (S : sT), w_X2_flyPests_b64  Q n x0 x1 S → x_X p l e r_X2_flyPests s m args below meth c gg 3 0 0 (MQ below (va_Qv Q (fun S1 t => s_Rep gg S1 t.heap) (s_A gg)) args s 0 0 (s_A gg)) 64 [(0, .ref x0), (1, .int x1)] [] S := by
  obtain ⟨hx, hb, -⟩ := id C
  intro n
  induction n with
  | zero => intro x0 x1 S h; exact absurd h id
  | succ n ih =>
    intro x0 x1 S h H locs ls hR hS hl
    unfold w_X2_flyPests_b64 at h
    refine lv_iload_n hx hb dX2_flyPests_64 rfl (lv_at hl 1 rfl) ?_
    refine lv_aload_n hx hb dX2_flyPests_65 rfl (lv_at hl 0 rfl) ?_
    obtain ⟨hK_x0, h⟩ := h
    refine x_g_97 C hR hK_x0 q_1_22 dX2_flyPests_66 ?_
    obtain ⟨a101, ea101, h⟩ := h
    refine x_some ea101 ?_
    obtain ⟨hK_a101, h⟩ := h
    refine x_ki (x_runV (As := []) (rest := [.int x1]) C hml hR hS (m_Jx4a65c_size_8abf5 l gg a101 S h) b_Jx4a65c_size_8abf5 q_4_7 (by rw [hK_a101]; decide) (s_E_0 hK_a101) rfl rfl rfl rfl ⟨Nat.le_of_ble_eq_true rfl, Nat.le_of_ble_eq_true rfl⟩ rfl hl.1 (Nat.le_of_ble_eq_true rfl) dX2_flyPests_69 ⟨Nat.le_refl _, Nat.le_refl _⟩) hS (fun x103 S102 H locs hn hR hS => ?_)
    replace h := hn
    clear hn
    refine lv_icmp_ge (tgt := 95) hx hb dX2_flyPests_72 (by decide) (fun hc104 => ?_) (fun hc104 => ?_)
    · replace h := h.1 hc104
      exact W.vret hx hb hr (fun t ht hW => ⟨⟨S102, rfl, h, x_rt ht hR⟩, hS.F ht⟩) hS.2.2 dX2_flyPests_95
    · replace h := h.2 hc104
      refine lv_aload_n hx hb dX2_flyPests_75 rfl (lv_at hl 0 rfl) ?_
      obtain ⟨hK_x0, h⟩ := h
      refine x_g_97 C hR hK_x0 q_1_22 dX2_flyPests_76 ?_
      obtain ⟨a105, ea105, h⟩ := h
      refine x_some ea105 ?_
      refine lv_iload_n hx hb dX2_flyPests_79 rfl (lv_at hl 1 rfl) ?_
      obtain ⟨hK_a105, h⟩ := h
      refine x_kq (x_runV (As := [.int x1]) (rest := []) C hml hR hS (m_Jx4a65c_get_915e3 l gg a105 x1 S102 h) b_Jx4a65c_get_915e3 q_8_14 (by rw [hK_a105]; decide) (s_E_0 hK_a105) rfl rfl rfl rfl ⟨Nat.le_of_ble_eq_true rfl, Nat.le_of_ble_eq_true rfl⟩ rfl hl.1 (Nat.le_of_ble_eq_true rfl) dX2_flyPests_80 ⟨Nat.le_refl _, Nat.le_refl _⟩) hS (fun ra107 S106 H locs hn hR hS => ?_)
      replace h := hn
      clear hn
      obtain ⟨a107, za107, h⟩ := h
      refine x_some za107 ?_
      obtain ⟨hK_a107, h⟩ := h
      refine x_cast (ci := 2) C hR (by rw [hK_a107]; decide) (s_E_2 hK_a107) rfl q_20_11 rfl dX2_flyPests_83 ?_
      refine x_kv (x_runV (As := []) (rest := []) C hml hR hS (m_X1_settlePests l gg a107 S106 h) b_X1_settlePests q_24_12 (by rw [hK_a107]; decide) (s_E_2 hK_a107) rfl rfl rfl rfl ⟨Nat.le_of_ble_eq_true rfl, Nat.le_of_ble_eq_true rfl⟩ rfl hl.1 (Nat.le_of_ble_eq_true rfl) dX2_flyPests_86 ⟨Nat.le_refl _, Nat.le_refl _⟩) hS (fun S108 H locs hn hR hS => ?_)
      replace h := hn
      clear hn
      obtain ⟨x109, ex109⟩ : ∃ z : Int32, z = x1 + 1 := ⟨_, rfl⟩
      replace h := h x109 ex109
      refine lv_iinc (v := x109) (lv' := [(1, .int x109), (0, .ref x0)]) hx hb dX2_flyPests_89 hl (k := 1) rfl (by rw [ex109]; rfl) (by decide) rfl (fun ls hl => ?_)
      refine lv_goto (tgt := 64) hx hb dX2_flyPests_92 (by decide) ?_
      exact ih x0 x109 S108 h H locs ls hR hS (lv_sub (l' := [(0, .ref x0), (1, .int x109)]) hl [1, 0] rfl)
set_option maxHeartbeats 4000000 in
theorem t_X2_flyPests_b56 {Q : sT → Prop} (C : x_C p s m args c cX2_flyPests RX2 gg) (hml : c.maxLocals = 3) (hr : meth.sig.returnType = none) (hlocks : meth.locks = false) {x0 : Nat} {x1 : Int32} {kk2 : Nat → Int32 → sT → Prop} {S : sT} (hk2 : ∀ (x0 : Nat) (x1 : Int32) (S : sT), kk2 x0 x1 S → x_X p l e r_X2_flyPests s m args below meth c gg 3 0 0 (MQ below (va_Qv Q (fun S1 t => s_Rep gg S1 t.heap) (s_A gg)) args s 0 0 (s_A gg)) 2 [(0, .ref x0), (1, .int x1)] [] S) (h : w_X2_flyPests_b56 x0 x1 S kk2 Q) : x_X p l e r_X2_flyPests s m args below meth c gg 3 0 0 (MQ below (va_Qv Q (fun S1 t => s_Rep gg S1 t.heap) (s_A gg)) args s 0 0 (s_A gg)) 56 [(0, .ref x0), (1, .int x1)] [] S := by
  unfold w_X2_flyPests_b56 at h
  obtain ⟨hx, hb, -⟩ := id C
  intro H locs ls hR hS hl
  obtain ⟨x101, ex101⟩ : ∃ z : Int32, z = x1 + 1 := ⟨_, rfl⟩
  replace h := h x101 ex101
  refine lv_iinc (v := x101) (lv' := [(1, .int x101), (0, .ref x0)]) hx hb dX2_flyPests_56 hl (k := 1) rfl (by rw [ex101]; rfl) (by decide) rfl (fun ls hl => ?_)
  refine lv_goto (tgt := 2) hx hb dX2_flyPests_59 (by decide) ?_
  exact hk2 x0 x101 S h H locs ls hR hS (lv_sub (l' := [(0, .ref x0), (1, .int x101)]) hl [1, 0] rfl)
set_option maxHeartbeats 4000000 in
theorem t_X2_flyPests_b2 {Q : sT → Prop} (C : x_C p s m args c cX2_flyPests RX2 gg) (hml : c.maxLocals = 3) (hr : meth.sig.returnType = none) (hlocks : meth.locks = false)   : ∀ (n : Nat) (x0 : Nat) (x1 : Int32) (S : sT), w_X2_flyPests_b2  Q n x0 x1 S → x_X p l e r_X2_flyPests s m args below meth c gg 3 0 0 (MQ below (va_Qv Q (fun S1 t => s_Rep gg S1 t.heap) (s_A gg)) args s 0 0 (s_A gg)) 2 [(0, .ref x0), (1, .int x1)] [] S := by
  obtain ⟨hx, hb, -⟩ := id C
  intro n
  induction n with
  | zero => intro x0 x1 S h; exact absurd h id
  | succ n ih =>
    intro x0 x1 S h H locs ls hR hS hl
    unfold w_X2_flyPests_b2 at h
    refine lv_iload_n hx hb dX2_flyPests_2 rfl (lv_at hl 1 rfl) ?_
    refine lv_aload_n hx hb dX2_flyPests_3 rfl (lv_at hl 0 rfl) ?_
    obtain ⟨hK_x0, h⟩ := h
    refine x_g_97 C hR hK_x0 q_1_22 dX2_flyPests_4 ?_
    obtain ⟨a101, ea101, h⟩ := h
    refine x_some ea101 ?_
    obtain ⟨hK_a101, h⟩ := h
    refine x_ki (x_runV (As := []) (rest := [.int x1]) C hml hR hS (m_Jx4a65c_size_8abf5 l gg a101 S h) b_Jx4a65c_size_8abf5 q_4_7 (by rw [hK_a101]; decide) (s_E_0 hK_a101) rfl rfl rfl rfl ⟨Nat.le_of_ble_eq_true rfl, Nat.le_of_ble_eq_true rfl⟩ rfl hl.1 (Nat.le_of_ble_eq_true rfl) dX2_flyPests_7 ⟨Nat.le_refl _, Nat.le_refl _⟩) hS (fun x103 S102 H locs hn hR hS => ?_)
    replace h := hn
    clear hn
    refine lv_icmp_ge (tgt := 62) hx hb dX2_flyPests_10 (by decide) (fun hc104 => ?_) (fun hc104 => ?_)
    · replace h := h.1 hc104
      refine lv_iconst (v := 0) hx hb dX2_flyPests_62 (by decide) ?_
      refine lv_istore_n (lv' := [(1, .int (0 : Int32)), (0, .ref x0)]) hx hb dX2_flyPests_63 rfl hl (by decide) rfl (fun ls hl => ?_)
      obtain ⟨n9, h⟩ := h
      exact t_X2_flyPests_b64 C hml hr hlocks  n9 x0 (0 : Int32) S102 h H locs ls hR hS (lv_sub (l' := [(0, .ref x0), (1, .int (0 : Int32))]) hl [1, 0] rfl)
    · replace h := h.2 hc104
      refine lv_aload_n hx hb dX2_flyPests_13 rfl (lv_at hl 0 rfl) ?_
      obtain ⟨hK_x0, h⟩ := h
      refine x_g_97 C hR hK_x0 q_1_22 dX2_flyPests_14 ?_
      obtain ⟨a105, ea105, h⟩ := h
      refine x_some ea105 ?_
      refine lv_iload_n hx hb dX2_flyPests_17 rfl (lv_at hl 1 rfl) ?_
      obtain ⟨hK_a105, h⟩ := h
      refine x_kq (x_runV (As := [.int x1]) (rest := []) C hml hR hS (m_Jx4a65c_get_915e3 l gg a105 x1 S102 h) b_Jx4a65c_get_915e3 q_8_14 (by rw [hK_a105]; decide) (s_E_0 hK_a105) rfl rfl rfl rfl ⟨Nat.le_of_ble_eq_true rfl, Nat.le_of_ble_eq_true rfl⟩ rfl hl.1 (Nat.le_of_ble_eq_true rfl) dX2_flyPests_18 ⟨Nat.le_refl _, Nat.le_refl _⟩) hS (fun ra107 S106 H locs hn hR hS => ?_)
      replace h := hn
      clear hn
      obtain ⟨a107, za107, h⟩ := h
      refine x_some za107 ?_
      obtain ⟨hK_a107, h⟩ := h
      refine x_cast (ci := 2) C hR (by rw [hK_a107]; decide) (s_E_2 hK_a107) rfl q_20_11 rfl dX2_flyPests_21 ?_
      refine lv_astore_n (lv' := [(2, .ref a107), (0, .ref x0), (1, .int x1)]) hx hb dX2_flyPests_24 rfl hl (by decide) rfl (fun ls hl => ?_)
      refine lv_aload_n hx hb dX2_flyPests_25 rfl (lv_at hl 0 rfl) ?_
      refine x_g_76 C hR hK_a107 q_20_14 dX2_flyPests_26 ?_
      refine lv_topi (fun x108 ex108 => ?_)
      replace h := h x108 ex108
      refine lv_bipush (v := 20) hx hb dX2_flyPests_29 (by decide) ?_
      refine lv_icmp_le (tgt := 56) hx hb dX2_flyPests_31 (by decide) (fun hc109 => ?_) (fun hc109 => ?_)
      · replace h := h.1 hc109
        exact t_X2_flyPests_b56 C hml hr hlocks (fun x0 x1 S h => ih x0 x1 S h) h H locs ls hR hS (lv_sub (l' := [(0, .ref x0), (1, .int x1)]) hl [1, 2] rfl)
      · replace h := h.2 hc109
        refine lv_aload_n hx hb dX2_flyPests_34 rfl (lv_at hl 1 rfl) ?_
        refine lv_aload_n hx hb dX2_flyPests_35 rfl (lv_at hl 0 rfl) ?_
        refine lv_aload_n hx hb dX2_flyPests_36 rfl (lv_at hl 1 rfl) ?_
        refine lv_iload_n hx hb dX2_flyPests_37 rfl (lv_at hl 2 rfl) ?_
        refine lv_iconst (v := (-1)) hx hb dX2_flyPests_38 (by decide) ?_
        obtain ⟨hK_x0, h⟩ := h
        refine x_kq (x_runV (As := [.int x1, .int (-1 : Int32)]) (rest := [.ref a107, .ref x0]) C hml hR hS (m_X2_nearestOnTheStalk l gg x0 x1 (-1 : Int32) S106 h) b_X2_nearestOnTheStalk q_24_2 (by rw [hK_x0]; decide) (s_E_3 hK_x0) rfl rfl rfl rfl ⟨Nat.le_of_ble_eq_true rfl, Nat.le_of_ble_eq_true rfl⟩ rfl hl.1 (Nat.le_of_ble_eq_true rfl) dX2_flyPests_39 ⟨Nat.le_refl _, Nat.le_refl _⟩) hS (fun r111 S110 H locs hn hR hS => ?_)
        replace h := hn
        clear hn
        obtain ⟨hK_x0, h⟩ := h
        refine x_kv (x_runV (As := [.ref a107, va_rf r111]) (rest := []) C hml hR hS (m_X2_flyFrom l gg x0 a107 r111 S110 h) b_X2_flyFrom q_24_7 (by rw [hK_x0]; decide) (s_E_3 hK_x0) rfl rfl rfl rfl ⟨Nat.le_of_ble_eq_true rfl, Nat.le_of_ble_eq_true rfl⟩ rfl hl.1 (Nat.le_of_ble_eq_true rfl) dX2_flyPests_42 ⟨Nat.le_refl _, Nat.le_refl _⟩) hS (fun S112 H locs hn hR hS => ?_)
        replace h := hn
        clear hn
        refine lv_aload_n hx hb dX2_flyPests_45 rfl (lv_at hl 1 rfl) ?_
        refine lv_aload_n hx hb dX2_flyPests_46 rfl (lv_at hl 0 rfl) ?_
        refine lv_aload_n hx hb dX2_flyPests_47 rfl (lv_at hl 1 rfl) ?_
        refine lv_iload_n hx hb dX2_flyPests_48 rfl (lv_at hl 2 rfl) ?_
        refine lv_iconst (v := 1) hx hb dX2_flyPests_49 (by decide) ?_
        obtain ⟨hK_x0, h⟩ := h
        refine x_kq (x_runV (As := [.int x1, .int (1 : Int32)]) (rest := [.ref a107, .ref x0]) C hml hR hS (m_X2_nearestOnTheStalk l gg x0 x1 (1 : Int32) S112 h) b_X2_nearestOnTheStalk q_24_2 (by rw [hK_x0]; decide) (s_E_3 hK_x0) rfl rfl rfl rfl ⟨Nat.le_of_ble_eq_true rfl, Nat.le_of_ble_eq_true rfl⟩ rfl hl.1 (Nat.le_of_ble_eq_true rfl) dX2_flyPests_50 ⟨Nat.le_refl _, Nat.le_refl _⟩) hS (fun r114 S113 H locs hn hR hS => ?_)
        replace h := hn
        clear hn
        obtain ⟨hK_x0, h⟩ := h
        refine x_kv (x_runV (As := [.ref a107, va_rf r114]) (rest := []) C hml hR hS (m_X2_flyFrom l gg x0 a107 r114 S113 h) b_X2_flyFrom q_24_7 (by rw [hK_x0]; decide) (s_E_3 hK_x0) rfl rfl rfl rfl ⟨Nat.le_of_ble_eq_true rfl, Nat.le_of_ble_eq_true rfl⟩ rfl hl.1 (Nat.le_of_ble_eq_true rfl) dX2_flyPests_53 ⟨Nat.le_refl _, Nat.le_refl _⟩) hS (fun S115 H locs hn hR hS => ?_)
        replace h := hn
        clear hn
        exact t_X2_flyPests_b56 C hml hr hlocks (fun x0 x1 S h => ih x0 x1 S h) h H locs ls hR hS (lv_sub (l' := [(0, .ref x0), (1, .int x1)]) hl [1, 2] rfl)
set_option maxHeartbeats 4000000 in
theorem t_X2_flyPests_b0 {Q : sT → Prop} (C : x_C p s m args c cX2_flyPests RX2 gg) (hml : c.maxLocals = 3) (hr : meth.sig.returnType = none) (hlocks : meth.locks = false) {x0 : Nat}  {S : sT}  (h : w_X2_flyPests_b0 x0 S  Q) : x_X p l e r_X2_flyPests s m args below meth c gg 3 0 0 (MQ below (va_Qv Q (fun S1 t => s_Rep gg S1 t.heap) (s_A gg)) args s 0 0 (s_A gg)) 0 [(0, .ref x0)] [] S := by
  unfold w_X2_flyPests_b0 at h
  obtain ⟨hx, hb, -⟩ := id C
  intro H locs ls hR hS hl
  refine lv_iconst (v := 0) hx hb dX2_flyPests_0 (by decide) ?_
  refine lv_istore_n (lv' := [(1, .int (0 : Int32)), (0, .ref x0)]) hx hb dX2_flyPests_1 rfl hl (by decide) rfl (fun ls hl => ?_)
  obtain ⟨n9, h⟩ := h
  exact t_X2_flyPests_b2 C hml hr hlocks  n9 x0 (0 : Int32) S h H locs ls hR hS (lv_sub (l' := [(0, .ref x0), (1, .int (0 : Int32))]) hl [1, 0] rfl)
theorem m_X2_flyPests (l : Launch) (gg : sG) (x0 : Nat) (S : sT) {Q : sT → Prop} (h : w_X2_flyPests x0 S Q) : x_Mv l gg yX2_flyPests (x_ws yX2_flyPests cX2_flyPests 3 none) r_X2_flyPests [.ref x0] S Q 0 0 := by
  refine x_ofW (cc := cX2_flyPests) (own := RX2) (by decide +kernel) rfl (Nat.le_of_ble_eq_true rfl) ?_
  intro p e s m args below meth c C hml hr hlocks hin ht H locs ls hR hS hl
  exact t_X2_flyPests_b0 C hml hr hlocks h H locs ls hR hS (lv_sub (l' := [(0, .ref x0)]) hl [0] rfl)
def w_X2_splitAtWeir_b61  (Q : sT → Prop) : Nat → Nat → Int32 → Int32 → Int32 → sT → Prop
  | 0 => fun _ _ _ _ _ => False
  | n + 1 => fun x0 x2 x3 x4 S =>
s_K S x0 = 4 ∧
    ∃ a101 : Nat, s_R S 96 x0 = some a101 ∧
    s_K S a101 = 1 ∧
    w_Jx4a65c_size_8abf5 a101 S (fun x103 S102 =>
    ((x103 ≤ x4 → Q S102) ∧
    (¬ x103 ≤ x4 → s_K S102 x0 = 4 ∧
    ∃ a105 : Nat, s_R S102 96 x0 = some a105 ∧
    s_K S102 a105 = 1 ∧
    w_Jx4a65c_get_915e3 a105 x4 S102 (fun a107 S106 =>
    s_K S106 a107 = 7 ∧
    ∀ x108 : Int32, x108 = s_I S106 193 a107 →
    ∀ x109 : Int32, x109 = x2 * x108 →
    ¬ x3 = 0 ∧
    ∀ x111 : Int32, x111 = x109 / x3 →
    ∀ S112 : sT, S112 = s_sI S106 201 a107 x111 →
    s_K S112 x0 = 4 ∧
    ∀ x113 : Int32, x113 = s_I S112 100 x0 →
    ∀ x114 : Int32, x114 = s_I S112 201 a107 →
    ∀ x115 : Int32, x115 = x113 - x114 →
    ∀ S116 : sT, S116 = s_sI S112 100 x0 x115 →
    ∀ x117 : Int32, x117 = x4 + 1 →
    w_X2_splitAtWeir_b61  Q n x0 x2 x3 x117 S116))))
def w_X2_splitAtWeir_b12  (Q : sT → Prop) : Nat → Nat → Int32 → Int32 → Int32 → sT → Prop
  | 0 => fun _ _ _ _ _ => False
  | n + 1 => fun x0 x2 x3 x4 S =>
s_K S x0 = 4 ∧
    ∃ a101 : Nat, s_R S 96 x0 = some a101 ∧
    s_K S a101 = 1 ∧
    w_Jx4a65c_size_8abf5 a101 S (fun x103 S102 =>
    ((x103 ≤ x4 → s_K S102 x0 = 4 ∧
    ∀ S105 : sT, S105 = s_sI S102 100 x0 x2 →
    ((0 < x3 → ∃ n9 : Nat, w_X2_splitAtWeir_b61  Q n9 x0 x2 x3 (0 : Int32) S105) ∧
    (¬ 0 < x3 → Q S105))) ∧
    (¬ x103 ≤ x4 → s_K S102 x0 = 4 ∧
    ∃ a107 : Nat, s_R S102 96 x0 = some a107 ∧
    s_K S102 a107 = 1 ∧
    w_Jx4a65c_get_915e3 a107 x4 S102 (fun a109 S108 =>
    s_K S108 a109 = 7 ∧
    ∀ x110 : Int32, x110 = s_I S108 193 a109 →
    ∀ x111 : Int32, x111 = x3 + x110 →
    ∀ x112 : Int32, x112 = x4 + 1 →
    w_X2_splitAtWeir_b12  Q n x0 x2 x111 x112 S108))))
def w_X2_splitAtWeir_b0 (x0 : Nat) (x1 : Int32) (S : sT)  (Q : sT → Prop) : Prop :=
s_K S x0 = 4 ∧
    ∀ x101 : Int32, x101 = s_I S 100 x0 →
    ∀ x102 : Int32, x102 = x1 + x101 →
    ∃ n9 : Nat, w_X2_splitAtWeir_b12  Q n9 x0 x102 (0 : Int32) (0 : Int32) S
def w_X2_splitAtWeir (x0 : Nat) (x1 : Int32) (S : sT) (Q : sT → Prop) : Prop := w_X2_splitAtWeir_b0 x0 x1 S Q
def r_X2_splitAtWeir : Room := x_rm 3 64 0 0
theorem b_X2_splitAtWeir : x_BV yX2_splitAtWeir cX2_splitAtWeir 6 none 1 := ⟨q_20_18, q_20_16, q_20_17, q_1_12, by decide +kernel⟩
set_option maxHeartbeats 4000000 in
theorem t_X2_splitAtWeir_b61 {Q : sT → Prop} (C : x_C p s m args c cX2_splitAtWeir RX2 gg) (hml : c.maxLocals = 6) (hr : meth.sig.returnType = none) (hlocks : meth.locks = false)   : ∀ (n : Nat) (x0 : Nat) (x2 : Int32) (x3 : Int32) (x4 : Int32) (S : sT), w_X2_splitAtWeir_b61  Q n x0 x2 x3 x4 S → x_X p l e r_X2_splitAtWeir s m args below meth c gg 6 0 0 (MQ below (va_Qv Q (fun S1 t => s_Rep gg S1 t.heap) (s_A gg)) args s 0 0 (s_A gg)) 61 [(0, .ref x0), (2, .int x2), (3, .int x3), (4, .int x4)] [] S := by
  obtain ⟨hx, hb, -⟩ := id C
  intro n
  induction n with
  | zero => intro x0 x2 x3 x4 S h; exact absurd h id
  | succ n ih =>
    intro x0 x2 x3 x4 S h H locs ls hR hS hl
    unfold w_X2_splitAtWeir_b61 at h
    refine lv_iload hx hb dX2_splitAtWeir_61 (lv_at hl 3 rfl) ?_
    refine lv_aload_n hx hb dX2_splitAtWeir_63 rfl (lv_at hl 0 rfl) ?_
    obtain ⟨hK_x0, h⟩ := h
    refine x_g_96 C hR hK_x0 q_1_21 dX2_splitAtWeir_64 ?_
    obtain ⟨a101, ea101, h⟩ := h
    refine x_some ea101 ?_
    obtain ⟨hK_a101, h⟩ := h
    refine x_ki (x_runV (As := []) (rest := [.int x4]) C hml hR hS (m_Jx4a65c_size_8abf5 l gg a101 S h) b_Jx4a65c_size_8abf5 q_4_7 (by rw [hK_a101]; decide) (s_E_0 hK_a101) rfl rfl rfl rfl ⟨Nat.le_of_ble_eq_true rfl, Nat.le_of_ble_eq_true rfl⟩ rfl hl.1 (Nat.le_of_ble_eq_true rfl) dX2_splitAtWeir_67 ⟨Nat.le_refl _, Nat.le_refl _⟩) hS (fun x103 S102 H locs hn hR hS => ?_)
    replace h := hn
    clear hn
    refine lv_icmp_ge (tgt := 121) hx hb dX2_splitAtWeir_70 (by decide) (fun hc104 => ?_) (fun hc104 => ?_)
    · replace h := h.1 hc104
      exact W.vret hx hb hr (fun t ht hW => ⟨⟨S102, rfl, h, x_rt ht hR⟩, hS.F ht⟩) hS.2.2 dX2_splitAtWeir_121
    · replace h := h.2 hc104
      refine lv_aload_n hx hb dX2_splitAtWeir_73 rfl (lv_at hl 0 rfl) ?_
      obtain ⟨hK_x0, h⟩ := h
      refine x_g_96 C hR hK_x0 q_1_21 dX2_splitAtWeir_74 ?_
      obtain ⟨a105, ea105, h⟩ := h
      refine x_some ea105 ?_
      refine lv_iload hx hb dX2_splitAtWeir_77 (lv_at hl 3 rfl) ?_
      obtain ⟨hK_a105, h⟩ := h
      refine x_kq (x_runV (As := [.int x4]) (rest := []) C hml hR hS (m_Jx4a65c_get_915e3 l gg a105 x4 S102 h) b_Jx4a65c_get_915e3 q_8_14 (by rw [hK_a105]; decide) (s_E_0 hK_a105) rfl rfl rfl rfl ⟨Nat.le_of_ble_eq_true rfl, Nat.le_of_ble_eq_true rfl⟩ rfl hl.1 (Nat.le_of_ble_eq_true rfl) dX2_splitAtWeir_79 ⟨Nat.le_refl _, Nat.le_refl _⟩) hS (fun ra107 S106 H locs hn hR hS => ?_)
      replace h := hn
      clear hn
      obtain ⟨a107, za107, h⟩ := h
      refine x_some za107 ?_
      obtain ⟨hK_a107, h⟩ := h
      refine x_cast (ci := 6) C hR (by rw [hK_a107]; decide) (s_E_6 hK_a107) rfl q_8_9 rfl dX2_splitAtWeir_82 ?_
      refine lv_astore (lv' := [(5, .ref a107), (0, .ref x0), (2, .int x2), (3, .int x3), (4, .int x4)]) hx hb dX2_splitAtWeir_85 hl (by decide) rfl (fun ls hl => ?_)
      refine lv_aload hx hb dX2_splitAtWeir_87 (lv_at hl 0 rfl) ?_
      refine lv_iload_n hx hb dX2_splitAtWeir_89 rfl (lv_at hl 2 rfl) ?_
      refine lv_aload hx hb dX2_splitAtWeir_90 (lv_at hl 0 rfl) ?_
      refine x_g_193 C hR hK_a107 q_20_20 dX2_splitAtWeir_92 ?_
      refine lv_topi (fun x108 ex108 => ?_)
      replace h := h x108 ex108
      refine lv_imul hx hb dX2_splitAtWeir_95 ?_
      refine lv_topi (fun x109 ex109 => ?_)
      replace h := h x109 ex109
      refine lv_iload_n hx hb dX2_splitAtWeir_96 rfl (lv_at hl 3 rfl) ?_
      obtain ⟨hd110, h⟩ := h
      refine lv_idiv hx hb dX2_splitAtWeir_97 hd110 ?_
      refine lv_topi (fun x111 ex111 => ?_)
      replace h := h x111 ex111
      refine x_p_201 (v := x111) C hR hK_a107 hS q_20_21 dX2_splitAtWeir_98 (fun H locs hR hS => ?_)
      obtain ⟨S112, eS112⟩ : ∃ z : sT, z = s_sI S106 201 a107 x111 := ⟨_, rfl⟩
      rw [← eS112] at hR
      replace h := h S112 eS112
      have hK_a107 : s_K S112 a107 = 7 := by rw [eS112]; exact hK_a107
      refine lv_aload_n hx hb dX2_splitAtWeir_101 rfl (lv_at hl 1 rfl) ?_
      refine lv_dup hx hb dX2_splitAtWeir_102 rfl ?_
      obtain ⟨hK_x0, h⟩ := h
      refine x_g_100 C hR hK_x0 q_20_19 dX2_splitAtWeir_103 ?_
      refine lv_topi (fun x113 ex113 => ?_)
      replace h := h x113 ex113
      refine lv_aload hx hb dX2_splitAtWeir_106 (lv_at hl 0 rfl) ?_
      refine x_g_201 C hR hK_a107 q_20_21 dX2_splitAtWeir_108 ?_
      refine lv_topi (fun x114 ex114 => ?_)
      replace h := h x114 ex114
      refine lv_isub hx hb dX2_splitAtWeir_111 ?_
      refine lv_topi (fun x115 ex115 => ?_)
      replace h := h x115 ex115
      refine x_p_100 (v := x115) C hR hK_x0 hS q_20_19 dX2_splitAtWeir_112 (fun H locs hR hS => ?_)
      obtain ⟨S116, eS116⟩ : ∃ z : sT, z = s_sI S112 100 x0 x115 := ⟨_, rfl⟩
      rw [← eS116] at hR
      replace h := h S116 eS116
      have hK_a107 : s_K S116 a107 = 7 := by rw [eS116]; exact hK_a107
      have hK_x0 : s_K S116 x0 = 4 := by rw [eS116]; exact hK_x0
      obtain ⟨x117, ex117⟩ : ∃ z : Int32, z = x4 + 1 := ⟨_, rfl⟩
      replace h := h x117 ex117
      refine lv_iinc (v := x117) (lv' := [(4, .int x117), (5, .ref a107), (0, .ref x0), (2, .int x2), (3, .int x3)]) hx hb dX2_splitAtWeir_115 hl (k := 4) rfl (by rw [ex117]; rfl) (by decide) rfl (fun ls hl => ?_)
      refine lv_goto (tgt := 61) hx hb dX2_splitAtWeir_118 (by decide) ?_
      exact ih x0 x2 x3 x117 S116 h H locs ls hR hS (lv_sub (l' := [(0, .ref x0), (2, .int x2), (3, .int x3), (4, .int x117)]) hl [2, 3, 4, 0] rfl)
set_option maxHeartbeats 4000000 in
theorem t_X2_splitAtWeir_b12 {Q : sT → Prop} (C : x_C p s m args c cX2_splitAtWeir RX2 gg) (hml : c.maxLocals = 6) (hr : meth.sig.returnType = none) (hlocks : meth.locks = false)   : ∀ (n : Nat) (x0 : Nat) (x2 : Int32) (x3 : Int32) (x4 : Int32) (S : sT), w_X2_splitAtWeir_b12  Q n x0 x2 x3 x4 S → x_X p l e r_X2_splitAtWeir s m args below meth c gg 6 0 0 (MQ below (va_Qv Q (fun S1 t => s_Rep gg S1 t.heap) (s_A gg)) args s 0 0 (s_A gg)) 12 [(0, .ref x0), (2, .int x2), (3, .int x3), (4, .int x4)] [] S := by
  obtain ⟨hx, hb, -⟩ := id C
  intro n
  induction n with
  | zero => intro x0 x2 x3 x4 S h; exact absurd h id
  | succ n ih =>
    intro x0 x2 x3 x4 S h H locs ls hR hS hl
    unfold w_X2_splitAtWeir_b12 at h
    refine lv_iload hx hb dX2_splitAtWeir_12 (lv_at hl 3 rfl) ?_
    refine lv_aload_n hx hb dX2_splitAtWeir_14 rfl (lv_at hl 0 rfl) ?_
    obtain ⟨hK_x0, h⟩ := h
    refine x_g_96 C hR hK_x0 q_1_21 dX2_splitAtWeir_15 ?_
    obtain ⟨a101, ea101, h⟩ := h
    refine x_some ea101 ?_
    obtain ⟨hK_a101, h⟩ := h
    refine x_ki (x_runV (As := []) (rest := [.int x4]) C hml hR hS (m_Jx4a65c_size_8abf5 l gg a101 S h) b_Jx4a65c_size_8abf5 q_4_7 (by rw [hK_a101]; decide) (s_E_0 hK_a101) rfl rfl rfl rfl ⟨Nat.le_of_ble_eq_true rfl, Nat.le_of_ble_eq_true rfl⟩ rfl hl.1 (Nat.le_of_ble_eq_true rfl) dX2_splitAtWeir_18 ⟨Nat.le_refl _, Nat.le_refl _⟩) hS (fun x103 S102 H locs hn hR hS => ?_)
    replace h := hn
    clear hn
    refine lv_icmp_ge (tgt := 48) hx hb dX2_splitAtWeir_21 (by decide) (fun hc104 => ?_) (fun hc104 => ?_)
    · replace h := h.1 hc104
      refine lv_aload_n hx hb dX2_splitAtWeir_48 rfl (lv_at hl 0 rfl) ?_
      refine lv_iload_n hx hb dX2_splitAtWeir_49 rfl (lv_at hl 1 rfl) ?_
      obtain ⟨hK_x0, h⟩ := h
      refine x_p_100 (v := x2) C hR hK_x0 hS q_20_19 dX2_splitAtWeir_50 (fun H locs hR hS => ?_)
      obtain ⟨S105, eS105⟩ : ∃ z : sT, z = s_sI S102 100 x0 x2 := ⟨_, rfl⟩
      rw [← eS105] at hR
      replace h := h S105 eS105
      have hK_x0 : s_K S105 x0 = 4 := by rw [eS105]; exact hK_x0
      refine lv_iload_n hx hb dX2_splitAtWeir_53 rfl (lv_at hl 2 rfl) ?_
      refine lv_if_gt (tgt := 58) hx hb dX2_splitAtWeir_54 (by decide) (fun hc106 => ?_) (fun hc106 => ?_)
      · replace h := h.1 hc106
        refine lv_iconst (v := 0) hx hb dX2_splitAtWeir_58 (by decide) ?_
        refine lv_istore (lv' := [(4, .int (0 : Int32)), (0, .ref x0), (2, .int x2), (3, .int x3)]) hx hb dX2_splitAtWeir_59 hl (by decide) rfl (fun ls hl => ?_)
        obtain ⟨n9, h⟩ := h
        exact t_X2_splitAtWeir_b61 C hml hr hlocks  n9 x0 x2 x3 (0 : Int32) S105 h H locs ls hR hS (lv_sub (l' := [(0, .ref x0), (2, .int x2), (3, .int x3), (4, .int (0 : Int32))]) hl [1, 2, 3, 0] rfl)
      · replace h := h.2 hc106
        exact W.vret hx hb hr (fun t ht hW => ⟨⟨S105, rfl, h, x_rt ht hR⟩, hS.F ht⟩) hS.2.2 dX2_splitAtWeir_57
    · replace h := h.2 hc104
      refine lv_iload_n hx hb dX2_splitAtWeir_24 rfl (lv_at hl 2 rfl) ?_
      refine lv_aload_n hx hb dX2_splitAtWeir_25 rfl (lv_at hl 0 rfl) ?_
      obtain ⟨hK_x0, h⟩ := h
      refine x_g_96 C hR hK_x0 q_1_21 dX2_splitAtWeir_26 ?_
      obtain ⟨a107, ea107, h⟩ := h
      refine x_some ea107 ?_
      refine lv_iload hx hb dX2_splitAtWeir_29 (lv_at hl 3 rfl) ?_
      obtain ⟨hK_a107, h⟩ := h
      refine x_kq (x_runV (As := [.int x4]) (rest := [.int x3]) C hml hR hS (m_Jx4a65c_get_915e3 l gg a107 x4 S102 h) b_Jx4a65c_get_915e3 q_8_14 (by rw [hK_a107]; decide) (s_E_0 hK_a107) rfl rfl rfl rfl ⟨Nat.le_of_ble_eq_true rfl, Nat.le_of_ble_eq_true rfl⟩ rfl hl.1 (Nat.le_of_ble_eq_true rfl) dX2_splitAtWeir_31 ⟨Nat.le_refl _, Nat.le_refl _⟩) hS (fun ra109 S108 H locs hn hR hS => ?_)
      replace h := hn
      clear hn
      obtain ⟨a109, za109, h⟩ := h
      refine x_some za109 ?_
      obtain ⟨hK_a109, h⟩ := h
      refine x_cast (ci := 6) C hR (by rw [hK_a109]; decide) (s_E_6 hK_a109) rfl q_8_9 rfl dX2_splitAtWeir_34 ?_
      refine x_g_193 C hR hK_a109 q_20_20 dX2_splitAtWeir_37 ?_
      refine lv_topi (fun x110 ex110 => ?_)
      replace h := h x110 ex110
      refine lv_iadd hx hb dX2_splitAtWeir_40 ?_
      refine lv_topi (fun x111 ex111 => ?_)
      replace h := h x111 ex111
      refine lv_istore_n (lv' := [(3, .int x111), (0, .ref x0), (2, .int x2), (4, .int x4)]) hx hb dX2_splitAtWeir_41 rfl hl (by decide) rfl (fun ls hl => ?_)
      obtain ⟨x112, ex112⟩ : ∃ z : Int32, z = x4 + 1 := ⟨_, rfl⟩
      replace h := h x112 ex112
      refine lv_iinc (v := x112) (lv' := [(4, .int x112), (3, .int x111), (0, .ref x0), (2, .int x2)]) hx hb dX2_splitAtWeir_42 hl (k := 3) rfl (by rw [ex112]; rfl) (by decide) rfl (fun ls hl => ?_)
      refine lv_goto (tgt := 12) hx hb dX2_splitAtWeir_45 (by decide) ?_
      exact ih x0 x2 x111 x112 S108 h H locs ls hR hS (lv_sub (l' := [(0, .ref x0), (2, .int x2), (3, .int x111), (4, .int x112)]) hl [2, 3, 1, 0] rfl)
set_option maxHeartbeats 4000000 in
theorem t_X2_splitAtWeir_b0 {Q : sT → Prop} (C : x_C p s m args c cX2_splitAtWeir RX2 gg) (hml : c.maxLocals = 6) (hr : meth.sig.returnType = none) (hlocks : meth.locks = false) {x0 : Nat} {x1 : Int32}  {S : sT}  (h : w_X2_splitAtWeir_b0 x0 x1 S  Q) : x_X p l e r_X2_splitAtWeir s m args below meth c gg 6 0 0 (MQ below (va_Qv Q (fun S1 t => s_Rep gg S1 t.heap) (s_A gg)) args s 0 0 (s_A gg)) 0 [(0, .ref x0), (1, .int x1)] [] S := by
  unfold w_X2_splitAtWeir_b0 at h
  obtain ⟨hx, hb, -⟩ := id C
  intro H locs ls hR hS hl
  refine lv_iload_n hx hb dX2_splitAtWeir_0 rfl (lv_at hl 1 rfl) ?_
  refine lv_aload_n hx hb dX2_splitAtWeir_1 rfl (lv_at hl 0 rfl) ?_
  obtain ⟨hK_x0, h⟩ := h
  refine x_g_100 C hR hK_x0 q_20_19 dX2_splitAtWeir_2 ?_
  refine lv_topi (fun x101 ex101 => ?_)
  replace h := h x101 ex101
  refine lv_iadd hx hb dX2_splitAtWeir_5 ?_
  refine lv_topi (fun x102 ex102 => ?_)
  replace h := h x102 ex102
  refine lv_istore_n (lv' := [(2, .int x102), (0, .ref x0), (1, .int x1)]) hx hb dX2_splitAtWeir_6 rfl hl (by decide) rfl (fun ls hl => ?_)
  refine lv_iconst (v := 0) hx hb dX2_splitAtWeir_7 (by decide) ?_
  refine lv_istore_n (lv' := [(3, .int (0 : Int32)), (2, .int x102), (0, .ref x0), (1, .int x1)]) hx hb dX2_splitAtWeir_8 rfl hl (by decide) rfl (fun ls hl => ?_)
  refine lv_iconst (v := 0) hx hb dX2_splitAtWeir_9 (by decide) ?_
  refine lv_istore (lv' := [(4, .int (0 : Int32)), (3, .int (0 : Int32)), (2, .int x102), (0, .ref x0), (1, .int x1)]) hx hb dX2_splitAtWeir_10 hl (by decide) rfl (fun ls hl => ?_)
  obtain ⟨n9, h⟩ := h
  exact t_X2_splitAtWeir_b12 C hml hr hlocks  n9 x0 x102 (0 : Int32) (0 : Int32) S h H locs ls hR hS (lv_sub (l' := [(0, .ref x0), (2, .int x102), (3, .int (0 : Int32)), (4, .int (0 : Int32))]) hl [3, 2, 1, 0] rfl)
theorem m_X2_splitAtWeir (l : Launch) (gg : sG) (x0 : Nat) (x1 : Int32) (S : sT) {Q : sT → Prop} (h : w_X2_splitAtWeir x0 x1 S Q) : x_Mv l gg yX2_splitAtWeir (x_ws yX2_splitAtWeir cX2_splitAtWeir 6 none) r_X2_splitAtWeir [.ref x0, .int x1] S Q 0 0 := by
  refine x_ofW (cc := cX2_splitAtWeir) (own := RX2) (by decide +kernel) rfl (Nat.le_of_ble_eq_true rfl) ?_
  intro p e s m args below meth c C hml hr hlocks hin ht H locs ls hR hS hl
  exact t_X2_splitAtWeir_b0 C hml hr hlocks h H locs ls hR hS (lv_sub (l' := [(0, .ref x0), (1, .int x1)]) hl [0, 1] rfl)
def w_X2_passDay_b104  (Q : sT → Prop) : Nat → Nat → Int32 → Int32 → Int32 → sT → Prop
  | 0 => fun _ _ _ _ _ => False
  | n + 1 => fun x0 x2 x3 x5 S =>
s_K S x0 = 4 ∧
    ∃ a101 : Nat, s_R S 97 x0 = some a101 ∧
    s_K S a101 = 1 ∧
    w_Jx4a65c_size_8abf5 a101 S (fun x103 S102 =>
    ((x103 ≤ x5 → s_K S102 x0 = 4 ∧
    w_X2_flyPests x0 S102 (fun S105 =>
    Q S105)) ∧
    (¬ x103 ≤ x5 → s_K S102 x0 = 4 ∧
    ∃ a106 : Nat, s_R S102 97 x0 = some a106 ∧
    s_K S102 a106 = 1 ∧
    w_Jx4a65c_get_915e3 a106 x5 S102 (fun a108 S107 =>
    s_K S107 a108 = 3 ∧
    s_K S107 x0 = 4 ∧
    ∃ a109 : Nat, s_R S107 98 x0 = some a109 ∧
    w_X1_passWater a108 x3 a109 S107 (fun S110 =>
    s_K S110 a108 = 3 ∧
    w_X1_dryOut a108 S110 (fun S111 =>
    s_K S111 a108 = 3 ∧
    ∃ a112 : Nat, s_R S111 69 a108 = some a112 ∧
    ∀ x113 : Int32, x113 = s_I S111 73 a108 →
    ∀ x114 : Int32, x114 = s_I S111 76 a108 →
    s_K S111 a112 = 2 ∧
    w_X0_grow a112 x113 x114 x2 S111 (fun S115 =>
    s_K S115 a108 = 3 ∧
    w_X1_breedPests a108 S115 (fun S116 =>
    ∀ x117 : Int32, x117 = x5 + 1 →
    w_X2_passDay_b104  Q n x0 x2 x3 x117 S116))))))))
def w_X2_passDay_b62  (Q : sT → Prop) : Nat → Nat → Int32 → Int32 → Int32 → Int32 → sT → Prop
  | 0 => fun _ _ _ _ _ _ => False
  | n + 1 => fun x0 x2 x3 x4 x5 S =>
s_K S x0 = 4 ∧
    ∃ a101 : Nat, s_R S 96 x0 = some a101 ∧
    s_K S a101 = 1 ∧
    w_Jx4a65c_size_8abf5 a101 S (fun x103 S102 =>
    ((x103 ≤ x5 → ∃ n9 : Nat, w_X2_passDay_b104  Q n9 x0 x2 x3 (0 : Int32) S102) ∧
    (¬ x103 ≤ x5 → s_K S102 x0 = 4 ∧
    ∃ a105 : Nat, s_R S102 96 x0 = some a105 ∧
    s_K S102 a105 = 1 ∧
    w_Jx4a65c_get_915e3 a105 x5 S102 (fun a107 S106 =>
    s_K S106 a107 = 7 ∧
    s_K S106 x0 = 4 ∧
    ∃ a108 : Nat, s_R S106 98 x0 = some a108 ∧
    w_X5_shareOut a107 x4 a108 S106 (fun S109 =>
    ∀ x110 : Int32, x110 = x5 + 1 →
    w_X2_passDay_b62  Q n x0 x2 x3 x4 x110 S109)))))
def w_X2_passDay_b0 (x0 : Nat) (x1 : Int32) (x2 : Int32) (x3 : Int32) (S : sT)  (Q : sT → Prop) : Prop :=
s_K S x0 = 4 ∧
    ∀ x101 : Int32, x101 = s_I S 99 x0 →
    ∀ x102 : Int32, x102 = x101 + (1 : Int32) →
    ∀ S103 : sT, S103 = s_sI S 99 x0 x102 →
    ∀ S104 : sT, S104 = s_sI S103 103 x0 x1 →
    ∀ S105 : sT, S105 = s_sI S104 104 x0 x2 →
    ∀ S106 : sT, S106 = s_sI S105 105 x0 x3 →
    ∃ a107 : Nat, s_R S106 98 x0 = some a107 ∧
    s_K S106 a107 = 5 ∧
    ∀ x108 : Int32, x108 = s_I S106 128 a107 →
    ∃ a109 : Nat, s_R S106 97 x0 = some a109 ∧
    s_K S106 a109 = 1 ∧
    w_Jx4a65c_size_8abf5 a109 S106 (fun x111 S110 =>
    ∀ x112 : Int32, x112 = x3 * x111 →
    ∀ x113 : Int32, x113 = x1 + x112 →
    ∀ x114 : Int32, x114 = x108 + x113 →
    s_K S110 a107 = 5 ∧
    ∀ S115 : sT, S115 = s_sI S110 128 a107 x114 →
    s_K S115 x0 = 4 ∧
    w_X2_splitAtWeir x0 x1 S115 (fun S116 =>
    s_K S116 x0 = 4 ∧
    w_X2_templeDay x0 S116 (fun x118 S117 =>
    ∃ n9 : Nat, w_X2_passDay_b62  Q n9 x0 x2 x3 x118 (0 : Int32) S117)))
def w_X2_passDay (x0 : Nat) (x1 : Int32) (x2 : Int32) (x3 : Int32) (S : sT) (Q : sT → Prop) : Prop := w_X2_passDay_b0 x0 x1 x2 x3 S Q
def r_X2_passDay : Room := x_rm 5 113 0 0
theorem b_X2_passDay : x_BV yX2_passDay cX2_passDay 7 none 3 := ⟨q_20_6, q_20_4, q_20_5, q_1_12, by decide +kernel⟩
set_option maxHeartbeats 4000000 in
theorem t_X2_passDay_b104 {Q : sT → Prop} (C : x_C p s m args c cX2_passDay RX2 gg) (hml : c.maxLocals = 7) (hr : meth.sig.returnType = none) (hlocks : meth.locks = false)   : ∀ (n : Nat) (x0 : Nat) (x2 : Int32) (x3 : Int32) (x5 : Int32) (S : sT), w_X2_passDay_b104  Q n x0 x2 x3 x5 S → x_X p l e r_X2_passDay s m args below meth c gg 7 0 0 (MQ below (va_Qv Q (fun S1 t => s_Rep gg S1 t.heap) (s_A gg)) args s 0 0 (s_A gg)) 104 [(0, .ref x0), (2, .int x2), (3, .int x3), (5, .int x5)] [] S := by
  obtain ⟨hx, hb, -⟩ := id C
  intro n
  induction n with
  | zero => intro x0 x2 x3 x5 S h; exact absurd h id
  | succ n ih =>
    intro x0 x2 x3 x5 S h H locs ls hR hS hl
    unfold w_X2_passDay_b104 at h
    refine lv_iload hx hb dX2_passDay_104 (lv_at hl 3 rfl) ?_
    refine lv_aload_n hx hb dX2_passDay_106 rfl (lv_at hl 0 rfl) ?_
    obtain ⟨hK_x0, h⟩ := h
    refine x_g_97 C hR hK_x0 q_1_22 dX2_passDay_107 ?_
    obtain ⟨a101, ea101, h⟩ := h
    refine x_some ea101 ?_
    obtain ⟨hK_a101, h⟩ := h
    refine x_ki (x_runV (As := []) (rest := [.int x5]) C hml hR hS (m_Jx4a65c_size_8abf5 l gg a101 S h) b_Jx4a65c_size_8abf5 q_4_7 (by rw [hK_a101]; decide) (s_E_0 hK_a101) rfl rfl rfl rfl ⟨Nat.le_of_ble_eq_true rfl, Nat.le_of_ble_eq_true rfl⟩ rfl hl.1 (Nat.le_of_ble_eq_true rfl) dX2_passDay_110 ⟨Nat.le_refl _, Nat.le_refl _⟩) hS (fun x103 S102 H locs hn hR hS => ?_)
    replace h := hn
    clear hn
    refine lv_icmp_ge (tgt := 175) hx hb dX2_passDay_113 (by decide) (fun hc104 => ?_) (fun hc104 => ?_)
    · replace h := h.1 hc104
      refine lv_aload_n hx hb dX2_passDay_175 rfl (lv_at hl 0 rfl) ?_
      obtain ⟨hK_x0, h⟩ := h
      refine x_kv (x_runV (As := []) (rest := []) C hml hR hS (m_X2_flyPests l gg x0 S102 h) b_X2_flyPests q_23_22 (by rw [hK_x0]; decide) (s_E_3 hK_x0) rfl rfl rfl rfl ⟨Nat.le_of_ble_eq_true rfl, Nat.le_of_ble_eq_true rfl⟩ rfl hl.1 (Nat.le_of_ble_eq_true rfl) dX2_passDay_176 ⟨Nat.le_refl _, Nat.le_refl _⟩) hS (fun S105 H locs hn hR hS => ?_)
      replace h := hn
      clear hn
      exact W.vret hx hb hr (fun t ht hW => ⟨⟨S105, rfl, h, x_rt ht hR⟩, hS.F ht⟩) hS.2.2 dX2_passDay_179
    · replace h := h.2 hc104
      refine lv_aload_n hx hb dX2_passDay_116 rfl (lv_at hl 0 rfl) ?_
      obtain ⟨hK_x0, h⟩ := h
      refine x_g_97 C hR hK_x0 q_1_22 dX2_passDay_117 ?_
      obtain ⟨a106, ea106, h⟩ := h
      refine x_some ea106 ?_
      refine lv_iload hx hb dX2_passDay_120 (lv_at hl 3 rfl) ?_
      obtain ⟨hK_a106, h⟩ := h
      refine x_kq (x_runV (As := [.int x5]) (rest := []) C hml hR hS (m_Jx4a65c_get_915e3 l gg a106 x5 S102 h) b_Jx4a65c_get_915e3 q_8_14 (by rw [hK_a106]; decide) (s_E_0 hK_a106) rfl rfl rfl rfl ⟨Nat.le_of_ble_eq_true rfl, Nat.le_of_ble_eq_true rfl⟩ rfl hl.1 (Nat.le_of_ble_eq_true rfl) dX2_passDay_122 ⟨Nat.le_refl _, Nat.le_refl _⟩) hS (fun ra108 S107 H locs hn hR hS => ?_)
      replace h := hn
      clear hn
      obtain ⟨a108, za108, h⟩ := h
      refine x_some za108 ?_
      obtain ⟨hK_a108, h⟩ := h
      refine x_cast (ci := 2) C hR (by rw [hK_a108]; decide) (s_E_2 hK_a108) rfl q_20_11 rfl dX2_passDay_125 ?_
      refine lv_astore (lv' := [(6, .ref a108), (0, .ref x0), (2, .int x2), (3, .int x3), (5, .int x5)]) hx hb dX2_passDay_128 hl (by decide) rfl (fun ls hl => ?_)
      refine lv_aload hx hb dX2_passDay_130 (lv_at hl 0 rfl) ?_
      refine lv_iload_n hx hb dX2_passDay_132 rfl (lv_at hl 3 rfl) ?_
      refine lv_aload_n hx hb dX2_passDay_133 rfl (lv_at hl 1 rfl) ?_
      obtain ⟨hK_x0, h⟩ := h
      refine x_g_98 C hR hK_x0 q_2_2 dX2_passDay_134 ?_
      obtain ⟨a109, ea109, h⟩ := h
      refine x_some ea109 ?_
      refine x_kv (x_runV (As := [.int x3, .ref a109]) (rest := []) C hml hR hS (m_X1_passWater l gg a108 x3 a109 S107 h) b_X1_passWater q_22_0 (by rw [hK_a108]; decide) (s_E_2 hK_a108) rfl rfl rfl rfl ⟨Nat.le_of_ble_eq_true rfl, Nat.le_of_ble_eq_true rfl⟩ rfl hl.1 (Nat.le_of_ble_eq_true rfl) dX2_passDay_137 ⟨Nat.le_refl _, Nat.le_refl _⟩) hS (fun S110 H locs hn hR hS => ?_)
      replace h := hn
      clear hn
      refine lv_aload hx hb dX2_passDay_140 (lv_at hl 0 rfl) ?_
      obtain ⟨hK_a108, h⟩ := h
      refine x_kv (x_runV (As := []) (rest := []) C hml hR hS (m_X1_dryOut l gg a108 S110 h) b_X1_dryOut q_22_23 (by rw [hK_a108]; decide) (s_E_2 hK_a108) rfl rfl rfl rfl ⟨Nat.le_of_ble_eq_true rfl, Nat.le_of_ble_eq_true rfl⟩ rfl hl.1 (Nat.le_of_ble_eq_true rfl) dX2_passDay_142 ⟨Nat.le_refl _, Nat.le_refl _⟩) hS (fun S111 H locs hn hR hS => ?_)
      replace h := hn
      clear hn
      refine lv_aload hx hb dX2_passDay_145 (lv_at hl 0 rfl) ?_
      obtain ⟨hK_a108, h⟩ := h
      refine x_g_69 C hR hK_a108 q_20_12 dX2_passDay_147 ?_
      obtain ⟨a112, ea112, h⟩ := h
      refine x_some ea112 ?_
      refine lv_aload hx hb dX2_passDay_150 (lv_at hl 0 rfl) ?_
      refine x_g_73 C hR hK_a108 q_20_13 dX2_passDay_152 ?_
      refine lv_topi (fun x113 ex113 => ?_)
      replace h := h x113 ex113
      refine lv_aload hx hb dX2_passDay_155 (lv_at hl 0 rfl) ?_
      refine x_g_76 C hR hK_a108 q_20_14 dX2_passDay_157 ?_
      refine lv_topi (fun x114 ex114 => ?_)
      replace h := h x114 ex114
      refine lv_iload_n hx hb dX2_passDay_160 rfl (lv_at hl 2 rfl) ?_
      obtain ⟨hK_a112, h⟩ := h
      refine x_kv (x_runV (As := [.int x113, .int x114, .int x2]) (rest := []) C hml hR hS (m_X0_grow l gg a112 x113 x114 x2 S111 h) b_X0_grow q_23_4 (by rw [hK_a112]; decide) (s_E_1 hK_a112) rfl rfl rfl rfl ⟨Nat.le_of_ble_eq_true rfl, Nat.le_of_ble_eq_true rfl⟩ rfl hl.1 (Nat.le_of_ble_eq_true rfl) dX2_passDay_161 ⟨Nat.le_refl _, Nat.le_refl _⟩) hS (fun S115 H locs hn hR hS => ?_)
      replace h := hn
      clear hn
      refine lv_aload hx hb dX2_passDay_164 (lv_at hl 0 rfl) ?_
      obtain ⟨hK_a108, h⟩ := h
      refine x_kv (x_runV (As := []) (rest := []) C hml hR hS (m_X1_breedPests l gg a108 S115 h) b_X1_breedPests q_23_16 (by rw [hK_a108]; decide) (s_E_2 hK_a108) rfl rfl rfl rfl ⟨Nat.le_of_ble_eq_true rfl, Nat.le_of_ble_eq_true rfl⟩ rfl hl.1 (Nat.le_of_ble_eq_true rfl) dX2_passDay_166 ⟨Nat.le_refl _, Nat.le_refl _⟩) hS (fun S116 H locs hn hR hS => ?_)
      replace h := hn
      clear hn
      obtain ⟨x117, ex117⟩ : ∃ z : Int32, z = x5 + 1 := ⟨_, rfl⟩
      replace h := h x117 ex117
      refine lv_iinc (v := x117) (lv' := [(5, .int x117), (6, .ref a108), (0, .ref x0), (2, .int x2), (3, .int x3)]) hx hb dX2_passDay_169 hl (k := 4) rfl (by rw [ex117]; rfl) (by decide) rfl (fun ls hl => ?_)
      refine lv_goto (tgt := 104) hx hb dX2_passDay_172 (by decide) ?_
      exact ih x0 x2 x3 x117 S116 h H locs ls hR hS (lv_sub (l' := [(0, .ref x0), (2, .int x2), (3, .int x3), (5, .int x117)]) hl [2, 3, 4, 0] rfl)
set_option maxHeartbeats 4000000 in
theorem t_X2_passDay_b62 {Q : sT → Prop} (C : x_C p s m args c cX2_passDay RX2 gg) (hml : c.maxLocals = 7) (hr : meth.sig.returnType = none) (hlocks : meth.locks = false)   : ∀ (n : Nat) (x0 : Nat) (x2 : Int32) (x3 : Int32) (x4 : Int32) (x5 : Int32) (S : sT), w_X2_passDay_b62  Q n x0 x2 x3 x4 x5 S → x_X p l e r_X2_passDay s m args below meth c gg 7 0 0 (MQ below (va_Qv Q (fun S1 t => s_Rep gg S1 t.heap) (s_A gg)) args s 0 0 (s_A gg)) 62 [(0, .ref x0), (2, .int x2), (3, .int x3), (4, .int x4), (5, .int x5)] [] S := by
  obtain ⟨hx, hb, -⟩ := id C
  intro n
  induction n with
  | zero => intro x0 x2 x3 x4 x5 S h; exact absurd h id
  | succ n ih =>
    intro x0 x2 x3 x4 x5 S h H locs ls hR hS hl
    unfold w_X2_passDay_b62 at h
    refine lv_iload hx hb dX2_passDay_62 (lv_at hl 4 rfl) ?_
    refine lv_aload_n hx hb dX2_passDay_64 rfl (lv_at hl 0 rfl) ?_
    obtain ⟨hK_x0, h⟩ := h
    refine x_g_96 C hR hK_x0 q_1_21 dX2_passDay_65 ?_
    obtain ⟨a101, ea101, h⟩ := h
    refine x_some ea101 ?_
    obtain ⟨hK_a101, h⟩ := h
    refine x_ki (x_runV (As := []) (rest := [.int x5]) C hml hR hS (m_Jx4a65c_size_8abf5 l gg a101 S h) b_Jx4a65c_size_8abf5 q_4_7 (by rw [hK_a101]; decide) (s_E_0 hK_a101) rfl rfl rfl rfl ⟨Nat.le_of_ble_eq_true rfl, Nat.le_of_ble_eq_true rfl⟩ rfl hl.1 (Nat.le_of_ble_eq_true rfl) dX2_passDay_68 ⟨Nat.le_refl _, Nat.le_refl _⟩) hS (fun x103 S102 H locs hn hR hS => ?_)
    replace h := hn
    clear hn
    refine lv_icmp_ge (tgt := 101) hx hb dX2_passDay_71 (by decide) (fun hc104 => ?_) (fun hc104 => ?_)
    · replace h := h.1 hc104
      refine lv_iconst (v := 0) hx hb dX2_passDay_101 (by decide) ?_
      refine lv_istore (lv' := [(5, .int (0 : Int32)), (0, .ref x0), (2, .int x2), (3, .int x3), (4, .int x4)]) hx hb dX2_passDay_102 hl (by decide) rfl (fun ls hl => ?_)
      obtain ⟨n9, h⟩ := h
      exact t_X2_passDay_b104 C hml hr hlocks  n9 x0 x2 x3 (0 : Int32) S102 h H locs ls hR hS (lv_sub (l' := [(0, .ref x0), (2, .int x2), (3, .int x3), (5, .int (0 : Int32))]) hl [1, 2, 3, 0] rfl)
    · replace h := h.2 hc104
      refine lv_aload_n hx hb dX2_passDay_74 rfl (lv_at hl 0 rfl) ?_
      obtain ⟨hK_x0, h⟩ := h
      refine x_g_96 C hR hK_x0 q_1_21 dX2_passDay_75 ?_
      obtain ⟨a105, ea105, h⟩ := h
      refine x_some ea105 ?_
      refine lv_iload hx hb dX2_passDay_78 (lv_at hl 4 rfl) ?_
      obtain ⟨hK_a105, h⟩ := h
      refine x_kq (x_runV (As := [.int x5]) (rest := []) C hml hR hS (m_Jx4a65c_get_915e3 l gg a105 x5 S102 h) b_Jx4a65c_get_915e3 q_8_14 (by rw [hK_a105]; decide) (s_E_0 hK_a105) rfl rfl rfl rfl ⟨Nat.le_of_ble_eq_true rfl, Nat.le_of_ble_eq_true rfl⟩ rfl hl.1 (Nat.le_of_ble_eq_true rfl) dX2_passDay_80 ⟨Nat.le_refl _, Nat.le_refl _⟩) hS (fun ra107 S106 H locs hn hR hS => ?_)
      replace h := hn
      clear hn
      obtain ⟨a107, za107, h⟩ := h
      refine x_some za107 ?_
      obtain ⟨hK_a107, h⟩ := h
      refine x_cast (ci := 6) C hR (by rw [hK_a107]; decide) (s_E_6 hK_a107) rfl q_8_9 rfl dX2_passDay_83 ?_
      refine lv_iload hx hb dX2_passDay_86 (lv_at hl 3 rfl) ?_
      refine lv_aload_n hx hb dX2_passDay_88 rfl (lv_at hl 0 rfl) ?_
      obtain ⟨hK_x0, h⟩ := h
      refine x_g_98 C hR hK_x0 q_2_2 dX2_passDay_89 ?_
      obtain ⟨a108, ea108, h⟩ := h
      refine x_some ea108 ?_
      refine x_kv (x_runV (As := [.int x4, .ref a108]) (rest := []) C hml hR hS (m_X5_shareOut l gg a107 x4 a108 S106 h) b_X5_shareOut q_20_23 (by rw [hK_a107]; decide) (s_E_6 hK_a107) rfl rfl rfl rfl ⟨Nat.le_of_ble_eq_true rfl, Nat.le_of_ble_eq_true rfl⟩ rfl hl.1 (Nat.le_of_ble_eq_true rfl) dX2_passDay_92 ⟨Nat.le_refl _, Nat.le_refl _⟩) hS (fun S109 H locs hn hR hS => ?_)
      replace h := hn
      clear hn
      obtain ⟨x110, ex110⟩ : ∃ z : Int32, z = x5 + 1 := ⟨_, rfl⟩
      replace h := h x110 ex110
      refine lv_iinc (v := x110) (lv' := [(5, .int x110), (0, .ref x0), (2, .int x2), (3, .int x3), (4, .int x4)]) hx hb dX2_passDay_95 hl (k := 4) rfl (by rw [ex110]; rfl) (by decide) rfl (fun ls hl => ?_)
      refine lv_goto (tgt := 62) hx hb dX2_passDay_98 (by decide) ?_
      exact ih x0 x2 x3 x4 x110 S109 h H locs ls hR hS (lv_sub (l' := [(0, .ref x0), (2, .int x2), (3, .int x3), (4, .int x4), (5, .int x110)]) hl [1, 2, 3, 4, 0] rfl)
set_option maxHeartbeats 4000000 in
theorem t_X2_passDay_b0 {Q : sT → Prop} (C : x_C p s m args c cX2_passDay RX2 gg) (hml : c.maxLocals = 7) (hr : meth.sig.returnType = none) (hlocks : meth.locks = false) {x0 : Nat} {x1 : Int32} {x2 : Int32} {x3 : Int32}  {S : sT}  (h : w_X2_passDay_b0 x0 x1 x2 x3 S  Q) : x_X p l e r_X2_passDay s m args below meth c gg 7 0 0 (MQ below (va_Qv Q (fun S1 t => s_Rep gg S1 t.heap) (s_A gg)) args s 0 0 (s_A gg)) 0 [(0, .ref x0), (1, .int x1), (2, .int x2), (3, .int x3)] [] S := by
  unfold w_X2_passDay_b0 at h
  obtain ⟨hx, hb, -⟩ := id C
  intro H locs ls hR hS hl
  refine lv_aload_n hx hb dX2_passDay_0 rfl (lv_at hl 0 rfl) ?_
  refine lv_dup hx hb dX2_passDay_1 rfl ?_
  obtain ⟨hK_x0, h⟩ := h
  refine x_g_99 C hR hK_x0 q_14_14 dX2_passDay_2 ?_
  refine lv_topi (fun x101 ex101 => ?_)
  replace h := h x101 ex101
  refine lv_iconst (v := 1) hx hb dX2_passDay_5 (by decide) ?_
  refine lv_iadd hx hb dX2_passDay_6 ?_
  refine lv_topi (fun x102 ex102 => ?_)
  replace h := h x102 ex102
  refine x_p_99 (v := x102) C hR hK_x0 hS q_14_14 dX2_passDay_7 (fun H locs hR hS => ?_)
  obtain ⟨S103, eS103⟩ : ∃ z : sT, z = s_sI S 99 x0 x102 := ⟨_, rfl⟩
  rw [← eS103] at hR
  replace h := h S103 eS103
  have hK_x0 : s_K S103 x0 = 4 := by rw [eS103]; exact hK_x0
  refine lv_aload_n hx hb dX2_passDay_10 rfl (lv_at hl 0 rfl) ?_
  refine lv_iload_n hx hb dX2_passDay_11 rfl (lv_at hl 1 rfl) ?_
  refine x_p_103 (v := x1) C hR hK_x0 hS q_20_7 dX2_passDay_12 (fun H locs hR hS => ?_)
  obtain ⟨S104, eS104⟩ : ∃ z : sT, z = s_sI S103 103 x0 x1 := ⟨_, rfl⟩
  rw [← eS104] at hR
  replace h := h S104 eS104
  have hK_x0 : s_K S104 x0 = 4 := by rw [eS104]; exact hK_x0
  refine lv_aload_n hx hb dX2_passDay_15 rfl (lv_at hl 0 rfl) ?_
  refine lv_iload_n hx hb dX2_passDay_16 rfl (lv_at hl 2 rfl) ?_
  refine x_p_104 (v := x2) C hR hK_x0 hS q_20_8 dX2_passDay_17 (fun H locs hR hS => ?_)
  obtain ⟨S105, eS105⟩ : ∃ z : sT, z = s_sI S104 104 x0 x2 := ⟨_, rfl⟩
  rw [← eS105] at hR
  replace h := h S105 eS105
  have hK_x0 : s_K S105 x0 = 4 := by rw [eS105]; exact hK_x0
  refine lv_aload_n hx hb dX2_passDay_20 rfl (lv_at hl 0 rfl) ?_
  refine lv_iload_n hx hb dX2_passDay_21 rfl (lv_at hl 3 rfl) ?_
  refine x_p_105 (v := x3) C hR hK_x0 hS q_20_9 dX2_passDay_22 (fun H locs hR hS => ?_)
  obtain ⟨S106, eS106⟩ : ∃ z : sT, z = s_sI S105 105 x0 x3 := ⟨_, rfl⟩
  rw [← eS106] at hR
  replace h := h S106 eS106
  have hK_x0 : s_K S106 x0 = 4 := by rw [eS106]; exact hK_x0
  refine lv_aload_n hx hb dX2_passDay_25 rfl (lv_at hl 0 rfl) ?_
  refine x_g_98 C hR hK_x0 q_2_2 dX2_passDay_26 ?_
  obtain ⟨a107, ea107, h⟩ := h
  refine x_some ea107 ?_
  refine lv_dup hx hb dX2_passDay_29 rfl ?_
  obtain ⟨hK_a107, h⟩ := h
  refine x_g_128 C hR hK_a107 q_20_10 dX2_passDay_30 ?_
  refine lv_topi (fun x108 ex108 => ?_)
  replace h := h x108 ex108
  refine lv_iload_n hx hb dX2_passDay_33 rfl (lv_at hl 1 rfl) ?_
  refine lv_iload_n hx hb dX2_passDay_34 rfl (lv_at hl 3 rfl) ?_
  refine lv_aload_n hx hb dX2_passDay_35 rfl (lv_at hl 0 rfl) ?_
  refine x_g_97 C hR hK_x0 q_1_22 dX2_passDay_36 ?_
  obtain ⟨a109, ea109, h⟩ := h
  refine x_some ea109 ?_
  obtain ⟨hK_a109, h⟩ := h
  refine x_ki (x_runV (As := []) (rest := [.int x3, .int x1, .int x108, .ref a107]) C hml hR hS (m_Jx4a65c_size_8abf5 l gg a109 S106 h) b_Jx4a65c_size_8abf5 q_4_7 (by rw [hK_a109]; decide) (s_E_0 hK_a109) rfl rfl rfl rfl ⟨Nat.le_of_ble_eq_true rfl, Nat.le_of_ble_eq_true rfl⟩ rfl hl.1 (Nat.le_of_ble_eq_true rfl) dX2_passDay_39 ⟨Nat.le_refl _, Nat.le_refl _⟩) hS (fun x111 S110 H locs hn hR hS => ?_)
  replace h := hn
  clear hn
  refine lv_imul hx hb dX2_passDay_42 ?_
  refine lv_topi (fun x112 ex112 => ?_)
  replace h := h x112 ex112
  refine lv_iadd hx hb dX2_passDay_43 ?_
  refine lv_topi (fun x113 ex113 => ?_)
  replace h := h x113 ex113
  refine lv_iadd hx hb dX2_passDay_44 ?_
  refine lv_topi (fun x114 ex114 => ?_)
  replace h := h x114 ex114
  obtain ⟨hK_a107, h⟩ := h
  refine x_p_128 (v := x114) C hR hK_a107 hS q_20_10 dX2_passDay_45 (fun H locs hR hS => ?_)
  obtain ⟨S115, eS115⟩ : ∃ z : sT, z = s_sI S110 128 a107 x114 := ⟨_, rfl⟩
  rw [← eS115] at hR
  replace h := h S115 eS115
  have hK_a107 : s_K S115 a107 = 5 := by rw [eS115]; exact hK_a107
  refine lv_aload_n hx hb dX2_passDay_48 rfl (lv_at hl 0 rfl) ?_
  refine lv_iload_n hx hb dX2_passDay_49 rfl (lv_at hl 1 rfl) ?_
  obtain ⟨hK_x0, h⟩ := h
  refine x_kv (x_runV (As := [.int x1]) (rest := []) C hml hR hS (m_X2_splitAtWeir l gg x0 x1 S115 h) b_X2_splitAtWeir q_20_15 (by rw [hK_x0]; decide) (s_E_3 hK_x0) rfl rfl rfl rfl ⟨Nat.le_of_ble_eq_true rfl, Nat.le_of_ble_eq_true rfl⟩ rfl hl.1 (Nat.le_of_ble_eq_true rfl) dX2_passDay_50 ⟨Nat.le_refl _, Nat.le_refl _⟩) hS (fun S116 H locs hn hR hS => ?_)
  replace h := hn
  clear hn
  refine lv_aload_n hx hb dX2_passDay_53 rfl (lv_at hl 0 rfl) ?_
  obtain ⟨hK_x0, h⟩ := h
  refine x_ki (x_runV (As := []) (rest := []) C hml hR hS (m_X2_templeDay l gg x0 S116 h) b_X2_templeDay q_20_22 (by rw [hK_x0]; decide) (s_E_3 hK_x0) rfl rfl rfl rfl ⟨Nat.le_of_ble_eq_true rfl, Nat.le_of_ble_eq_true rfl⟩ rfl hl.1 (Nat.le_of_ble_eq_true rfl) dX2_passDay_54 ⟨Nat.le_refl _, Nat.le_refl _⟩) hS (fun x118 S117 H locs hn hR hS => ?_)
  replace h := hn
  clear hn
  refine lv_istore (lv' := [(4, .int x118), (0, .ref x0), (1, .int x1), (2, .int x2), (3, .int x3)]) hx hb dX2_passDay_57 hl (by decide) rfl (fun ls hl => ?_)
  refine lv_iconst (v := 0) hx hb dX2_passDay_59 (by decide) ?_
  refine lv_istore (lv' := [(5, .int (0 : Int32)), (4, .int x118), (0, .ref x0), (1, .int x1), (2, .int x2), (3, .int x3)]) hx hb dX2_passDay_60 hl (by decide) rfl (fun ls hl => ?_)
  obtain ⟨n9, h⟩ := h
  exact t_X2_passDay_b62 C hml hr hlocks  n9 x0 x2 x3 x118 (0 : Int32) S117 h H locs ls hR hS (lv_sub (l' := [(0, .ref x0), (2, .int x2), (3, .int x3), (4, .int x118), (5, .int (0 : Int32))]) hl [2, 4, 5, 1, 0] rfl)
theorem m_X2_passDay (l : Launch) (gg : sG) (x0 : Nat) (x1 : Int32) (x2 : Int32) (x3 : Int32) (S : sT) {Q : sT → Prop} (h : w_X2_passDay x0 x1 x2 x3 S Q) : x_Mv l gg yX2_passDay (x_ws yX2_passDay cX2_passDay 7 none) r_X2_passDay [.ref x0, .int x1, .int x2, .int x3] S Q 0 0 := by
  refine x_ofW (cc := cX2_passDay) (own := RX2) (by decide +kernel) rfl (Nat.le_of_ble_eq_true rfl) ?_
  intro p e s m args below meth c C hml hr hlocks hin ht H locs ls hR hS hl
  exact t_X2_passDay_b0 C hml hr hlocks h H locs ls hR hS (lv_sub (l' := [(0, .ref x0), (1, .int x1), (2, .int x2), (3, .int x3)]) hl [0, 1, 2, 3] rfl)
def w_X2_societyOrNull_b30 (y0 : Option Nat) (S : sT)  (Q : Option Nat → sT → Prop) : Prop :=
Q y0 S
def w_X2_societyOrNull_b29  (S : sT)  (Q : Option Nat → sT → Prop) : Prop :=
w_X2_societyOrNull_b30 none S  Q
def w_X2_societyOrNull_b0 (x0 : Nat) (x1 : Int32) (S : sT)  (Q : Option Nat → sT → Prop) : Prop :=
((x1 < 0 → w_X2_societyOrNull_b29  S  Q) ∧
    (¬ x1 < 0 → s_K S x0 = 4 ∧
    ∃ a102 : Nat, s_R S 96 x0 = some a102 ∧
    s_K S a102 = 1 ∧
    w_Jx4a65c_size_8abf5 a102 S (fun x104 S103 =>
    ((x104 ≤ x1 → w_X2_societyOrNull_b29  S103  Q) ∧
    (¬ x104 ≤ x1 → s_K S103 x0 = 4 ∧
    ∃ a106 : Nat, s_R S103 96 x0 = some a106 ∧
    s_K S103 a106 = 1 ∧
    w_Jx4a65c_get_915e3 a106 x1 S103 (fun a108 S107 =>
    s_K S107 a108 = 7 ∧
    w_X2_societyOrNull_b30 (some a108) S107  Q))))))
def w_X2_societyOrNull (x0 : Nat) (x1 : Int32) (S : sT) (Q : Option Nat → sT → Prop) : Prop := w_X2_societyOrNull_b0 x0 x1 S Q
def r_X2_societyOrNull : Room := x_rm 3 64 0 0
theorem b_X2_societyOrNull : x_BV yX2_societyOrNull cX2_societyOrNull 2 (some (.object "Subakhall$Society")) 1 := ⟨q_13_15, q_13_13, q_13_14, q_1_12, by decide +kernel⟩
set_option maxHeartbeats 4000000 in
theorem t_X2_societyOrNull_b30 {Q : Option Nat → sT → Prop} (C : x_C p s m args c cX2_societyOrNull RX2 gg) (hml : c.maxLocals = 2) (hr : meth.sig.returnType = (some (.object "Subakhall$Society"))) (hlocks : meth.locks = false) {y0 : Option Nat}  {S : sT}  (h : w_X2_societyOrNull_b30 y0 S  Q) : x_X p l e r_X2_societyOrNull s m args below meth c gg 2 0 0 (MQ below (va_Qq Q (fun S1 t => s_Rep gg S1 t.heap) (s_A gg)) args s 0 0 (s_A gg)) 30 [] [va_rf y0] S := by
  unfold w_X2_societyOrNull_b30 at h
  obtain ⟨hx, hb, -⟩ := id C
  intro H locs ls hR hS hl
  exact W.aret (v := va_rf y0) hx hb hr (Or.inl ⟨_, rfl⟩) (va_rf_or _) (fun t ht hW => ⟨⟨y0, S, rfl, h, x_rt ht hR⟩, hS.F ht⟩) hS.2.2 dX2_societyOrNull_30
set_option maxHeartbeats 4000000 in
theorem t_X2_societyOrNull_b29 {Q : Option Nat → sT → Prop} (C : x_C p s m args c cX2_societyOrNull RX2 gg) (hml : c.maxLocals = 2) (hr : meth.sig.returnType = (some (.object "Subakhall$Society"))) (hlocks : meth.locks = false)   {S : sT}  (h : w_X2_societyOrNull_b29  S  Q) : x_X p l e r_X2_societyOrNull s m args below meth c gg 2 0 0 (MQ below (va_Qq Q (fun S1 t => s_Rep gg S1 t.heap) (s_A gg)) args s 0 0 (s_A gg)) 29 [] [] S := by
  unfold w_X2_societyOrNull_b29 at h
  obtain ⟨hx, hb, -⟩ := id C
  intro H locs ls hR hS hl
  refine lv_null hx hb dX2_societyOrNull_29 ?_
  exact t_X2_societyOrNull_b30 C hml hr hlocks  h H locs ls hR hS (lv_sub (l' := []) hl [] rfl)
set_option maxHeartbeats 4000000 in
theorem t_X2_societyOrNull_b0 {Q : Option Nat → sT → Prop} (C : x_C p s m args c cX2_societyOrNull RX2 gg) (hml : c.maxLocals = 2) (hr : meth.sig.returnType = (some (.object "Subakhall$Society"))) (hlocks : meth.locks = false) {x0 : Nat} {x1 : Int32}  {S : sT}  (h : w_X2_societyOrNull_b0 x0 x1 S  Q) : x_X p l e r_X2_societyOrNull s m args below meth c gg 2 0 0 (MQ below (va_Qq Q (fun S1 t => s_Rep gg S1 t.heap) (s_A gg)) args s 0 0 (s_A gg)) 0 [(0, .ref x0), (1, .int x1)] [] S := by
  unfold w_X2_societyOrNull_b0 at h
  obtain ⟨hx, hb, -⟩ := id C
  intro H locs ls hR hS hl
  refine lv_iload_n hx hb dX2_societyOrNull_0 rfl (lv_at hl 1 rfl) ?_
  refine lv_if_lt (tgt := 29) hx hb dX2_societyOrNull_1 (by decide) (fun hc101 => ?_) (fun hc101 => ?_)
  · replace h := h.1 hc101
    exact t_X2_societyOrNull_b29 C hml hr hlocks  h H locs ls hR hS (lv_sub (l' := []) hl [] rfl)
  · replace h := h.2 hc101
    refine lv_iload_n hx hb dX2_societyOrNull_4 rfl (lv_at hl 1 rfl) ?_
    refine lv_aload_n hx hb dX2_societyOrNull_5 rfl (lv_at hl 0 rfl) ?_
    obtain ⟨hK_x0, h⟩ := h
    refine x_g_96 C hR hK_x0 q_1_21 dX2_societyOrNull_6 ?_
    obtain ⟨a102, ea102, h⟩ := h
    refine x_some ea102 ?_
    obtain ⟨hK_a102, h⟩ := h
    refine x_ki (x_runV (As := []) (rest := [.int x1]) C hml hR hS (m_Jx4a65c_size_8abf5 l gg a102 S h) b_Jx4a65c_size_8abf5 q_4_7 (by rw [hK_a102]; decide) (s_E_0 hK_a102) rfl rfl rfl rfl ⟨Nat.le_of_ble_eq_true rfl, Nat.le_of_ble_eq_true rfl⟩ rfl hl.1 (Nat.le_of_ble_eq_true rfl) dX2_societyOrNull_9 ⟨Nat.le_refl _, Nat.le_refl _⟩) hS (fun x104 S103 H locs hn hR hS => ?_)
    replace h := hn
    clear hn
    refine lv_icmp_ge (tgt := 29) hx hb dX2_societyOrNull_12 (by decide) (fun hc105 => ?_) (fun hc105 => ?_)
    · replace h := h.1 hc105
      exact t_X2_societyOrNull_b29 C hml hr hlocks  h H locs ls hR hS (lv_sub (l' := []) hl [] rfl)
    · replace h := h.2 hc105
      refine lv_aload_n hx hb dX2_societyOrNull_15 rfl (lv_at hl 0 rfl) ?_
      obtain ⟨hK_x0, h⟩ := h
      refine x_g_96 C hR hK_x0 q_1_21 dX2_societyOrNull_16 ?_
      obtain ⟨a106, ea106, h⟩ := h
      refine x_some ea106 ?_
      refine lv_iload_n hx hb dX2_societyOrNull_19 rfl (lv_at hl 1 rfl) ?_
      obtain ⟨hK_a106, h⟩ := h
      refine x_kq (x_runV (As := [.int x1]) (rest := []) C hml hR hS (m_Jx4a65c_get_915e3 l gg a106 x1 S103 h) b_Jx4a65c_get_915e3 q_8_14 (by rw [hK_a106]; decide) (s_E_0 hK_a106) rfl rfl rfl rfl ⟨Nat.le_of_ble_eq_true rfl, Nat.le_of_ble_eq_true rfl⟩ rfl hl.1 (Nat.le_of_ble_eq_true rfl) dX2_societyOrNull_20 ⟨Nat.le_refl _, Nat.le_refl _⟩) hS (fun ra108 S107 H locs hn hR hS => ?_)
      replace h := hn
      clear hn
      obtain ⟨a108, za108, h⟩ := h
      refine x_some za108 ?_
      obtain ⟨hK_a108, h⟩ := h
      refine x_cast (ci := 6) C hR (by rw [hK_a108]; decide) (s_E_6 hK_a108) rfl q_8_9 rfl dX2_societyOrNull_23 ?_
      refine lv_goto (tgt := 30) hx hb dX2_societyOrNull_26 (by decide) ?_
      exact t_X2_societyOrNull_b30 C hml hr hlocks  h H locs ls hR hS (lv_sub (l' := []) hl [] rfl)
theorem m_X2_societyOrNull (l : Launch) (gg : sG) (x0 : Nat) (x1 : Int32) (S : sT) {Q : Option Nat → sT → Prop} (h : w_X2_societyOrNull x0 x1 S Q) : x_Mq l gg yX2_societyOrNull (x_ws yX2_societyOrNull cX2_societyOrNull 2 (some (.object "Subakhall$Society"))) r_X2_societyOrNull [.ref x0, .int x1] S Q 0 0 := by
  refine x_ofW (cc := cX2_societyOrNull) (own := RX2) (by decide +kernel) rfl (Nat.le_of_ble_eq_true rfl) ?_
  intro p e s m args below meth c C hml hr hlocks hin ht H locs ls hR hS hl
  exact t_X2_societyOrNull_b0 C hml hr hlocks h H locs ls hR hS (lv_sub (l' := [(0, .ref x0), (1, .int x1)]) hl [0, 1] rfl)
def w_X2_modelOf_b44 (y0 : Option Nat) (S : sT)  (Q : Option Nat → sT → Prop) : Prop :=
Q y0 S
def w_X2_modelOf_b0 (x0 : Nat) (x1 : Int32) (S : sT)  (Q : Option Nat → sT → Prop) : Prop :=
∀ x101 : Int32, x101 = x1 - (1 : Int32) →
    s_K S x0 = 4 ∧
    w_X2_societyOrNull x0 x101 S (fun r103 S102 =>
    ∀ x104 : Int32, x104 = x1 + (1 : Int32) →
    s_K S102 x0 = 4 ∧
    w_X2_societyOrNull x0 x104 S102 (fun r106 S105 =>
    ((r103 = none → Q r106 S105) ∧
    (∀ a107 : Nat, r103 = some a107 → ((r106 = none → Q (some a107) S105) ∧
    (∀ a109 : Nat, r106 = some a109 → s_K S105 a109 = 7 ∧
    w_X5_cropPerField a109 S105 (fun x112 S111 =>
    s_K S111 a107 = 7 ∧
    w_X5_cropPerField a107 S111 (fun x114 S113 =>
    ((x112 ≤ x114 → w_X2_modelOf_b44 (some a107) S113  Q) ∧
    (¬ x112 ≤ x114 → w_X2_modelOf_b44 (some a109) S113  Q))))))))))
def w_X2_modelOf (x0 : Nat) (x1 : Int32) (S : sT) (Q : Option Nat → sT → Prop) : Prop := w_X2_modelOf_b0 x0 x1 S Q
def r_X2_modelOf : Room := x_rm 4 85 0 0
theorem b_X2_modelOf : x_BV yX2_modelOf cX2_modelOf 4 (some (.object "Subakhall$Society")) 1 := ⟨q_13_11, q_13_9, q_13_10, q_1_12, by decide +kernel⟩
set_option maxHeartbeats 4000000 in
theorem t_X2_modelOf_b44 {Q : Option Nat → sT → Prop} (C : x_C p s m args c cX2_modelOf RX2 gg) (hml : c.maxLocals = 4) (hr : meth.sig.returnType = (some (.object "Subakhall$Society"))) (hlocks : meth.locks = false) {y0 : Option Nat}  {S : sT}  (h : w_X2_modelOf_b44 y0 S  Q) : x_X p l e r_X2_modelOf s m args below meth c gg 4 0 0 (MQ below (va_Qq Q (fun S1 t => s_Rep gg S1 t.heap) (s_A gg)) args s 0 0 (s_A gg)) 44 [] [va_rf y0] S := by
  unfold w_X2_modelOf_b44 at h
  obtain ⟨hx, hb, -⟩ := id C
  intro H locs ls hR hS hl
  exact W.aret (v := va_rf y0) hx hb hr (Or.inl ⟨_, rfl⟩) (va_rf_or _) (fun t ht hW => ⟨⟨y0, S, rfl, h, x_rt ht hR⟩, hS.F ht⟩) hS.2.2 dX2_modelOf_44
set_option maxHeartbeats 4000000 in
theorem t_X2_modelOf_b0 {Q : Option Nat → sT → Prop} (C : x_C p s m args c cX2_modelOf RX2 gg) (hml : c.maxLocals = 4) (hr : meth.sig.returnType = (some (.object "Subakhall$Society"))) (hlocks : meth.locks = false) {x0 : Nat} {x1 : Int32}  {S : sT}  (h : w_X2_modelOf_b0 x0 x1 S  Q) : x_X p l e r_X2_modelOf s m args below meth c gg 4 0 0 (MQ below (va_Qq Q (fun S1 t => s_Rep gg S1 t.heap) (s_A gg)) args s 0 0 (s_A gg)) 0 [(0, .ref x0), (1, .int x1)] [] S := by
  unfold w_X2_modelOf_b0 at h
  obtain ⟨hx, hb, -⟩ := id C
  intro H locs ls hR hS hl
  refine lv_aload_n hx hb dX2_modelOf_0 rfl (lv_at hl 0 rfl) ?_
  refine lv_iload_n hx hb dX2_modelOf_1 rfl (lv_at hl 1 rfl) ?_
  refine lv_iconst (v := 1) hx hb dX2_modelOf_2 (by decide) ?_
  refine lv_isub hx hb dX2_modelOf_3 ?_
  refine lv_topi (fun x101 ex101 => ?_)
  replace h := h x101 ex101
  obtain ⟨hK_x0, h⟩ := h
  refine x_kq (x_runV (As := [.int x101]) (rest := []) C hml hR hS (m_X2_societyOrNull l gg x0 x101 S h) b_X2_societyOrNull q_13_12 (by rw [hK_x0]; decide) (s_E_3 hK_x0) rfl rfl rfl rfl ⟨Nat.le_of_ble_eq_true rfl, Nat.le_of_ble_eq_true rfl⟩ rfl hl.1 (Nat.le_of_ble_eq_true rfl) dX2_modelOf_4 ⟨Nat.le_refl _, Nat.le_refl _⟩) hS (fun r103 S102 H locs hn hR hS => ?_)
  replace h := hn
  clear hn
  refine x_astore_n (lv' := [(2, va_rf r103), (0, .ref x0), (1, .int x1)]) hx hb dX2_modelOf_7 rfl hl (by decide) (by cases r103 <;> rfl) (fun ls hl => ?_)
  refine lv_aload_n hx hb dX2_modelOf_8 rfl (lv_at hl 1 rfl) ?_
  refine lv_iload_n hx hb dX2_modelOf_9 rfl (lv_at hl 2 rfl) ?_
  refine lv_iconst (v := 1) hx hb dX2_modelOf_10 (by decide) ?_
  refine lv_iadd hx hb dX2_modelOf_11 ?_
  refine lv_topi (fun x104 ex104 => ?_)
  replace h := h x104 ex104
  obtain ⟨hK_x0, h⟩ := h
  refine x_kq (x_runV (As := [.int x104]) (rest := []) C hml hR hS (m_X2_societyOrNull l gg x0 x104 S102 h) b_X2_societyOrNull q_13_12 (by rw [hK_x0]; decide) (s_E_3 hK_x0) rfl rfl rfl rfl ⟨Nat.le_of_ble_eq_true rfl, Nat.le_of_ble_eq_true rfl⟩ rfl hl.1 (Nat.le_of_ble_eq_true rfl) dX2_modelOf_12 ⟨Nat.le_refl _, Nat.le_refl _⟩) hS (fun r106 S105 H locs hn hR hS => ?_)
  replace h := hn
  clear hn
  refine x_astore_n (lv' := [(3, va_rf r106), (2, va_rf r103), (0, .ref x0), (1, .int x1)]) hx hb dX2_modelOf_15 rfl hl (by decide) (by cases r103 <;> cases r106 <;> rfl) (fun ls hl => ?_)
  refine x_aload_n hx hb dX2_modelOf_16 rfl (lv_at hl 1 rfl) ?_
  refine x_ifnonnull (tgt := 22) hx hb dX2_modelOf_17 (by decide) (fun a107 hc108 => ?_) (fun hc108 => ?_)
  · replace h := h.2 a107 hc108
    have z2 : va_rf r103 = Value.ref a107 := by rw [hc108]; rfl
    rw [z2] at hl
    refine x_aload_n hx hb dX2_modelOf_22 rfl (lv_at hl 0 rfl) ?_
    refine x_ifnonnull (tgt := 28) hx hb dX2_modelOf_23 (by decide) (fun a109 hc110 => ?_) (fun hc110 => ?_)
    · replace h := h.2 a109 hc110
      have z2 : va_rf r106 = Value.ref a109 := by rw [hc110]; rfl
      rw [z2] at hl
      refine lv_aload_n hx hb dX2_modelOf_28 rfl (lv_at hl 0 rfl) ?_
      obtain ⟨hK_a109, h⟩ := h
      refine x_ki (x_runV (As := []) (rest := []) C hml hR hS (m_X5_cropPerField l gg a109 S105 h) b_X5_cropPerField q_13_16 (by rw [hK_a109]; decide) (s_E_6 hK_a109) rfl rfl rfl rfl ⟨Nat.le_of_ble_eq_true rfl, Nat.le_of_ble_eq_true rfl⟩ rfl hl.1 (Nat.le_of_ble_eq_true rfl) dX2_modelOf_29 ⟨Nat.le_refl _, Nat.le_refl _⟩) hS (fun x112 S111 H locs hn hR hS => ?_)
      replace h := hn
      clear hn
      refine lv_aload_n hx hb dX2_modelOf_32 rfl (lv_at hl 1 rfl) ?_
      obtain ⟨hK_a107, h⟩ := h
      refine x_ki (x_runV (As := []) (rest := [.int x112]) C hml hR hS (m_X5_cropPerField l gg a107 S111 h) b_X5_cropPerField q_13_16 (by rw [hK_a107]; decide) (s_E_6 hK_a107) rfl rfl rfl rfl ⟨Nat.le_of_ble_eq_true rfl, Nat.le_of_ble_eq_true rfl⟩ rfl hl.1 (Nat.le_of_ble_eq_true rfl) dX2_modelOf_33 ⟨Nat.le_refl _, Nat.le_refl _⟩) hS (fun x114 S113 H locs hn hR hS => ?_)
      replace h := hn
      clear hn
      refine lv_icmp_le (tgt := 43) hx hb dX2_modelOf_36 (by decide) (fun hc115 => ?_) (fun hc115 => ?_)
      · replace h := h.1 hc115
        refine lv_aload_n hx hb dX2_modelOf_43 rfl (lv_at hl 1 rfl) ?_
        exact t_X2_modelOf_b44 C hml hr hlocks  h H locs ls hR hS (lv_sub (l' := []) hl [] rfl)
      · replace h := h.2 hc115
        refine lv_aload_n hx hb dX2_modelOf_39 rfl (lv_at hl 0 rfl) ?_
        refine lv_goto (tgt := 44) hx hb dX2_modelOf_40 (by decide) ?_
        exact t_X2_modelOf_b44 C hml hr hlocks  h H locs ls hR hS (lv_sub (l' := []) hl [] rfl)
    · replace h := h.1 hc110
      have z2 : va_rf r106 = Value.null := by rw [hc110]; rfl
      rw [show va_rf r106 = va_rf none from z2] at hl
      refine lv_aload_n hx hb dX2_modelOf_26 rfl (lv_at hl 1 rfl) ?_
      exact W.aret (v := va_rf (some a107)) hx hb hr (Or.inl ⟨_, rfl⟩) (va_rf_or _) (fun t ht hW => ⟨⟨(some a107), S105, rfl, h, x_rt ht hR⟩, hS.F ht⟩) hS.2.2 dX2_modelOf_27
  · replace h := h.1 hc108
    have z2 : va_rf r103 = Value.null := by rw [hc108]; rfl
    rw [show va_rf r103 = va_rf none from z2] at hl
    refine x_aload_n hx hb dX2_modelOf_20 rfl (lv_at hl 0 rfl) ?_
    exact W.aret (v := va_rf r106) hx hb hr (Or.inl ⟨_, rfl⟩) (va_rf_or _) (fun t ht hW => ⟨⟨r106, S105, rfl, h, x_rt ht hR⟩, hS.F ht⟩) hS.2.2 dX2_modelOf_21
theorem m_X2_modelOf (l : Launch) (gg : sG) (x0 : Nat) (x1 : Int32) (S : sT) {Q : Option Nat → sT → Prop} (h : w_X2_modelOf x0 x1 S Q) : x_Mq l gg yX2_modelOf (x_ws yX2_modelOf cX2_modelOf 4 (some (.object "Subakhall$Society"))) r_X2_modelOf [.ref x0, .int x1] S Q 0 0 := by
  refine x_ofW (cc := cX2_modelOf) (own := RX2) (by decide +kernel) rfl (Nat.le_of_ble_eq_true rfl) ?_
  intro p e s m args below meth c C hml hr hlocks hin ht H locs ls hR hS hl
  exact t_X2_modelOf_b0 C hml hr hlocks h H locs ls hR hS (lv_sub (l' := [(0, .ref x0), (1, .int x1)]) hl [0, 1] rfl)
def w_X2_plantByPlan_b44 (x0 : Nat) (x2 : Int32) (x3 : Int32) (x4 : Int32) (x5 : Int32) (S : sT) (kk6 : Nat → Int32 → Int32 → Int32 → Int32 → sT → Prop) (Q : sT → Prop) : Prop :=
∀ x101 : Int32, x101 = x4 / (3 : Int32) →
    ∀ x102 : Int32, x102 = x5 + 1 →
    kk6 x0 x2 x3 x101 x102 S
def w_X2_plantByPlan_b6  (Q : sT → Prop) : Nat → Nat → Int32 → Int32 → Int32 → Int32 → sT → Prop
  | 0 => fun _ _ _ _ _ _ => False
  | n + 1 => fun x0 x2 x3 x4 x5 S =>
s_K S x0 = 4 ∧
    ∃ a101 : Nat, s_R S 96 x0 = some a101 ∧
    s_K S a101 = 1 ∧
    w_Jx4a65c_size_8abf5 a101 S (fun x103 S102 =>
    ((x103 ≤ x5 → Q S102) ∧
    (¬ x103 ≤ x5 → ∀ x105 : Int32, x105 = x4 - x4 / (3 : Int32) * (3 : Int32) →
    ∀ x106 : Int32, x106 = x105 * (5 : Int32) →
    ((¬ x106 = x3 → w_X2_plantByPlan_b44 x0 x2 x3 x4 x5 S102 (fun x0 x2 x3 x4 x5 S => w_X2_plantByPlan_b6  Q n x0 x2 x3 x4 x5 S) Q) ∧
    (x106 = x3 → s_K S102 x0 = 4 ∧
    ∃ a108 : Nat, s_R S102 96 x0 = some a108 ∧
    s_K S102 a108 = 1 ∧
    w_Jx4a65c_get_915e3 a108 x5 S102 (fun a110 S109 =>
    s_K S109 a110 = 7 ∧
    w_X5_plantAll a110 x2 S109 (fun S111 =>
    w_X2_plantByPlan_b44 x0 x2 x3 x4 x5 S111 (fun x0 x2 x3 x4 x5 S => w_X2_plantByPlan_b6  Q n x0 x2 x3 x4 x5 S) Q)))))))
def w_X2_plantByPlan_b0 (x0 : Nat) (x1 : Int32) (x2 : Int32) (x3 : Int32) (S : sT)  (Q : sT → Prop) : Prop :=
∃ n9 : Nat, w_X2_plantByPlan_b6  Q n9 x0 x2 x3 x1 (0 : Int32) S
def w_X2_plantByPlan (x0 : Nat) (x1 : Int32) (x2 : Int32) (x3 : Int32) (S : sT) (Q : sT → Prop) : Prop := w_X2_plantByPlan_b0 x0 x1 x2 x3 S Q
def r_X2_plantByPlan : Room := x_rm 4 87 0 0
theorem b_X2_plantByPlan : x_BV yX2_plantByPlan cX2_plantByPlan 6 none 3 := ⟨q_29_2, q_29_0, q_29_1, q_1_12, by decide +kernel⟩
set_option maxHeartbeats 4000000 in
theorem t_X2_plantByPlan_b44 {Q : sT → Prop} (C : x_C p s m args c cX2_plantByPlan RX2 gg) (hml : c.maxLocals = 6) (hr : meth.sig.returnType = none) (hlocks : meth.locks = false) {x0 : Nat} {x2 : Int32} {x3 : Int32} {x4 : Int32} {x5 : Int32} {kk6 : Nat → Int32 → Int32 → Int32 → Int32 → sT → Prop} {S : sT} (hk6 : ∀ (x0 : Nat) (x2 : Int32) (x3 : Int32) (x4 : Int32) (x5 : Int32) (S : sT), kk6 x0 x2 x3 x4 x5 S → x_X p l e r_X2_plantByPlan s m args below meth c gg 6 0 0 (MQ below (va_Qv Q (fun S1 t => s_Rep gg S1 t.heap) (s_A gg)) args s 0 0 (s_A gg)) 6 [(0, .ref x0), (2, .int x2), (3, .int x3), (4, .int x4), (5, .int x5)] [] S) (h : w_X2_plantByPlan_b44 x0 x2 x3 x4 x5 S kk6 Q) : x_X p l e r_X2_plantByPlan s m args below meth c gg 6 0 0 (MQ below (va_Qv Q (fun S1 t => s_Rep gg S1 t.heap) (s_A gg)) args s 0 0 (s_A gg)) 44 [(0, .ref x0), (2, .int x2), (3, .int x3), (4, .int x4), (5, .int x5)] [] S := by
  unfold w_X2_plantByPlan_b44 at h
  obtain ⟨hx, hb, -⟩ := id C
  intro H locs ls hR hS hl
  refine lv_iload hx hb dX2_plantByPlan_44 (lv_at hl 3 rfl) ?_
  refine lv_iconst (v := 3) hx hb dX2_plantByPlan_46 (by decide) ?_
  refine lv_idiv hx hb dX2_plantByPlan_47 (by decide) ?_
  refine lv_topi (fun x101 ex101 => ?_)
  replace h := h x101 ex101
  refine lv_istore (lv' := [(4, .int x101), (0, .ref x0), (2, .int x2), (3, .int x3), (5, .int x5)]) hx hb dX2_plantByPlan_48 hl (by decide) rfl (fun ls hl => ?_)
  obtain ⟨x102, ex102⟩ : ∃ z : Int32, z = x5 + 1 := ⟨_, rfl⟩
  replace h := h x102 ex102
  refine lv_iinc (v := x102) (lv' := [(5, .int x102), (4, .int x101), (0, .ref x0), (2, .int x2), (3, .int x3)]) hx hb dX2_plantByPlan_50 hl (k := 4) rfl (by rw [ex102]; rfl) (by decide) rfl (fun ls hl => ?_)
  refine lv_goto (tgt := 6) hx hb dX2_plantByPlan_53 (by decide) ?_
  exact hk6 x0 x2 x3 x101 x102 S h H locs ls hR hS (lv_sub (l' := [(0, .ref x0), (2, .int x2), (3, .int x3), (4, .int x101), (5, .int x102)]) hl [2, 3, 4, 1, 0] rfl)
set_option maxHeartbeats 4000000 in
theorem t_X2_plantByPlan_b6 {Q : sT → Prop} (C : x_C p s m args c cX2_plantByPlan RX2 gg) (hml : c.maxLocals = 6) (hr : meth.sig.returnType = none) (hlocks : meth.locks = false)   : ∀ (n : Nat) (x0 : Nat) (x2 : Int32) (x3 : Int32) (x4 : Int32) (x5 : Int32) (S : sT), w_X2_plantByPlan_b6  Q n x0 x2 x3 x4 x5 S → x_X p l e r_X2_plantByPlan s m args below meth c gg 6 0 0 (MQ below (va_Qv Q (fun S1 t => s_Rep gg S1 t.heap) (s_A gg)) args s 0 0 (s_A gg)) 6 [(0, .ref x0), (2, .int x2), (3, .int x3), (4, .int x4), (5, .int x5)] [] S := by
  obtain ⟨hx, hb, -⟩ := id C
  intro n
  induction n with
  | zero => intro x0 x2 x3 x4 x5 S h; exact absurd h id
  | succ n ih =>
    intro x0 x2 x3 x4 x5 S h H locs ls hR hS hl
    unfold w_X2_plantByPlan_b6 at h
    refine lv_iload hx hb dX2_plantByPlan_6 (lv_at hl 4 rfl) ?_
    refine lv_aload_n hx hb dX2_plantByPlan_8 rfl (lv_at hl 0 rfl) ?_
    obtain ⟨hK_x0, h⟩ := h
    refine x_g_96 C hR hK_x0 q_1_21 dX2_plantByPlan_9 ?_
    obtain ⟨a101, ea101, h⟩ := h
    refine x_some ea101 ?_
    obtain ⟨hK_a101, h⟩ := h
    refine x_ki (x_runV (As := []) (rest := [.int x5]) C hml hR hS (m_Jx4a65c_size_8abf5 l gg a101 S h) b_Jx4a65c_size_8abf5 q_4_7 (by rw [hK_a101]; decide) (s_E_0 hK_a101) rfl rfl rfl rfl ⟨Nat.le_of_ble_eq_true rfl, Nat.le_of_ble_eq_true rfl⟩ rfl hl.1 (Nat.le_of_ble_eq_true rfl) dX2_plantByPlan_12 ⟨Nat.le_refl _, Nat.le_refl _⟩) hS (fun x103 S102 H locs hn hR hS => ?_)
    replace h := hn
    clear hn
    refine lv_icmp_ge (tgt := 56) hx hb dX2_plantByPlan_15 (by decide) (fun hc104 => ?_) (fun hc104 => ?_)
    · replace h := h.1 hc104
      exact W.vret hx hb hr (fun t ht hW => ⟨⟨S102, rfl, h, x_rt ht hR⟩, hS.F ht⟩) hS.2.2 dX2_plantByPlan_56
    · replace h := h.2 hc104
      refine lv_iload hx hb dX2_plantByPlan_18 (lv_at hl 3 rfl) ?_
      refine lv_iconst (v := 3) hx hb dX2_plantByPlan_20 (by decide) ?_
      refine lv_irem hx hb dX2_plantByPlan_21 (by decide) ?_
      refine lv_topi (fun x105 ex105 => ?_)
      replace h := h x105 ex105
      refine lv_iconst (v := 5) hx hb dX2_plantByPlan_22 (by decide) ?_
      refine lv_imul hx hb dX2_plantByPlan_23 ?_
      refine lv_topi (fun x106 ex106 => ?_)
      replace h := h x106 ex106
      refine lv_iload_n hx hb dX2_plantByPlan_24 rfl (lv_at hl 2 rfl) ?_
      refine lv_icmp_ne (tgt := 44) hx hb dX2_plantByPlan_25 (by decide) (fun hc107 => ?_) (fun hc107 => ?_)
      · replace h := h.1 hc107
        exact t_X2_plantByPlan_b44 C hml hr hlocks (fun x0 x2 x3 x4 x5 S h => ih x0 x2 x3 x4 x5 S h) h H locs ls hR hS (lv_sub (l' := [(0, .ref x0), (2, .int x2), (3, .int x3), (4, .int x4), (5, .int x5)]) hl [0, 1, 2, 3, 4] rfl)
      · replace h := h.2 hc107
        refine lv_aload_n hx hb dX2_plantByPlan_28 rfl (lv_at hl 0 rfl) ?_
        obtain ⟨hK_x0, h⟩ := h
        refine x_g_96 C hR hK_x0 q_1_21 dX2_plantByPlan_29 ?_
        obtain ⟨a108, ea108, h⟩ := h
        refine x_some ea108 ?_
        refine lv_iload hx hb dX2_plantByPlan_32 (lv_at hl 4 rfl) ?_
        obtain ⟨hK_a108, h⟩ := h
        refine x_kq (x_runV (As := [.int x5]) (rest := []) C hml hR hS (m_Jx4a65c_get_915e3 l gg a108 x5 S102 h) b_Jx4a65c_get_915e3 q_8_14 (by rw [hK_a108]; decide) (s_E_0 hK_a108) rfl rfl rfl rfl ⟨Nat.le_of_ble_eq_true rfl, Nat.le_of_ble_eq_true rfl⟩ rfl hl.1 (Nat.le_of_ble_eq_true rfl) dX2_plantByPlan_34 ⟨Nat.le_refl _, Nat.le_refl _⟩) hS (fun ra110 S109 H locs hn hR hS => ?_)
        replace h := hn
        clear hn
        obtain ⟨a110, za110, h⟩ := h
        refine x_some za110 ?_
        obtain ⟨hK_a110, h⟩ := h
        refine x_cast (ci := 6) C hR (by rw [hK_a110]; decide) (s_E_6 hK_a110) rfl q_8_9 rfl dX2_plantByPlan_37 ?_
        refine lv_iload_n hx hb dX2_plantByPlan_40 rfl (lv_at hl 1 rfl) ?_
        refine x_kv (x_runV (As := [.int x2]) (rest := []) C hml hR hS (m_X5_plantAll l gg a110 x2 S109 h) b_X5_plantAll q_29_3 (by rw [hK_a110]; decide) (s_E_6 hK_a110) rfl rfl rfl rfl ⟨Nat.le_of_ble_eq_true rfl, Nat.le_of_ble_eq_true rfl⟩ rfl hl.1 (Nat.le_of_ble_eq_true rfl) dX2_plantByPlan_41 ⟨Nat.le_refl _, Nat.le_refl _⟩) hS (fun S111 H locs hn hR hS => ?_)
        replace h := hn
        clear hn
        exact t_X2_plantByPlan_b44 C hml hr hlocks (fun x0 x2 x3 x4 x5 S h => ih x0 x2 x3 x4 x5 S h) h H locs ls hR hS (lv_sub (l' := [(0, .ref x0), (2, .int x2), (3, .int x3), (4, .int x4), (5, .int x5)]) hl [0, 1, 2, 3, 4] rfl)
set_option maxHeartbeats 4000000 in
theorem t_X2_plantByPlan_b0 {Q : sT → Prop} (C : x_C p s m args c cX2_plantByPlan RX2 gg) (hml : c.maxLocals = 6) (hr : meth.sig.returnType = none) (hlocks : meth.locks = false) {x0 : Nat} {x1 : Int32} {x2 : Int32} {x3 : Int32}  {S : sT}  (h : w_X2_plantByPlan_b0 x0 x1 x2 x3 S  Q) : x_X p l e r_X2_plantByPlan s m args below meth c gg 6 0 0 (MQ below (va_Qv Q (fun S1 t => s_Rep gg S1 t.heap) (s_A gg)) args s 0 0 (s_A gg)) 0 [(0, .ref x0), (1, .int x1), (2, .int x2), (3, .int x3)] [] S := by
  unfold w_X2_plantByPlan_b0 at h
  obtain ⟨hx, hb, -⟩ := id C
  intro H locs ls hR hS hl
  refine lv_iload_n hx hb dX2_plantByPlan_0 rfl (lv_at hl 1 rfl) ?_
  refine lv_istore (lv' := [(4, .int x1), (0, .ref x0), (1, .int x1), (2, .int x2), (3, .int x3)]) hx hb dX2_plantByPlan_1 hl (by decide) rfl (fun ls hl => ?_)
  refine lv_iconst (v := 0) hx hb dX2_plantByPlan_3 (by decide) ?_
  refine lv_istore (lv' := [(5, .int (0 : Int32)), (4, .int x1), (0, .ref x0), (1, .int x1), (2, .int x2), (3, .int x3)]) hx hb dX2_plantByPlan_4 hl (by decide) rfl (fun ls hl => ?_)
  obtain ⟨n9, h⟩ := h
  exact t_X2_plantByPlan_b6 C hml hr hlocks  n9 x0 x2 x3 x1 (0 : Int32) S h H locs ls hR hS (lv_sub (l' := [(0, .ref x0), (2, .int x2), (3, .int x3), (4, .int x1), (5, .int (0 : Int32))]) hl [2, 4, 5, 1, 0] rfl)
theorem m_X2_plantByPlan (l : Launch) (gg : sG) (x0 : Nat) (x1 : Int32) (x2 : Int32) (x3 : Int32) (S : sT) {Q : sT → Prop} (h : w_X2_plantByPlan x0 x1 x2 x3 S Q) : x_Mv l gg yX2_plantByPlan (x_ws yX2_plantByPlan cX2_plantByPlan 6 none) r_X2_plantByPlan [.ref x0, .int x1, .int x2, .int x3] S Q 0 0 := by
  refine x_ofW (cc := cX2_plantByPlan) (own := RX2) (by decide +kernel) rfl (Nat.le_of_ble_eq_true rfl) ?_
  intro p e s m args below meth c C hml hr hlocks hin ht H locs ls hR hS hl
  exact t_X2_plantByPlan_b0 C hml hr hlocks h H locs ls hR hS (lv_sub (l' := [(0, .ref x0), (1, .int x1), (2, .int x2), (3, .int x3)]) hl [0, 1, 2, 3] rfl)
def w_X2_yieldOf_b36 (y0 : Int32) (S : sT)  (Q : Int32 → sT → Prop) : Prop :=
Q y0 S
def w_X2_yieldOf_b35  (S : sT)  (Q : Int32 → sT → Prop) : Prop :=
w_X2_yieldOf_b36 (0 : Int32) S  Q
def w_X2_yieldOf_b0 (x0 : Nat) (x1 : Int32) (S : sT)  (Q : Int32 → sT → Prop) : Prop :=
((x1 < 0 → w_X2_yieldOf_b35  S  Q) ∧
    (¬ x1 < 0 → s_K S x0 = 4 ∧
    ∃ a102 : Nat, s_R S 97 x0 = some a102 ∧
    s_K S a102 = 1 ∧
    w_Jx4a65c_size_8abf5 a102 S (fun x104 S103 =>
    ((x104 ≤ x1 → w_X2_yieldOf_b35  S103  Q) ∧
    (¬ x104 ≤ x1 → s_K S103 x0 = 4 ∧
    ∃ a106 : Nat, s_R S103 97 x0 = some a106 ∧
    s_K S103 a106 = 1 ∧
    w_Jx4a65c_get_915e3 a106 x1 S103 (fun a108 S107 =>
    s_K S107 a108 = 3 ∧
    ∃ a109 : Nat, s_R S107 69 a108 = some a109 ∧
    s_K S107 a109 = 2 ∧
    w_X0_ripeYield a109 S107 (fun x111 S110 =>
    w_X2_yieldOf_b36 x111 S110  Q)))))))
def w_X2_yieldOf (x0 : Nat) (x1 : Int32) (S : sT) (Q : Int32 → sT → Prop) : Prop := w_X2_yieldOf_b0 x0 x1 S Q
def r_X2_yieldOf : Room := x_rm 3 64 0 0
theorem b_X2_yieldOf : x_BV yX2_yieldOf cX2_yieldOf 2 (some .int) 1 := ⟨q_28_2, q_28_0, q_28_1, q_1_12, by decide +kernel⟩
set_option maxHeartbeats 4000000 in
theorem t_X2_yieldOf_b36 {Q : Int32 → sT → Prop} (C : x_C p s m args c cX2_yieldOf RX2 gg) (hml : c.maxLocals = 2) (hr : meth.sig.returnType = (some .int)) (hlocks : meth.locks = false) {y0 : Int32}  {S : sT}  (h : w_X2_yieldOf_b36 y0 S  Q) : x_X p l e r_X2_yieldOf s m args below meth c gg 2 0 0 (MQ below (va_Qi Q (fun S1 t => s_Rep gg S1 t.heap) (s_A gg)) args s 0 0 (s_A gg)) 36 [] [.int y0] S := by
  unfold w_X2_yieldOf_b36 at h
  obtain ⟨hx, hb, -⟩ := id C
  intro H locs ls hR hS hl
  exact W.iret (v := y0) hx hb hr (fun t ht hW => ⟨⟨y0, S, rfl, h, x_rt ht hR⟩, hS.F ht⟩) hS.2.2 dX2_yieldOf_36
set_option maxHeartbeats 4000000 in
theorem t_X2_yieldOf_b35 {Q : Int32 → sT → Prop} (C : x_C p s m args c cX2_yieldOf RX2 gg) (hml : c.maxLocals = 2) (hr : meth.sig.returnType = (some .int)) (hlocks : meth.locks = false)   {S : sT}  (h : w_X2_yieldOf_b35  S  Q) : x_X p l e r_X2_yieldOf s m args below meth c gg 2 0 0 (MQ below (va_Qi Q (fun S1 t => s_Rep gg S1 t.heap) (s_A gg)) args s 0 0 (s_A gg)) 35 [] [] S := by
  unfold w_X2_yieldOf_b35 at h
  obtain ⟨hx, hb, -⟩ := id C
  intro H locs ls hR hS hl
  refine lv_iconst (v := 0) hx hb dX2_yieldOf_35 (by decide) ?_
  exact t_X2_yieldOf_b36 C hml hr hlocks  h H locs ls hR hS (lv_sub (l' := []) hl [] rfl)
set_option maxHeartbeats 4000000 in
theorem t_X2_yieldOf_b0 {Q : Int32 → sT → Prop} (C : x_C p s m args c cX2_yieldOf RX2 gg) (hml : c.maxLocals = 2) (hr : meth.sig.returnType = (some .int)) (hlocks : meth.locks = false) {x0 : Nat} {x1 : Int32}  {S : sT}  (h : w_X2_yieldOf_b0 x0 x1 S  Q) : x_X p l e r_X2_yieldOf s m args below meth c gg 2 0 0 (MQ below (va_Qi Q (fun S1 t => s_Rep gg S1 t.heap) (s_A gg)) args s 0 0 (s_A gg)) 0 [(0, .ref x0), (1, .int x1)] [] S := by
  unfold w_X2_yieldOf_b0 at h
  obtain ⟨hx, hb, -⟩ := id C
  intro H locs ls hR hS hl
  refine lv_iload_n hx hb dX2_yieldOf_0 rfl (lv_at hl 1 rfl) ?_
  refine lv_if_lt (tgt := 35) hx hb dX2_yieldOf_1 (by decide) (fun hc101 => ?_) (fun hc101 => ?_)
  · replace h := h.1 hc101
    exact t_X2_yieldOf_b35 C hml hr hlocks  h H locs ls hR hS (lv_sub (l' := []) hl [] rfl)
  · replace h := h.2 hc101
    refine lv_iload_n hx hb dX2_yieldOf_4 rfl (lv_at hl 1 rfl) ?_
    refine lv_aload_n hx hb dX2_yieldOf_5 rfl (lv_at hl 0 rfl) ?_
    obtain ⟨hK_x0, h⟩ := h
    refine x_g_97 C hR hK_x0 q_1_22 dX2_yieldOf_6 ?_
    obtain ⟨a102, ea102, h⟩ := h
    refine x_some ea102 ?_
    obtain ⟨hK_a102, h⟩ := h
    refine x_ki (x_runV (As := []) (rest := [.int x1]) C hml hR hS (m_Jx4a65c_size_8abf5 l gg a102 S h) b_Jx4a65c_size_8abf5 q_4_7 (by rw [hK_a102]; decide) (s_E_0 hK_a102) rfl rfl rfl rfl ⟨Nat.le_of_ble_eq_true rfl, Nat.le_of_ble_eq_true rfl⟩ rfl hl.1 (Nat.le_of_ble_eq_true rfl) dX2_yieldOf_9 ⟨Nat.le_refl _, Nat.le_refl _⟩) hS (fun x104 S103 H locs hn hR hS => ?_)
    replace h := hn
    clear hn
    refine lv_icmp_ge (tgt := 35) hx hb dX2_yieldOf_12 (by decide) (fun hc105 => ?_) (fun hc105 => ?_)
    · replace h := h.1 hc105
      exact t_X2_yieldOf_b35 C hml hr hlocks  h H locs ls hR hS (lv_sub (l' := []) hl [] rfl)
    · replace h := h.2 hc105
      refine lv_aload_n hx hb dX2_yieldOf_15 rfl (lv_at hl 0 rfl) ?_
      obtain ⟨hK_x0, h⟩ := h
      refine x_g_97 C hR hK_x0 q_1_22 dX2_yieldOf_16 ?_
      obtain ⟨a106, ea106, h⟩ := h
      refine x_some ea106 ?_
      refine lv_iload_n hx hb dX2_yieldOf_19 rfl (lv_at hl 1 rfl) ?_
      obtain ⟨hK_a106, h⟩ := h
      refine x_kq (x_runV (As := [.int x1]) (rest := []) C hml hR hS (m_Jx4a65c_get_915e3 l gg a106 x1 S103 h) b_Jx4a65c_get_915e3 q_8_14 (by rw [hK_a106]; decide) (s_E_0 hK_a106) rfl rfl rfl rfl ⟨Nat.le_of_ble_eq_true rfl, Nat.le_of_ble_eq_true rfl⟩ rfl hl.1 (Nat.le_of_ble_eq_true rfl) dX2_yieldOf_20 ⟨Nat.le_refl _, Nat.le_refl _⟩) hS (fun ra108 S107 H locs hn hR hS => ?_)
      replace h := hn
      clear hn
      obtain ⟨a108, za108, h⟩ := h
      refine x_some za108 ?_
      obtain ⟨hK_a108, h⟩ := h
      refine x_cast (ci := 2) C hR (by rw [hK_a108]; decide) (s_E_2 hK_a108) rfl q_20_11 rfl dX2_yieldOf_23 ?_
      refine x_g_69 C hR hK_a108 q_20_12 dX2_yieldOf_26 ?_
      obtain ⟨a109, ea109, h⟩ := h
      refine x_some ea109 ?_
      obtain ⟨hK_a109, h⟩ := h
      refine x_ki (x_runV (As := []) (rest := []) C hml hR hS (m_X0_ripeYield l gg a109 S107 h) b_X0_ripeYield q_28_3 (by rw [hK_a109]; decide) (s_E_1 hK_a109) rfl rfl rfl rfl ⟨Nat.le_of_ble_eq_true rfl, Nat.le_of_ble_eq_true rfl⟩ rfl hl.1 (Nat.le_of_ble_eq_true rfl) dX2_yieldOf_29 ⟨Nat.le_refl _, Nat.le_refl _⟩) hS (fun x111 S110 H locs hn hR hS => ?_)
      replace h := hn
      clear hn
      refine lv_goto (tgt := 36) hx hb dX2_yieldOf_32 (by decide) ?_
      exact t_X2_yieldOf_b36 C hml hr hlocks  h H locs ls hR hS (lv_sub (l' := []) hl [] rfl)
theorem m_X2_yieldOf (l : Launch) (gg : sG) (x0 : Nat) (x1 : Int32) (S : sT) {Q : Int32 → sT → Prop} (h : w_X2_yieldOf x0 x1 S Q) : x_Mi l gg yX2_yieldOf (x_ws yX2_yieldOf cX2_yieldOf 2 (some .int)) r_X2_yieldOf [.ref x0, .int x1] S Q 0 0 := by
  refine x_ofW (cc := cX2_yieldOf) (own := RX2) (by decide +kernel) rfl (Nat.le_of_ble_eq_true rfl) ?_
  intro p e s m args below meth c C hml hr hlocks hin ht H locs ls hR hS hl
  exact t_X2_yieldOf_b0 C hml hr hlocks h H locs ls hR hS (lv_sub (l' := [(0, .ref x0), (1, .int x1)]) hl [0, 1] rfl)
def w_X2_sumOfYields_b4  (Q : Int32 → sT → Prop) : Nat → Nat → Int32 → Int32 → sT → Prop
  | 0 => fun _ _ _ _ => False
  | n + 1 => fun x0 x1 x2 S =>
s_K S x0 = 4 ∧
    ∃ a101 : Nat, s_R S 97 x0 = some a101 ∧
    s_K S a101 = 1 ∧
    w_Jx4a65c_size_8abf5 a101 S (fun x103 S102 =>
    ((x103 ≤ x2 → Q x1 S102) ∧
    (¬ x103 ≤ x2 → s_K S102 x0 = 4 ∧
    ∃ a105 : Nat, s_R S102 97 x0 = some a105 ∧
    s_K S102 a105 = 1 ∧
    w_Jx4a65c_get_915e3 a105 x2 S102 (fun a107 S106 =>
    s_K S106 a107 = 3 ∧
    ∃ a108 : Nat, s_R S106 69 a107 = some a108 ∧
    s_K S106 a108 = 2 ∧
    w_X0_ripeYield a108 S106 (fun x110 S109 =>
    ∀ x111 : Int32, x111 = x1 + x110 →
    ∀ x112 : Int32, x112 = x2 + 1 →
    w_X2_sumOfYields_b4  Q n x0 x111 x112 S109)))))
def w_X2_sumOfYields_b0 (x0 : Nat) (S : sT)  (Q : Int32 → sT → Prop) : Prop :=
∃ n9 : Nat, w_X2_sumOfYields_b4  Q n9 x0 (0 : Int32) (0 : Int32) S
def w_X2_sumOfYields (x0 : Nat) (S : sT) (Q : Int32 → sT → Prop) : Prop := w_X2_sumOfYields_b0 x0 S Q
def r_X2_sumOfYields : Room := x_rm 3 64 0 0
theorem b_X2_sumOfYields : x_BV yX2_sumOfYields cX2_sumOfYields 3 (some .int) 0 := ⟨q_29_14, q_29_12, q_29_13, q_1_12, by decide +kernel⟩
set_option maxHeartbeats 4000000 in
theorem t_X2_sumOfYields_b4 {Q : Int32 → sT → Prop} (C : x_C p s m args c cX2_sumOfYields RX2 gg) (hml : c.maxLocals = 3) (hr : meth.sig.returnType = (some .int)) (hlocks : meth.locks = false)   : ∀ (n : Nat) (x0 : Nat) (x1 : Int32) (x2 : Int32) (S : sT), w_X2_sumOfYields_b4  Q n x0 x1 x2 S → x_X p l e r_X2_sumOfYields s m args below meth c gg 3 0 0 (MQ below (va_Qi Q (fun S1 t => s_Rep gg S1 t.heap) (s_A gg)) args s 0 0 (s_A gg)) 4 [(0, .ref x0), (1, .int x1), (2, .int x2)] [] S := by
  obtain ⟨hx, hb, -⟩ := id C
  intro n
  induction n with
  | zero => intro x0 x1 x2 S h; exact absurd h id
  | succ n ih =>
    intro x0 x1 x2 S h H locs ls hR hS hl
    unfold w_X2_sumOfYields_b4 at h
    refine lv_iload_n hx hb dX2_sumOfYields_4 rfl (lv_at hl 2 rfl) ?_
    refine lv_aload_n hx hb dX2_sumOfYields_5 rfl (lv_at hl 0 rfl) ?_
    obtain ⟨hK_x0, h⟩ := h
    refine x_g_97 C hR hK_x0 q_1_22 dX2_sumOfYields_6 ?_
    obtain ⟨a101, ea101, h⟩ := h
    refine x_some ea101 ?_
    obtain ⟨hK_a101, h⟩ := h
    refine x_ki (x_runV (As := []) (rest := [.int x2]) C hml hR hS (m_Jx4a65c_size_8abf5 l gg a101 S h) b_Jx4a65c_size_8abf5 q_4_7 (by rw [hK_a101]; decide) (s_E_0 hK_a101) rfl rfl rfl rfl ⟨Nat.le_of_ble_eq_true rfl, Nat.le_of_ble_eq_true rfl⟩ rfl hl.1 (Nat.le_of_ble_eq_true rfl) dX2_sumOfYields_9 ⟨Nat.le_refl _, Nat.le_refl _⟩) hS (fun x103 S102 H locs hn hR hS => ?_)
    replace h := hn
    clear hn
    refine lv_icmp_ge (tgt := 41) hx hb dX2_sumOfYields_12 (by decide) (fun hc104 => ?_) (fun hc104 => ?_)
    · replace h := h.1 hc104
      refine lv_iload_n hx hb dX2_sumOfYields_41 rfl (lv_at hl 1 rfl) ?_
      exact W.iret (v := x1) hx hb hr (fun t ht hW => ⟨⟨x1, S102, rfl, h, x_rt ht hR⟩, hS.F ht⟩) hS.2.2 dX2_sumOfYields_42
    · replace h := h.2 hc104
      refine lv_iload_n hx hb dX2_sumOfYields_15 rfl (lv_at hl 1 rfl) ?_
      refine lv_aload_n hx hb dX2_sumOfYields_16 rfl (lv_at hl 0 rfl) ?_
      obtain ⟨hK_x0, h⟩ := h
      refine x_g_97 C hR hK_x0 q_1_22 dX2_sumOfYields_17 ?_
      obtain ⟨a105, ea105, h⟩ := h
      refine x_some ea105 ?_
      refine lv_iload_n hx hb dX2_sumOfYields_20 rfl (lv_at hl 2 rfl) ?_
      obtain ⟨hK_a105, h⟩ := h
      refine x_kq (x_runV (As := [.int x2]) (rest := [.int x1]) C hml hR hS (m_Jx4a65c_get_915e3 l gg a105 x2 S102 h) b_Jx4a65c_get_915e3 q_8_14 (by rw [hK_a105]; decide) (s_E_0 hK_a105) rfl rfl rfl rfl ⟨Nat.le_of_ble_eq_true rfl, Nat.le_of_ble_eq_true rfl⟩ rfl hl.1 (Nat.le_of_ble_eq_true rfl) dX2_sumOfYields_21 ⟨Nat.le_refl _, Nat.le_refl _⟩) hS (fun ra107 S106 H locs hn hR hS => ?_)
      replace h := hn
      clear hn
      obtain ⟨a107, za107, h⟩ := h
      refine x_some za107 ?_
      obtain ⟨hK_a107, h⟩ := h
      refine x_cast (ci := 2) C hR (by rw [hK_a107]; decide) (s_E_2 hK_a107) rfl q_20_11 rfl dX2_sumOfYields_24 ?_
      refine x_g_69 C hR hK_a107 q_20_12 dX2_sumOfYields_27 ?_
      obtain ⟨a108, ea108, h⟩ := h
      refine x_some ea108 ?_
      obtain ⟨hK_a108, h⟩ := h
      refine x_ki (x_runV (As := []) (rest := [.int x1]) C hml hR hS (m_X0_ripeYield l gg a108 S106 h) b_X0_ripeYield q_28_3 (by rw [hK_a108]; decide) (s_E_1 hK_a108) rfl rfl rfl rfl ⟨Nat.le_of_ble_eq_true rfl, Nat.le_of_ble_eq_true rfl⟩ rfl hl.1 (Nat.le_of_ble_eq_true rfl) dX2_sumOfYields_30 ⟨Nat.le_refl _, Nat.le_refl _⟩) hS (fun x110 S109 H locs hn hR hS => ?_)
      replace h := hn
      clear hn
      refine lv_iadd hx hb dX2_sumOfYields_33 ?_
      refine lv_topi (fun x111 ex111 => ?_)
      replace h := h x111 ex111
      refine lv_istore_n (lv' := [(1, .int x111), (0, .ref x0), (2, .int x2)]) hx hb dX2_sumOfYields_34 rfl hl (by decide) rfl (fun ls hl => ?_)
      obtain ⟨x112, ex112⟩ : ∃ z : Int32, z = x2 + 1 := ⟨_, rfl⟩
      replace h := h x112 ex112
      refine lv_iinc (v := x112) (lv' := [(2, .int x112), (1, .int x111), (0, .ref x0)]) hx hb dX2_sumOfYields_35 hl (k := 2) rfl (by rw [ex112]; rfl) (by decide) rfl (fun ls hl => ?_)
      refine lv_goto (tgt := 4) hx hb dX2_sumOfYields_38 (by decide) ?_
      exact ih x0 x111 x112 S109 h H locs ls hR hS (lv_sub (l' := [(0, .ref x0), (1, .int x111), (2, .int x112)]) hl [2, 1, 0] rfl)
set_option maxHeartbeats 4000000 in
theorem t_X2_sumOfYields_b0 {Q : Int32 → sT → Prop} (C : x_C p s m args c cX2_sumOfYields RX2 gg) (hml : c.maxLocals = 3) (hr : meth.sig.returnType = (some .int)) (hlocks : meth.locks = false) {x0 : Nat}  {S : sT}  (h : w_X2_sumOfYields_b0 x0 S  Q) : x_X p l e r_X2_sumOfYields s m args below meth c gg 3 0 0 (MQ below (va_Qi Q (fun S1 t => s_Rep gg S1 t.heap) (s_A gg)) args s 0 0 (s_A gg)) 0 [(0, .ref x0)] [] S := by
  unfold w_X2_sumOfYields_b0 at h
  obtain ⟨hx, hb, -⟩ := id C
  intro H locs ls hR hS hl
  refine lv_iconst (v := 0) hx hb dX2_sumOfYields_0 (by decide) ?_
  refine lv_istore_n (lv' := [(1, .int (0 : Int32)), (0, .ref x0)]) hx hb dX2_sumOfYields_1 rfl hl (by decide) rfl (fun ls hl => ?_)
  refine lv_iconst (v := 0) hx hb dX2_sumOfYields_2 (by decide) ?_
  refine lv_istore_n (lv' := [(2, .int (0 : Int32)), (1, .int (0 : Int32)), (0, .ref x0)]) hx hb dX2_sumOfYields_3 rfl hl (by decide) rfl (fun ls hl => ?_)
  obtain ⟨n9, h⟩ := h
  exact t_X2_sumOfYields_b4 C hml hr hlocks  n9 x0 (0 : Int32) (0 : Int32) S h H locs ls hR hS (lv_sub (l' := [(0, .ref x0), (1, .int (0 : Int32)), (2, .int (0 : Int32))]) hl [2, 1, 0] rfl)
theorem m_X2_sumOfYields (l : Launch) (gg : sG) (x0 : Nat) (S : sT) {Q : Int32 → sT → Prop} (h : w_X2_sumOfYields x0 S Q) : x_Mi l gg yX2_sumOfYields (x_ws yX2_sumOfYields cX2_sumOfYields 3 (some .int)) r_X2_sumOfYields [.ref x0] S Q 0 0 := by
  refine x_ofW (cc := cX2_sumOfYields) (own := RX2) (by decide +kernel) rfl (Nat.le_of_ble_eq_true rfl) ?_
  intro p e s m args below meth c C hml hr hlocks hin ht H locs ls hR hS hl
  exact t_X2_sumOfYields_b0 C hml hr hlocks h H locs ls hR hS (lv_sub (l' := [(0, .ref x0)]) hl [0] rfl)
def w_X2_countRipe_b42 (x0 : Nat) (x2 : Int32) (y0 : Int32) (y1 : Int32) (S : sT) (kk4 : Nat → Int32 → Int32 → sT → Prop) (Q : Int32 → sT → Prop) : Prop :=
∀ x101 : Int32, x101 = y1 + y0 →
    ∀ x102 : Int32, x102 = x2 + 1 →
    kk4 x0 x101 x102 S
def w_X2_countRipe_b4  (Q : Int32 → sT → Prop) : Nat → Nat → Int32 → Int32 → sT → Prop
  | 0 => fun _ _ _ _ => False
  | n + 1 => fun x0 x1 x2 S =>
s_K S x0 = 4 ∧
    ∃ a101 : Nat, s_R S 97 x0 = some a101 ∧
    s_K S a101 = 1 ∧
    w_Jx4a65c_size_8abf5 a101 S (fun x103 S102 =>
    ((x103 ≤ x2 → Q x1 S102) ∧
    (¬ x103 ≤ x2 → s_K S102 x0 = 4 ∧
    ∃ a105 : Nat, s_R S102 97 x0 = some a105 ∧
    s_K S102 a105 = 1 ∧
    w_Jx4a65c_get_915e3 a105 x2 S102 (fun a107 S106 =>
    s_K S106 a107 = 3 ∧
    ∃ a108 : Nat, s_R S106 69 a107 = some a108 ∧
    s_K S106 a108 = 2 ∧
    ∀ x109 : Int32, x109 = s_I S106 32 a108 →
    ((¬ x109 = (5 : Int32) → w_X2_countRipe_b42 x0 x2 (0 : Int32) x1 S106 (fun x0 x1 x2 S => w_X2_countRipe_b4  Q n x0 x1 x2 S) Q) ∧
    (x109 = (5 : Int32) → w_X2_countRipe_b42 x0 x2 (1 : Int32) x1 S106 (fun x0 x1 x2 S => w_X2_countRipe_b4  Q n x0 x1 x2 S) Q))))))
def w_X2_countRipe_b0 (x0 : Nat) (S : sT)  (Q : Int32 → sT → Prop) : Prop :=
∃ n9 : Nat, w_X2_countRipe_b4  Q n9 x0 (0 : Int32) (0 : Int32) S
def w_X2_countRipe (x0 : Nat) (S : sT) (Q : Int32 → sT → Prop) : Prop := w_X2_countRipe_b0 x0 S Q
def r_X2_countRipe : Room := x_rm 3 64 0 0
theorem b_X2_countRipe : x_BV yX2_countRipe cX2_countRipe 3 (some .int) 0 := ⟨q_28_14, q_28_12, q_28_13, q_1_12, by decide +kernel⟩
set_option maxHeartbeats 4000000 in
theorem t_X2_countRipe_b42 {Q : Int32 → sT → Prop} (C : x_C p s m args c cX2_countRipe RX2 gg) (hml : c.maxLocals = 3) (hr : meth.sig.returnType = (some .int)) (hlocks : meth.locks = false) {x0 : Nat} {x2 : Int32} {y0 : Int32} {y1 : Int32} {kk4 : Nat → Int32 → Int32 → sT → Prop} {S : sT} (hk4 : ∀ (x0 : Nat) (x1 : Int32) (x2 : Int32) (S : sT), kk4 x0 x1 x2 S → x_X p l e r_X2_countRipe s m args below meth c gg 3 0 0 (MQ below (va_Qi Q (fun S1 t => s_Rep gg S1 t.heap) (s_A gg)) args s 0 0 (s_A gg)) 4 [(0, .ref x0), (1, .int x1), (2, .int x2)] [] S) (h : w_X2_countRipe_b42 x0 x2 y0 y1 S kk4 Q) : x_X p l e r_X2_countRipe s m args below meth c gg 3 0 0 (MQ below (va_Qi Q (fun S1 t => s_Rep gg S1 t.heap) (s_A gg)) args s 0 0 (s_A gg)) 42 [(0, .ref x0), (2, .int x2)] [.int y0, .int y1] S := by
  unfold w_X2_countRipe_b42 at h
  obtain ⟨hx, hb, -⟩ := id C
  intro H locs ls hR hS hl
  refine lv_iadd hx hb dX2_countRipe_42 ?_
  refine lv_topi (fun x101 ex101 => ?_)
  replace h := h x101 ex101
  refine lv_istore_n (lv' := [(1, .int x101), (0, .ref x0), (2, .int x2)]) hx hb dX2_countRipe_43 rfl hl (by decide) rfl (fun ls hl => ?_)
  obtain ⟨x102, ex102⟩ : ∃ z : Int32, z = x2 + 1 := ⟨_, rfl⟩
  replace h := h x102 ex102
  refine lv_iinc (v := x102) (lv' := [(2, .int x102), (1, .int x101), (0, .ref x0)]) hx hb dX2_countRipe_44 hl (k := 2) rfl (by rw [ex102]; rfl) (by decide) rfl (fun ls hl => ?_)
  refine lv_goto (tgt := 4) hx hb dX2_countRipe_47 (by decide) ?_
  exact hk4 x0 x101 x102 S h H locs ls hR hS (lv_sub (l' := [(0, .ref x0), (1, .int x101), (2, .int x102)]) hl [2, 1, 0] rfl)
set_option maxHeartbeats 4000000 in
theorem t_X2_countRipe_b4 {Q : Int32 → sT → Prop} (C : x_C p s m args c cX2_countRipe RX2 gg) (hml : c.maxLocals = 3) (hr : meth.sig.returnType = (some .int)) (hlocks : meth.locks = false)   : ∀ (n : Nat) (x0 : Nat) (x1 : Int32) (x2 : Int32) (S : sT), w_X2_countRipe_b4  Q n x0 x1 x2 S → x_X p l e r_X2_countRipe s m args below meth c gg 3 0 0 (MQ below (va_Qi Q (fun S1 t => s_Rep gg S1 t.heap) (s_A gg)) args s 0 0 (s_A gg)) 4 [(0, .ref x0), (1, .int x1), (2, .int x2)] [] S := by
  obtain ⟨hx, hb, -⟩ := id C
  intro n
  induction n with
  | zero => intro x0 x1 x2 S h; exact absurd h id
  | succ n ih =>
    intro x0 x1 x2 S h H locs ls hR hS hl
    unfold w_X2_countRipe_b4 at h
    refine lv_iload_n hx hb dX2_countRipe_4 rfl (lv_at hl 2 rfl) ?_
    refine lv_aload_n hx hb dX2_countRipe_5 rfl (lv_at hl 0 rfl) ?_
    obtain ⟨hK_x0, h⟩ := h
    refine x_g_97 C hR hK_x0 q_1_22 dX2_countRipe_6 ?_
    obtain ⟨a101, ea101, h⟩ := h
    refine x_some ea101 ?_
    obtain ⟨hK_a101, h⟩ := h
    refine x_ki (x_runV (As := []) (rest := [.int x2]) C hml hR hS (m_Jx4a65c_size_8abf5 l gg a101 S h) b_Jx4a65c_size_8abf5 q_4_7 (by rw [hK_a101]; decide) (s_E_0 hK_a101) rfl rfl rfl rfl ⟨Nat.le_of_ble_eq_true rfl, Nat.le_of_ble_eq_true rfl⟩ rfl hl.1 (Nat.le_of_ble_eq_true rfl) dX2_countRipe_9 ⟨Nat.le_refl _, Nat.le_refl _⟩) hS (fun x103 S102 H locs hn hR hS => ?_)
    replace h := hn
    clear hn
    refine lv_icmp_ge (tgt := 50) hx hb dX2_countRipe_12 (by decide) (fun hc104 => ?_) (fun hc104 => ?_)
    · replace h := h.1 hc104
      refine lv_iload_n hx hb dX2_countRipe_50 rfl (lv_at hl 1 rfl) ?_
      exact W.iret (v := x1) hx hb hr (fun t ht hW => ⟨⟨x1, S102, rfl, h, x_rt ht hR⟩, hS.F ht⟩) hS.2.2 dX2_countRipe_51
    · replace h := h.2 hc104
      refine lv_iload_n hx hb dX2_countRipe_15 rfl (lv_at hl 1 rfl) ?_
      refine lv_aload_n hx hb dX2_countRipe_16 rfl (lv_at hl 0 rfl) ?_
      obtain ⟨hK_x0, h⟩ := h
      refine x_g_97 C hR hK_x0 q_1_22 dX2_countRipe_17 ?_
      obtain ⟨a105, ea105, h⟩ := h
      refine x_some ea105 ?_
      refine lv_iload_n hx hb dX2_countRipe_20 rfl (lv_at hl 2 rfl) ?_
      obtain ⟨hK_a105, h⟩ := h
      refine x_kq (x_runV (As := [.int x2]) (rest := [.int x1]) C hml hR hS (m_Jx4a65c_get_915e3 l gg a105 x2 S102 h) b_Jx4a65c_get_915e3 q_8_14 (by rw [hK_a105]; decide) (s_E_0 hK_a105) rfl rfl rfl rfl ⟨Nat.le_of_ble_eq_true rfl, Nat.le_of_ble_eq_true rfl⟩ rfl hl.1 (Nat.le_of_ble_eq_true rfl) dX2_countRipe_21 ⟨Nat.le_refl _, Nat.le_refl _⟩) hS (fun ra107 S106 H locs hn hR hS => ?_)
      replace h := hn
      clear hn
      obtain ⟨a107, za107, h⟩ := h
      refine x_some za107 ?_
      obtain ⟨hK_a107, h⟩ := h
      refine x_cast (ci := 2) C hR (by rw [hK_a107]; decide) (s_E_2 hK_a107) rfl q_20_11 rfl dX2_countRipe_24 ?_
      refine x_g_69 C hR hK_a107 q_20_12 dX2_countRipe_27 ?_
      obtain ⟨a108, ea108, h⟩ := h
      refine x_some ea108 ?_
      obtain ⟨hK_a108, h⟩ := h
      refine x_g_32 C hR hK_a108 q_24_6 dX2_countRipe_30 ?_
      refine lv_topi (fun x109 ex109 => ?_)
      replace h := h x109 ex109
      refine lv_iconst (v := 5) hx hb dX2_countRipe_33 (by decide) ?_
      refine lv_icmp_ne (tgt := 41) hx hb dX2_countRipe_34 (by decide) (fun hc110 => ?_) (fun hc110 => ?_)
      · replace h := h.1 hc110
        refine lv_iconst (v := 0) hx hb dX2_countRipe_41 (by decide) ?_
        exact t_X2_countRipe_b42 C hml hr hlocks (fun x0 x1 x2 S h => ih x0 x1 x2 S h) h H locs ls hR hS (lv_sub (l' := [(0, .ref x0), (2, .int x2)]) hl [0, 2] rfl)
      · replace h := h.2 hc110
        refine lv_iconst (v := 1) hx hb dX2_countRipe_37 (by decide) ?_
        refine lv_goto (tgt := 42) hx hb dX2_countRipe_38 (by decide) ?_
        exact t_X2_countRipe_b42 C hml hr hlocks (fun x0 x1 x2 S h => ih x0 x1 x2 S h) h H locs ls hR hS (lv_sub (l' := [(0, .ref x0), (2, .int x2)]) hl [0, 2] rfl)
set_option maxHeartbeats 4000000 in
theorem t_X2_countRipe_b0 {Q : Int32 → sT → Prop} (C : x_C p s m args c cX2_countRipe RX2 gg) (hml : c.maxLocals = 3) (hr : meth.sig.returnType = (some .int)) (hlocks : meth.locks = false) {x0 : Nat}  {S : sT}  (h : w_X2_countRipe_b0 x0 S  Q) : x_X p l e r_X2_countRipe s m args below meth c gg 3 0 0 (MQ below (va_Qi Q (fun S1 t => s_Rep gg S1 t.heap) (s_A gg)) args s 0 0 (s_A gg)) 0 [(0, .ref x0)] [] S := by
  unfold w_X2_countRipe_b0 at h
  obtain ⟨hx, hb, -⟩ := id C
  intro H locs ls hR hS hl
  refine lv_iconst (v := 0) hx hb dX2_countRipe_0 (by decide) ?_
  refine lv_istore_n (lv' := [(1, .int (0 : Int32)), (0, .ref x0)]) hx hb dX2_countRipe_1 rfl hl (by decide) rfl (fun ls hl => ?_)
  refine lv_iconst (v := 0) hx hb dX2_countRipe_2 (by decide) ?_
  refine lv_istore_n (lv' := [(2, .int (0 : Int32)), (1, .int (0 : Int32)), (0, .ref x0)]) hx hb dX2_countRipe_3 rfl hl (by decide) rfl (fun ls hl => ?_)
  obtain ⟨n9, h⟩ := h
  exact t_X2_countRipe_b4 C hml hr hlocks  n9 x0 (0 : Int32) (0 : Int32) S h H locs ls hR hS (lv_sub (l' := [(0, .ref x0), (1, .int (0 : Int32)), (2, .int (0 : Int32))]) hl [2, 1, 0] rfl)
theorem m_X2_countRipe (l : Launch) (gg : sG) (x0 : Nat) (S : sT) {Q : Int32 → sT → Prop} (h : w_X2_countRipe x0 S Q) : x_Mi l gg yX2_countRipe (x_ws yX2_countRipe cX2_countRipe 3 (some .int)) r_X2_countRipe [.ref x0] S Q 0 0 := by
  refine x_ofW (cc := cX2_countRipe) (own := RX2) (by decide +kernel) rfl (Nat.le_of_ble_eq_true rfl) ?_
  intro p e s m args below meth c C hml hr hlocks hin ht H locs ls hR hS hl
  exact t_X2_countRipe_b0 C hml hr hlocks h H locs ls hR hS (lv_sub (l' := [(0, .ref x0)]) hl [0] rfl)
def w_X2_copyFrom_b126  (S : sT)  (Q : sT → Prop) : Prop :=
Q S
def w_X2_copyFrom_b73  (Q : sT → Prop) : Nat → Nat → Nat → Int32 → sT → Prop
  | 0 => fun _ _ _ _ => False
  | n + 1 => fun x0 x1 x2 S =>
s_K S x0 = 4 ∧
    ∃ a101 : Nat, s_R S 97 x0 = some a101 ∧
    s_K S a101 = 1 ∧
    w_Jx4a65c_size_8abf5 a101 S (fun x103 S102 =>
    ((x103 ≤ x2 → w_X2_copyFrom_b126  S102  Q) ∧
    (¬ x103 ≤ x2 → s_K S102 x1 = 4 ∧
    ∃ a105 : Nat, s_R S102 97 x1 = some a105 ∧
    s_K S102 a105 = 1 ∧
    w_Jx4a65c_size_8abf5 a105 S102 (fun x107 S106 =>
    ((x107 ≤ x2 → w_X2_copyFrom_b126  S106  Q) ∧
    (¬ x107 ≤ x2 → s_K S106 x0 = 4 ∧
    ∃ a109 : Nat, s_R S106 97 x0 = some a109 ∧
    s_K S106 a109 = 1 ∧
    w_Jx4a65c_get_915e3 a109 x2 S106 (fun a111 S110 =>
    s_K S110 a111 = 3 ∧
    s_K S110 x1 = 4 ∧
    ∃ a112 : Nat, s_R S110 97 x1 = some a112 ∧
    s_K S110 a112 = 1 ∧
    w_Jx4a65c_get_915e3 a112 x2 S110 (fun a114 S113 =>
    s_K S113 a114 = 3 ∧
    s_K S113 a111 = 3 ∧
    w_X1_copyFrom a111 a114 S113 (fun S115 =>
    ∀ x116 : Int32, x116 = x2 + 1 →
    w_X2_copyFrom_b73  Q n x0 x1 x116 S115)))))))))
def w_X2_copyFrom_b71 (x0 : Nat) (x1 : Nat) (S : sT)  (Q : sT → Prop) : Prop :=
∃ n9 : Nat, w_X2_copyFrom_b73  Q n9 x0 x1 (0 : Int32) S
def w_X2_copyFrom_b18  (Q : sT → Prop) : Nat → Nat → Nat → Int32 → sT → Prop
  | 0 => fun _ _ _ _ => False
  | n + 1 => fun x0 x1 x2 S =>
s_K S x0 = 4 ∧
    ∃ a101 : Nat, s_R S 96 x0 = some a101 ∧
    s_K S a101 = 1 ∧
    w_Jx4a65c_size_8abf5 a101 S (fun x103 S102 =>
    ((x103 ≤ x2 → w_X2_copyFrom_b71 x0 x1 S102  Q) ∧
    (¬ x103 ≤ x2 → s_K S102 x1 = 4 ∧
    ∃ a105 : Nat, s_R S102 96 x1 = some a105 ∧
    s_K S102 a105 = 1 ∧
    w_Jx4a65c_size_8abf5 a105 S102 (fun x107 S106 =>
    ((x107 ≤ x2 → w_X2_copyFrom_b71 x0 x1 S106  Q) ∧
    (¬ x107 ≤ x2 → s_K S106 x0 = 4 ∧
    ∃ a109 : Nat, s_R S106 96 x0 = some a109 ∧
    s_K S106 a109 = 1 ∧
    w_Jx4a65c_get_915e3 a109 x2 S106 (fun a111 S110 =>
    s_K S110 a111 = 7 ∧
    s_K S110 x1 = 4 ∧
    ∃ a112 : Nat, s_R S110 96 x1 = some a112 ∧
    s_K S110 a112 = 1 ∧
    w_Jx4a65c_get_915e3 a112 x2 S110 (fun a114 S113 =>
    s_K S113 a114 = 7 ∧
    s_K S113 a111 = 7 ∧
    w_X5_copyFrom a111 a114 S113 (fun S115 =>
    ∀ x116 : Int32, x116 = x2 + 1 →
    w_X2_copyFrom_b18  Q n x0 x1 x116 S115)))))))))
def w_X2_copyFrom_b0 (x0 : Nat) (x1 : Nat) (S : sT)  (Q : sT → Prop) : Prop :=
s_K S x1 = 4 ∧
    ∀ x101 : Int32, x101 = s_I S 99 x1 →
    s_K S x0 = 4 ∧
    ∀ S102 : sT, S102 = s_sI S 99 x0 x101 →
    ∀ x103 : Int32, x103 = s_I S102 100 x1 →
    ∀ S104 : sT, S104 = s_sI S102 100 x0 x103 →
    ∃ n9 : Nat, w_X2_copyFrom_b18  Q n9 x0 x1 (0 : Int32) S104
def w_X2_copyFrom (x0 : Nat) (x1 : Nat) (S : sT) (Q : sT → Prop) : Prop := w_X2_copyFrom_b0 x0 x1 S Q
def r_X2_copyFrom : Room := x_rm 3 64 0 0
theorem b_X2_copyFrom : x_BV yX2_copyFrom cX2_copyFrom 3 none 1 := ⟨q_27_5, q_27_3, q_27_4, q_1_12, by decide +kernel⟩
set_option maxHeartbeats 4000000 in
theorem t_X2_copyFrom_b126 {Q : sT → Prop} (C : x_C p s m args c cX2_copyFrom RX2 gg) (hml : c.maxLocals = 3) (hr : meth.sig.returnType = none) (hlocks : meth.locks = false)   {S : sT}  (h : w_X2_copyFrom_b126  S  Q) : x_X p l e r_X2_copyFrom s m args below meth c gg 3 0 0 (MQ below (va_Qv Q (fun S1 t => s_Rep gg S1 t.heap) (s_A gg)) args s 0 0 (s_A gg)) 126 [] [] S := by
  unfold w_X2_copyFrom_b126 at h
  obtain ⟨hx, hb, -⟩ := id C
  intro H locs ls hR hS hl
  exact W.vret hx hb hr (fun t ht hW => ⟨⟨S, rfl, h, x_rt ht hR⟩, hS.F ht⟩) hS.2.2 dX2_copyFrom_126
set_option maxHeartbeats 4000000 in
theorem t_X2_copyFrom_b73 {Q : sT → Prop} (C : x_C p s m args c cX2_copyFrom RX2 gg) (hml : c.maxLocals = 3) (hr : meth.sig.returnType = none) (hlocks : meth.locks = false)   : ∀ (n : Nat) (x0 : Nat) (x1 : Nat) (x2 : Int32) (S : sT), w_X2_copyFrom_b73  Q n x0 x1 x2 S → x_X p l e r_X2_copyFrom s m args below meth c gg 3 0 0 (MQ below (va_Qv Q (fun S1 t => s_Rep gg S1 t.heap) (s_A gg)) args s 0 0 (s_A gg)) 73 [(0, .ref x0), (1, .ref x1), (2, .int x2)] [] S := by
  obtain ⟨hx, hb, -⟩ := id C
  intro n
  induction n with
  | zero => intro x0 x1 x2 S h; exact absurd h id
  | succ n ih =>
    intro x0 x1 x2 S h H locs ls hR hS hl
    unfold w_X2_copyFrom_b73 at h
    refine lv_iload_n hx hb dX2_copyFrom_73 rfl (lv_at hl 2 rfl) ?_
    refine lv_aload_n hx hb dX2_copyFrom_74 rfl (lv_at hl 0 rfl) ?_
    obtain ⟨hK_x0, h⟩ := h
    refine x_g_97 C hR hK_x0 q_1_22 dX2_copyFrom_75 ?_
    obtain ⟨a101, ea101, h⟩ := h
    refine x_some ea101 ?_
    obtain ⟨hK_a101, h⟩ := h
    refine x_ki (x_runV (As := []) (rest := [.int x2]) C hml hR hS (m_Jx4a65c_size_8abf5 l gg a101 S h) b_Jx4a65c_size_8abf5 q_4_7 (by rw [hK_a101]; decide) (s_E_0 hK_a101) rfl rfl rfl rfl ⟨Nat.le_of_ble_eq_true rfl, Nat.le_of_ble_eq_true rfl⟩ rfl hl.1 (Nat.le_of_ble_eq_true rfl) dX2_copyFrom_78 ⟨Nat.le_refl _, Nat.le_refl _⟩) hS (fun x103 S102 H locs hn hR hS => ?_)
    replace h := hn
    clear hn
    refine lv_icmp_ge (tgt := 126) hx hb dX2_copyFrom_81 (by decide) (fun hc104 => ?_) (fun hc104 => ?_)
    · replace h := h.1 hc104
      exact t_X2_copyFrom_b126 C hml hr hlocks  h H locs ls hR hS (lv_sub (l' := []) hl [] rfl)
    · replace h := h.2 hc104
      refine lv_iload_n hx hb dX2_copyFrom_84 rfl (lv_at hl 2 rfl) ?_
      refine lv_aload_n hx hb dX2_copyFrom_85 rfl (lv_at hl 1 rfl) ?_
      obtain ⟨hK_x1, h⟩ := h
      refine x_g_97 C hR hK_x1 q_1_22 dX2_copyFrom_86 ?_
      obtain ⟨a105, ea105, h⟩ := h
      refine x_some ea105 ?_
      obtain ⟨hK_a105, h⟩ := h
      refine x_ki (x_runV (As := []) (rest := [.int x2]) C hml hR hS (m_Jx4a65c_size_8abf5 l gg a105 S102 h) b_Jx4a65c_size_8abf5 q_4_7 (by rw [hK_a105]; decide) (s_E_0 hK_a105) rfl rfl rfl rfl ⟨Nat.le_of_ble_eq_true rfl, Nat.le_of_ble_eq_true rfl⟩ rfl hl.1 (Nat.le_of_ble_eq_true rfl) dX2_copyFrom_89 ⟨Nat.le_refl _, Nat.le_refl _⟩) hS (fun x107 S106 H locs hn hR hS => ?_)
      replace h := hn
      clear hn
      refine lv_icmp_ge (tgt := 126) hx hb dX2_copyFrom_92 (by decide) (fun hc108 => ?_) (fun hc108 => ?_)
      · replace h := h.1 hc108
        exact t_X2_copyFrom_b126 C hml hr hlocks  h H locs ls hR hS (lv_sub (l' := []) hl [] rfl)
      · replace h := h.2 hc108
        refine lv_aload_n hx hb dX2_copyFrom_95 rfl (lv_at hl 0 rfl) ?_
        obtain ⟨hK_x0, h⟩ := h
        refine x_g_97 C hR hK_x0 q_1_22 dX2_copyFrom_96 ?_
        obtain ⟨a109, ea109, h⟩ := h
        refine x_some ea109 ?_
        refine lv_iload_n hx hb dX2_copyFrom_99 rfl (lv_at hl 2 rfl) ?_
        obtain ⟨hK_a109, h⟩ := h
        refine x_kq (x_runV (As := [.int x2]) (rest := []) C hml hR hS (m_Jx4a65c_get_915e3 l gg a109 x2 S106 h) b_Jx4a65c_get_915e3 q_8_14 (by rw [hK_a109]; decide) (s_E_0 hK_a109) rfl rfl rfl rfl ⟨Nat.le_of_ble_eq_true rfl, Nat.le_of_ble_eq_true rfl⟩ rfl hl.1 (Nat.le_of_ble_eq_true rfl) dX2_copyFrom_100 ⟨Nat.le_refl _, Nat.le_refl _⟩) hS (fun ra111 S110 H locs hn hR hS => ?_)
        replace h := hn
        clear hn
        obtain ⟨a111, za111, h⟩ := h
        refine x_some za111 ?_
        obtain ⟨hK_a111, h⟩ := h
        refine x_cast (ci := 2) C hR (by rw [hK_a111]; decide) (s_E_2 hK_a111) rfl q_20_11 rfl dX2_copyFrom_103 ?_
        refine lv_aload_n hx hb dX2_copyFrom_106 rfl (lv_at hl 1 rfl) ?_
        obtain ⟨hK_x1, h⟩ := h
        refine x_g_97 C hR hK_x1 q_1_22 dX2_copyFrom_107 ?_
        obtain ⟨a112, ea112, h⟩ := h
        refine x_some ea112 ?_
        refine lv_iload_n hx hb dX2_copyFrom_110 rfl (lv_at hl 2 rfl) ?_
        obtain ⟨hK_a112, h⟩ := h
        refine x_kq (x_runV (As := [.int x2]) (rest := [.ref a111]) C hml hR hS (m_Jx4a65c_get_915e3 l gg a112 x2 S110 h) b_Jx4a65c_get_915e3 q_8_14 (by rw [hK_a112]; decide) (s_E_0 hK_a112) rfl rfl rfl rfl ⟨Nat.le_of_ble_eq_true rfl, Nat.le_of_ble_eq_true rfl⟩ rfl hl.1 (Nat.le_of_ble_eq_true rfl) dX2_copyFrom_111 ⟨Nat.le_refl _, Nat.le_refl _⟩) hS (fun ra114 S113 H locs hn hR hS => ?_)
        replace h := hn
        clear hn
        obtain ⟨a114, za114, h⟩ := h
        refine x_some za114 ?_
        obtain ⟨hK_a114, h⟩ := h
        refine x_cast (ci := 2) C hR (by rw [hK_a114]; decide) (s_E_2 hK_a114) rfl q_20_11 rfl dX2_copyFrom_114 ?_
        obtain ⟨hK_a111, h⟩ := h
        refine x_kv (x_runV (As := [.ref a114]) (rest := []) C hml hR hS (m_X1_copyFrom l gg a111 a114 S113 h) b_X1_copyFrom q_27_10 (by rw [hK_a111]; decide) (s_E_2 hK_a111) rfl rfl rfl rfl ⟨Nat.le_of_ble_eq_true rfl, Nat.le_of_ble_eq_true rfl⟩ rfl hl.1 (Nat.le_of_ble_eq_true rfl) dX2_copyFrom_117 ⟨Nat.le_refl _, Nat.le_refl _⟩) hS (fun S115 H locs hn hR hS => ?_)
        replace h := hn
        clear hn
        obtain ⟨x116, ex116⟩ : ∃ z : Int32, z = x2 + 1 := ⟨_, rfl⟩
        replace h := h x116 ex116
        refine lv_iinc (v := x116) (lv' := [(2, .int x116), (0, .ref x0), (1, .ref x1)]) hx hb dX2_copyFrom_120 hl (k := 2) rfl (by rw [ex116]; rfl) (by decide) rfl (fun ls hl => ?_)
        refine lv_goto (tgt := 73) hx hb dX2_copyFrom_123 (by decide) ?_
        exact ih x0 x1 x116 S115 h H locs ls hR hS (lv_sub (l' := [(0, .ref x0), (1, .ref x1), (2, .int x116)]) hl [1, 2, 0] rfl)
set_option maxHeartbeats 4000000 in
theorem t_X2_copyFrom_b71 {Q : sT → Prop} (C : x_C p s m args c cX2_copyFrom RX2 gg) (hml : c.maxLocals = 3) (hr : meth.sig.returnType = none) (hlocks : meth.locks = false) {x0 : Nat} {x1 : Nat}  {S : sT}  (h : w_X2_copyFrom_b71 x0 x1 S  Q) : x_X p l e r_X2_copyFrom s m args below meth c gg 3 0 0 (MQ below (va_Qv Q (fun S1 t => s_Rep gg S1 t.heap) (s_A gg)) args s 0 0 (s_A gg)) 71 [(0, .ref x0), (1, .ref x1)] [] S := by
  unfold w_X2_copyFrom_b71 at h
  obtain ⟨hx, hb, -⟩ := id C
  intro H locs ls hR hS hl
  refine lv_iconst (v := 0) hx hb dX2_copyFrom_71 (by decide) ?_
  refine lv_istore_n (lv' := [(2, .int (0 : Int32)), (0, .ref x0), (1, .ref x1)]) hx hb dX2_copyFrom_72 rfl hl (by decide) rfl (fun ls hl => ?_)
  obtain ⟨n9, h⟩ := h
  exact t_X2_copyFrom_b73 C hml hr hlocks  n9 x0 x1 (0 : Int32) S h H locs ls hR hS (lv_sub (l' := [(0, .ref x0), (1, .ref x1), (2, .int (0 : Int32))]) hl [1, 2, 0] rfl)
set_option maxHeartbeats 4000000 in
theorem t_X2_copyFrom_b18 {Q : sT → Prop} (C : x_C p s m args c cX2_copyFrom RX2 gg) (hml : c.maxLocals = 3) (hr : meth.sig.returnType = none) (hlocks : meth.locks = false)   : ∀ (n : Nat) (x0 : Nat) (x1 : Nat) (x2 : Int32) (S : sT), w_X2_copyFrom_b18  Q n x0 x1 x2 S → x_X p l e r_X2_copyFrom s m args below meth c gg 3 0 0 (MQ below (va_Qv Q (fun S1 t => s_Rep gg S1 t.heap) (s_A gg)) args s 0 0 (s_A gg)) 18 [(0, .ref x0), (1, .ref x1), (2, .int x2)] [] S := by
  obtain ⟨hx, hb, -⟩ := id C
  intro n
  induction n with
  | zero => intro x0 x1 x2 S h; exact absurd h id
  | succ n ih =>
    intro x0 x1 x2 S h H locs ls hR hS hl
    unfold w_X2_copyFrom_b18 at h
    refine lv_iload_n hx hb dX2_copyFrom_18 rfl (lv_at hl 2 rfl) ?_
    refine lv_aload_n hx hb dX2_copyFrom_19 rfl (lv_at hl 0 rfl) ?_
    obtain ⟨hK_x0, h⟩ := h
    refine x_g_96 C hR hK_x0 q_1_21 dX2_copyFrom_20 ?_
    obtain ⟨a101, ea101, h⟩ := h
    refine x_some ea101 ?_
    obtain ⟨hK_a101, h⟩ := h
    refine x_ki (x_runV (As := []) (rest := [.int x2]) C hml hR hS (m_Jx4a65c_size_8abf5 l gg a101 S h) b_Jx4a65c_size_8abf5 q_4_7 (by rw [hK_a101]; decide) (s_E_0 hK_a101) rfl rfl rfl rfl ⟨Nat.le_of_ble_eq_true rfl, Nat.le_of_ble_eq_true rfl⟩ rfl hl.1 (Nat.le_of_ble_eq_true rfl) dX2_copyFrom_23 ⟨Nat.le_refl _, Nat.le_refl _⟩) hS (fun x103 S102 H locs hn hR hS => ?_)
    replace h := hn
    clear hn
    refine lv_icmp_ge (tgt := 71) hx hb dX2_copyFrom_26 (by decide) (fun hc104 => ?_) (fun hc104 => ?_)
    · replace h := h.1 hc104
      exact t_X2_copyFrom_b71 C hml hr hlocks  h H locs ls hR hS (lv_sub (l' := [(0, .ref x0), (1, .ref x1)]) hl [0, 1] rfl)
    · replace h := h.2 hc104
      refine lv_iload_n hx hb dX2_copyFrom_29 rfl (lv_at hl 2 rfl) ?_
      refine lv_aload_n hx hb dX2_copyFrom_30 rfl (lv_at hl 1 rfl) ?_
      obtain ⟨hK_x1, h⟩ := h
      refine x_g_96 C hR hK_x1 q_1_21 dX2_copyFrom_31 ?_
      obtain ⟨a105, ea105, h⟩ := h
      refine x_some ea105 ?_
      obtain ⟨hK_a105, h⟩ := h
      refine x_ki (x_runV (As := []) (rest := [.int x2]) C hml hR hS (m_Jx4a65c_size_8abf5 l gg a105 S102 h) b_Jx4a65c_size_8abf5 q_4_7 (by rw [hK_a105]; decide) (s_E_0 hK_a105) rfl rfl rfl rfl ⟨Nat.le_of_ble_eq_true rfl, Nat.le_of_ble_eq_true rfl⟩ rfl hl.1 (Nat.le_of_ble_eq_true rfl) dX2_copyFrom_34 ⟨Nat.le_refl _, Nat.le_refl _⟩) hS (fun x107 S106 H locs hn hR hS => ?_)
      replace h := hn
      clear hn
      refine lv_icmp_ge (tgt := 71) hx hb dX2_copyFrom_37 (by decide) (fun hc108 => ?_) (fun hc108 => ?_)
      · replace h := h.1 hc108
        exact t_X2_copyFrom_b71 C hml hr hlocks  h H locs ls hR hS (lv_sub (l' := [(0, .ref x0), (1, .ref x1)]) hl [0, 1] rfl)
      · replace h := h.2 hc108
        refine lv_aload_n hx hb dX2_copyFrom_40 rfl (lv_at hl 0 rfl) ?_
        obtain ⟨hK_x0, h⟩ := h
        refine x_g_96 C hR hK_x0 q_1_21 dX2_copyFrom_41 ?_
        obtain ⟨a109, ea109, h⟩ := h
        refine x_some ea109 ?_
        refine lv_iload_n hx hb dX2_copyFrom_44 rfl (lv_at hl 2 rfl) ?_
        obtain ⟨hK_a109, h⟩ := h
        refine x_kq (x_runV (As := [.int x2]) (rest := []) C hml hR hS (m_Jx4a65c_get_915e3 l gg a109 x2 S106 h) b_Jx4a65c_get_915e3 q_8_14 (by rw [hK_a109]; decide) (s_E_0 hK_a109) rfl rfl rfl rfl ⟨Nat.le_of_ble_eq_true rfl, Nat.le_of_ble_eq_true rfl⟩ rfl hl.1 (Nat.le_of_ble_eq_true rfl) dX2_copyFrom_45 ⟨Nat.le_refl _, Nat.le_refl _⟩) hS (fun ra111 S110 H locs hn hR hS => ?_)
        replace h := hn
        clear hn
        obtain ⟨a111, za111, h⟩ := h
        refine x_some za111 ?_
        obtain ⟨hK_a111, h⟩ := h
        refine x_cast (ci := 6) C hR (by rw [hK_a111]; decide) (s_E_6 hK_a111) rfl q_8_9 rfl dX2_copyFrom_48 ?_
        refine lv_aload_n hx hb dX2_copyFrom_51 rfl (lv_at hl 1 rfl) ?_
        obtain ⟨hK_x1, h⟩ := h
        refine x_g_96 C hR hK_x1 q_1_21 dX2_copyFrom_52 ?_
        obtain ⟨a112, ea112, h⟩ := h
        refine x_some ea112 ?_
        refine lv_iload_n hx hb dX2_copyFrom_55 rfl (lv_at hl 2 rfl) ?_
        obtain ⟨hK_a112, h⟩ := h
        refine x_kq (x_runV (As := [.int x2]) (rest := [.ref a111]) C hml hR hS (m_Jx4a65c_get_915e3 l gg a112 x2 S110 h) b_Jx4a65c_get_915e3 q_8_14 (by rw [hK_a112]; decide) (s_E_0 hK_a112) rfl rfl rfl rfl ⟨Nat.le_of_ble_eq_true rfl, Nat.le_of_ble_eq_true rfl⟩ rfl hl.1 (Nat.le_of_ble_eq_true rfl) dX2_copyFrom_56 ⟨Nat.le_refl _, Nat.le_refl _⟩) hS (fun ra114 S113 H locs hn hR hS => ?_)
        replace h := hn
        clear hn
        obtain ⟨a114, za114, h⟩ := h
        refine x_some za114 ?_
        obtain ⟨hK_a114, h⟩ := h
        refine x_cast (ci := 6) C hR (by rw [hK_a114]; decide) (s_E_6 hK_a114) rfl q_8_9 rfl dX2_copyFrom_59 ?_
        obtain ⟨hK_a111, h⟩ := h
        refine x_kv (x_runV (As := [.ref a114]) (rest := []) C hml hR hS (m_X5_copyFrom l gg a111 a114 S113 h) b_X5_copyFrom q_27_6 (by rw [hK_a111]; decide) (s_E_6 hK_a111) rfl rfl rfl rfl ⟨Nat.le_of_ble_eq_true rfl, Nat.le_of_ble_eq_true rfl⟩ rfl hl.1 (Nat.le_of_ble_eq_true rfl) dX2_copyFrom_62 ⟨Nat.le_refl _, Nat.le_refl _⟩) hS (fun S115 H locs hn hR hS => ?_)
        replace h := hn
        clear hn
        obtain ⟨x116, ex116⟩ : ∃ z : Int32, z = x2 + 1 := ⟨_, rfl⟩
        replace h := h x116 ex116
        refine lv_iinc (v := x116) (lv' := [(2, .int x116), (0, .ref x0), (1, .ref x1)]) hx hb dX2_copyFrom_65 hl (k := 2) rfl (by rw [ex116]; rfl) (by decide) rfl (fun ls hl => ?_)
        refine lv_goto (tgt := 18) hx hb dX2_copyFrom_68 (by decide) ?_
        exact ih x0 x1 x116 S115 h H locs ls hR hS (lv_sub (l' := [(0, .ref x0), (1, .ref x1), (2, .int x116)]) hl [1, 2, 0] rfl)
set_option maxHeartbeats 4000000 in
theorem t_X2_copyFrom_b0 {Q : sT → Prop} (C : x_C p s m args c cX2_copyFrom RX2 gg) (hml : c.maxLocals = 3) (hr : meth.sig.returnType = none) (hlocks : meth.locks = false) {x0 : Nat} {x1 : Nat}  {S : sT}  (h : w_X2_copyFrom_b0 x0 x1 S  Q) : x_X p l e r_X2_copyFrom s m args below meth c gg 3 0 0 (MQ below (va_Qv Q (fun S1 t => s_Rep gg S1 t.heap) (s_A gg)) args s 0 0 (s_A gg)) 0 [(0, .ref x0), (1, .ref x1)] [] S := by
  unfold w_X2_copyFrom_b0 at h
  obtain ⟨hx, hb, -⟩ := id C
  intro H locs ls hR hS hl
  refine lv_aload_n hx hb dX2_copyFrom_0 rfl (lv_at hl 0 rfl) ?_
  refine lv_aload_n hx hb dX2_copyFrom_1 rfl (lv_at hl 1 rfl) ?_
  obtain ⟨hK_x1, h⟩ := h
  refine x_g_99 C hR hK_x1 q_14_14 dX2_copyFrom_2 ?_
  refine lv_topi (fun x101 ex101 => ?_)
  replace h := h x101 ex101
  obtain ⟨hK_x0, h⟩ := h
  refine x_p_99 (v := x101) C hR hK_x0 hS q_14_14 dX2_copyFrom_5 (fun H locs hR hS => ?_)
  obtain ⟨S102, eS102⟩ : ∃ z : sT, z = s_sI S 99 x0 x101 := ⟨_, rfl⟩
  rw [← eS102] at hR
  replace h := h S102 eS102
  have hK_x1 : s_K S102 x1 = 4 := by rw [eS102]; exact hK_x1
  have hK_x0 : s_K S102 x0 = 4 := by rw [eS102]; exact hK_x0
  refine lv_aload_n hx hb dX2_copyFrom_8 rfl (lv_at hl 0 rfl) ?_
  refine lv_aload_n hx hb dX2_copyFrom_9 rfl (lv_at hl 1 rfl) ?_
  refine x_g_100 C hR hK_x1 q_20_19 dX2_copyFrom_10 ?_
  refine lv_topi (fun x103 ex103 => ?_)
  replace h := h x103 ex103
  refine x_p_100 (v := x103) C hR hK_x0 hS q_20_19 dX2_copyFrom_13 (fun H locs hR hS => ?_)
  obtain ⟨S104, eS104⟩ : ∃ z : sT, z = s_sI S102 100 x0 x103 := ⟨_, rfl⟩
  rw [← eS104] at hR
  replace h := h S104 eS104
  have hK_x1 : s_K S104 x1 = 4 := by rw [eS104]; exact hK_x1
  have hK_x0 : s_K S104 x0 = 4 := by rw [eS104]; exact hK_x0
  refine lv_iconst (v := 0) hx hb dX2_copyFrom_16 (by decide) ?_
  refine lv_istore_n (lv' := [(2, .int (0 : Int32)), (0, .ref x0), (1, .ref x1)]) hx hb dX2_copyFrom_17 rfl hl (by decide) rfl (fun ls hl => ?_)
  obtain ⟨n9, h⟩ := h
  exact t_X2_copyFrom_b18 C hml hr hlocks  n9 x0 x1 (0 : Int32) S104 h H locs ls hR hS (lv_sub (l' := [(0, .ref x0), (1, .ref x1), (2, .int (0 : Int32))]) hl [1, 2, 0] rfl)
theorem m_X2_copyFrom (l : Launch) (gg : sG) (x0 : Nat) (x1 : Nat) (S : sT) {Q : sT → Prop} (h : w_X2_copyFrom x0 x1 S Q) : x_Mv l gg yX2_copyFrom (x_ws yX2_copyFrom cX2_copyFrom 3 none) r_X2_copyFrom [.ref x0, .ref x1] S Q 0 0 := by
  refine x_ofW (cc := cX2_copyFrom) (own := RX2) (by decide +kernel) rfl (Nat.le_of_ble_eq_true rfl) ?_
  intro p e s m args below meth c C hml hr hlocks hin ht H locs ls hR hS hl
  exact t_X2_copyFrom_b0 C hml hr hlocks h H locs ls hR hS (lv_sub (l' := [(0, .ref x0), (1, .ref x1)]) hl [0, 1] rfl)
def w_X6_sumOfStones_b4  (Q : Int32 → sT → Prop) : Nat → Nat → Int32 → Int32 → sT → Prop
  | 0 => fun _ _ _ _ => False
  | n + 1 => fun x0 x1 x2 S =>
s_K S x0 = 8 ∧
    ∃ a101 : Nat, s_R S 224 x0 = some a101 ∧
    s_K S a101 = 4 ∧
    ∃ a102 : Nat, s_R S 97 a101 = some a102 ∧
    s_K S a102 = 1 ∧
    w_Jx4a65c_size_8abf5 a102 S (fun x104 S103 =>
    ((x104 ≤ x2 → Q x1 S103) ∧
    (¬ x104 ≤ x2 → s_K S103 x0 = 8 ∧
    ∃ a106 : Nat, s_R S103 224 x0 = some a106 ∧
    s_K S103 a106 = 4 ∧
    ∃ a107 : Nat, s_R S103 97 a106 = some a107 ∧
    s_K S103 a107 = 1 ∧
    w_Jx4a65c_get_915e3 a107 x2 S103 (fun a109 S108 =>
    s_K S108 a109 = 3 ∧
    ∀ x110 : Int32, x110 = s_I S108 71 a109 →
    ∀ x111 : Int32, x111 = x1 + x110 →
    ∀ x112 : Int32, x112 = x2 + 1 →
    w_X6_sumOfStones_b4  Q n x0 x111 x112 S108))))
def w_X6_sumOfStones_b0 (x0 : Nat) (S : sT)  (Q : Int32 → sT → Prop) : Prop :=
∃ n9 : Nat, w_X6_sumOfStones_b4  Q n9 x0 (0 : Int32) (0 : Int32) S
def w_X6_sumOfStones (x0 : Nat) (S : sT) (Q : Int32 → sT → Prop) : Prop := w_X6_sumOfStones_b0 x0 S Q
def r_X6_sumOfStones : Room := x_rm 3 64 0 0
theorem b_X6_sumOfStones : x_BV yX6_sumOfStones cX6_sumOfStones 3 (some .int) 0 := ⟨q_17_20, q_17_18, q_17_19, q_1_2, by decide +kernel⟩
set_option maxHeartbeats 4000000 in
theorem t_X6_sumOfStones_b4 {Q : Int32 → sT → Prop} (C : x_C p s m args c cX6_sumOfStones RX6 gg) (hml : c.maxLocals = 3) (hr : meth.sig.returnType = (some .int)) (hlocks : meth.locks = false)   : ∀ (n : Nat) (x0 : Nat) (x1 : Int32) (x2 : Int32) (S : sT), w_X6_sumOfStones_b4  Q n x0 x1 x2 S → x_X p l e r_X6_sumOfStones s m args below meth c gg 3 0 0 (MQ below (va_Qi Q (fun S1 t => s_Rep gg S1 t.heap) (s_A gg)) args s 0 0 (s_A gg)) 4 [(0, .ref x0), (1, .int x1), (2, .int x2)] [] S := by
  obtain ⟨hx, hb, -⟩ := id C
  intro n
  induction n with
  | zero => intro x0 x1 x2 S h; exact absurd h id
  | succ n ih =>
    intro x0 x1 x2 S h H locs ls hR hS hl
    unfold w_X6_sumOfStones_b4 at h
    refine lv_iload_n hx hb dX6_sumOfStones_4 rfl (lv_at hl 2 rfl) ?_
    refine lv_aload_n hx hb dX6_sumOfStones_5 rfl (lv_at hl 0 rfl) ?_
    obtain ⟨hK_x0, h⟩ := h
    refine x_g_224 C hR hK_x0 q_1_13 dX6_sumOfStones_6 ?_
    obtain ⟨a101, ea101, h⟩ := h
    refine x_some ea101 ?_
    obtain ⟨hK_a101, h⟩ := h
    refine x_g_97 C hR hK_a101 q_7_5 dX6_sumOfStones_9 ?_
    obtain ⟨a102, ea102, h⟩ := h
    refine x_some ea102 ?_
    obtain ⟨hK_a102, h⟩ := h
    refine x_ki (x_runV (As := []) (rest := [.int x2]) C hml hR hS (m_Jx4a65c_size_8abf5 l gg a102 S h) b_Jx4a65c_size_8abf5 q_3_18 (by rw [hK_a102]; decide) (s_E_0 hK_a102) rfl rfl rfl rfl ⟨Nat.le_of_ble_eq_true rfl, Nat.le_of_ble_eq_true rfl⟩ rfl hl.1 (Nat.le_of_ble_eq_true rfl) dX6_sumOfStones_12 ⟨Nat.le_refl _, Nat.le_refl _⟩) hS (fun x104 S103 H locs hn hR hS => ?_)
    replace h := hn
    clear hn
    refine lv_icmp_ge (tgt := 44) hx hb dX6_sumOfStones_15 (by decide) (fun hc105 => ?_) (fun hc105 => ?_)
    · replace h := h.1 hc105
      refine lv_iload_n hx hb dX6_sumOfStones_44 rfl (lv_at hl 1 rfl) ?_
      exact W.iret (v := x1) hx hb hr (fun t ht hW => ⟨⟨x1, S103, rfl, h, x_rt ht hR⟩, hS.F ht⟩) hS.2.2 dX6_sumOfStones_45
    · replace h := h.2 hc105
      refine lv_iload_n hx hb dX6_sumOfStones_18 rfl (lv_at hl 1 rfl) ?_
      refine lv_aload_n hx hb dX6_sumOfStones_19 rfl (lv_at hl 0 rfl) ?_
      obtain ⟨hK_x0, h⟩ := h
      refine x_g_224 C hR hK_x0 q_1_13 dX6_sumOfStones_20 ?_
      obtain ⟨a106, ea106, h⟩ := h
      refine x_some ea106 ?_
      obtain ⟨hK_a106, h⟩ := h
      refine x_g_97 C hR hK_a106 q_7_5 dX6_sumOfStones_23 ?_
      obtain ⟨a107, ea107, h⟩ := h
      refine x_some ea107 ?_
      refine lv_iload_n hx hb dX6_sumOfStones_26 rfl (lv_at hl 2 rfl) ?_
      obtain ⟨hK_a107, h⟩ := h
      refine x_kq (x_runV (As := [.int x2]) (rest := [.int x1]) C hml hR hS (m_Jx4a65c_get_915e3 l gg a107 x2 S103 h) b_Jx4a65c_get_915e3 q_7_13 (by rw [hK_a107]; decide) (s_E_0 hK_a107) rfl rfl rfl rfl ⟨Nat.le_of_ble_eq_true rfl, Nat.le_of_ble_eq_true rfl⟩ rfl hl.1 (Nat.le_of_ble_eq_true rfl) dX6_sumOfStones_27 ⟨Nat.le_refl _, Nat.le_refl _⟩) hS (fun ra109 S108 H locs hn hR hS => ?_)
      replace h := hn
      clear hn
      obtain ⟨a109, za109, h⟩ := h
      refine x_some za109 ?_
      obtain ⟨hK_a109, h⟩ := h
      refine x_cast (ci := 2) C hR (by rw [hK_a109]; decide) (s_E_2 hK_a109) rfl q_10_16 rfl dX6_sumOfStones_30 ?_
      refine x_g_71 C hR hK_a109 q_12_1 dX6_sumOfStones_33 ?_
      refine lv_topi (fun x110 ex110 => ?_)
      replace h := h x110 ex110
      refine lv_iadd hx hb dX6_sumOfStones_36 ?_
      refine lv_topi (fun x111 ex111 => ?_)
      replace h := h x111 ex111
      refine lv_istore_n (lv' := [(1, .int x111), (0, .ref x0), (2, .int x2)]) hx hb dX6_sumOfStones_37 rfl hl (by decide) rfl (fun ls hl => ?_)
      obtain ⟨x112, ex112⟩ : ∃ z : Int32, z = x2 + 1 := ⟨_, rfl⟩
      replace h := h x112 ex112
      refine lv_iinc (v := x112) (lv' := [(2, .int x112), (1, .int x111), (0, .ref x0)]) hx hb dX6_sumOfStones_38 hl (k := 2) rfl (by rw [ex112]; rfl) (by decide) rfl (fun ls hl => ?_)
      refine lv_goto (tgt := 4) hx hb dX6_sumOfStones_41 (by decide) ?_
      exact ih x0 x111 x112 S108 h H locs ls hR hS (lv_sub (l' := [(0, .ref x0), (1, .int x111), (2, .int x112)]) hl [2, 1, 0] rfl)
set_option maxHeartbeats 4000000 in
theorem t_X6_sumOfStones_b0 {Q : Int32 → sT → Prop} (C : x_C p s m args c cX6_sumOfStones RX6 gg) (hml : c.maxLocals = 3) (hr : meth.sig.returnType = (some .int)) (hlocks : meth.locks = false) {x0 : Nat}  {S : sT}  (h : w_X6_sumOfStones_b0 x0 S  Q) : x_X p l e r_X6_sumOfStones s m args below meth c gg 3 0 0 (MQ below (va_Qi Q (fun S1 t => s_Rep gg S1 t.heap) (s_A gg)) args s 0 0 (s_A gg)) 0 [(0, .ref x0)] [] S := by
  unfold w_X6_sumOfStones_b0 at h
  obtain ⟨hx, hb, -⟩ := id C
  intro H locs ls hR hS hl
  refine lv_iconst (v := 0) hx hb dX6_sumOfStones_0 (by decide) ?_
  refine lv_istore_n (lv' := [(1, .int (0 : Int32)), (0, .ref x0)]) hx hb dX6_sumOfStones_1 rfl hl (by decide) rfl (fun ls hl => ?_)
  refine lv_iconst (v := 0) hx hb dX6_sumOfStones_2 (by decide) ?_
  refine lv_istore_n (lv' := [(2, .int (0 : Int32)), (1, .int (0 : Int32)), (0, .ref x0)]) hx hb dX6_sumOfStones_3 rfl hl (by decide) rfl (fun ls hl => ?_)
  obtain ⟨n9, h⟩ := h
  exact t_X6_sumOfStones_b4 C hml hr hlocks  n9 x0 (0 : Int32) (0 : Int32) S h H locs ls hR hS (lv_sub (l' := [(0, .ref x0), (1, .int (0 : Int32)), (2, .int (0 : Int32))]) hl [2, 1, 0] rfl)
theorem m_X6_sumOfStones (l : Launch) (gg : sG) (x0 : Nat) (S : sT) {Q : Int32 → sT → Prop} (h : w_X6_sumOfStones x0 S Q) : x_Mi l gg yX6_sumOfStones (x_ws yX6_sumOfStones cX6_sumOfStones 3 (some .int)) r_X6_sumOfStones [.ref x0] S Q 0 0 := by
  refine x_ofW (cc := cX6_sumOfStones) (own := RX6) (by decide +kernel) rfl (Nat.le_of_ble_eq_true rfl) ?_
  intro p e s m args below meth c C hml hr hlocks hin ht H locs ls hR hS hl
  exact t_X6_sumOfStones_b0 C hml hr hlocks h H locs ls hR hS (lv_sub (l' := [(0, .ref x0)]) hl [0] rfl)
def w_X6_tryDays_b13  (Q : sT → Prop) : Nat → Nat → Int32 → Int32 → sT → Prop
  | 0 => fun _ _ _ _ => False
  | n + 1 => fun x0 x1 x2 S =>
((x1 ≤ x2 → Q S) ∧
    (¬ x1 ≤ x2 → s_K S x0 = 8 ∧
    ∃ a102 : Nat, s_R S 225 x0 = some a102 ∧
    ∃ a103 : Nat, s_R S 224 x0 = some a103 ∧
    s_K S a103 = 4 ∧
    ∀ x104 : Int32, x104 = s_I S 103 a103 →
    ∃ a105 : Nat, s_R S 224 x0 = some a105 ∧
    s_K S a105 = 4 ∧
    ∀ x106 : Int32, x106 = s_I S 104 a105 →
    ∃ a107 : Nat, s_R S 224 x0 = some a107 ∧
    s_K S a107 = 4 ∧
    ∀ x108 : Int32, x108 = s_I S 105 a107 →
    s_K S a102 = 4 ∧
    w_X2_passDay a102 x104 x106 x108 S (fun S109 =>
    ∀ x110 : Int32, x110 = x2 + 1 →
    w_X6_tryDays_b13  Q n x0 x1 x110 S109)))
def w_X6_tryDays_b0 (x0 : Nat) (x1 : Int32) (S : sT)  (Q : sT → Prop) : Prop :=
s_K S x0 = 8 ∧
    ∃ a101 : Nat, s_R S 225 x0 = some a101 ∧
    ∃ a102 : Nat, s_R S 224 x0 = some a102 ∧
    s_K S a101 = 4 ∧
    w_X2_copyFrom a101 a102 S (fun S103 =>
    ∃ n9 : Nat, w_X6_tryDays_b13  Q n9 x0 x1 (0 : Int32) S103)
def w_X6_tryDays (x0 : Nat) (x1 : Int32) (S : sT) (Q : sT → Prop) : Prop := w_X6_tryDays_b0 x0 x1 S Q
def r_X6_tryDays : Room := x_rm 6 139 0 0
theorem b_X6_tryDays : x_BV yX6_tryDays cX6_tryDays 3 none 1 := ⟨q_26_22, q_26_20, q_26_21, q_1_2, by decide +kernel⟩
set_option maxHeartbeats 4000000 in
theorem t_X6_tryDays_b13 {Q : sT → Prop} (C : x_C p s m args c cX6_tryDays RX6 gg) (hml : c.maxLocals = 3) (hr : meth.sig.returnType = none) (hlocks : meth.locks = false)   : ∀ (n : Nat) (x0 : Nat) (x1 : Int32) (x2 : Int32) (S : sT), w_X6_tryDays_b13  Q n x0 x1 x2 S → x_X p l e r_X6_tryDays s m args below meth c gg 3 0 0 (MQ below (va_Qv Q (fun S1 t => s_Rep gg S1 t.heap) (s_A gg)) args s 0 0 (s_A gg)) 13 [(0, .ref x0), (1, .int x1), (2, .int x2)] [] S := by
  obtain ⟨hx, hb, -⟩ := id C
  intro n
  induction n with
  | zero => intro x0 x1 x2 S h; exact absurd h id
  | succ n ih =>
    intro x0 x1 x2 S h H locs ls hR hS hl
    unfold w_X6_tryDays_b13 at h
    refine lv_iload_n hx hb dX6_tryDays_13 rfl (lv_at hl 2 rfl) ?_
    refine lv_iload_n hx hb dX6_tryDays_14 rfl (lv_at hl 1 rfl) ?_
    refine lv_icmp_ge (tgt := 52) hx hb dX6_tryDays_15 (by decide) (fun hc101 => ?_) (fun hc101 => ?_)
    · replace h := h.1 hc101
      exact W.vret hx hb hr (fun t ht hW => ⟨⟨S, rfl, h, x_rt ht hR⟩, hS.F ht⟩) hS.2.2 dX6_tryDays_52
    · replace h := h.2 hc101
      refine lv_aload_n hx hb dX6_tryDays_18 rfl (lv_at hl 0 rfl) ?_
      obtain ⟨hK_x0, h⟩ := h
      refine x_g_225 C hR hK_x0 q_1_14 dX6_tryDays_19 ?_
      obtain ⟨a102, ea102, h⟩ := h
      refine x_some ea102 ?_
      refine lv_aload_n hx hb dX6_tryDays_22 rfl (lv_at hl 0 rfl) ?_
      refine x_g_224 C hR hK_x0 q_1_13 dX6_tryDays_23 ?_
      obtain ⟨a103, ea103, h⟩ := h
      refine x_some ea103 ?_
      obtain ⟨hK_a103, h⟩ := h
      refine x_g_103 C hR hK_a103 q_26_23 dX6_tryDays_26 ?_
      refine lv_topi (fun x104 ex104 => ?_)
      replace h := h x104 ex104
      refine lv_aload_n hx hb dX6_tryDays_29 rfl (lv_at hl 0 rfl) ?_
      refine x_g_224 C hR hK_x0 q_1_13 dX6_tryDays_30 ?_
      obtain ⟨a105, ea105, h⟩ := h
      refine x_some ea105 ?_
      obtain ⟨hK_a105, h⟩ := h
      refine x_g_104 C hR hK_a105 q_27_0 dX6_tryDays_33 ?_
      refine lv_topi (fun x106 ex106 => ?_)
      replace h := h x106 ex106
      refine lv_aload_n hx hb dX6_tryDays_36 rfl (lv_at hl 0 rfl) ?_
      refine x_g_224 C hR hK_x0 q_1_13 dX6_tryDays_37 ?_
      obtain ⟨a107, ea107, h⟩ := h
      refine x_some ea107 ?_
      obtain ⟨hK_a107, h⟩ := h
      refine x_g_105 C hR hK_a107 q_27_1 dX6_tryDays_40 ?_
      refine lv_topi (fun x108 ex108 => ?_)
      replace h := h x108 ex108
      obtain ⟨hK_a102, h⟩ := h
      refine x_kv (x_runV (As := [.int x104, .int x106, .int x108]) (rest := []) C hml hR hS (m_X2_passDay l gg a102 x104 x106 x108 S h) b_X2_passDay q_20_3 (by rw [hK_a102]; decide) (s_E_3 hK_a102) rfl rfl rfl rfl ⟨Nat.le_of_ble_eq_true rfl, Nat.le_of_ble_eq_true rfl⟩ rfl hl.1 (Nat.le_of_ble_eq_true rfl) dX6_tryDays_43 ⟨Nat.le_refl _, Nat.le_refl _⟩) hS (fun S109 H locs hn hR hS => ?_)
      replace h := hn
      clear hn
      obtain ⟨x110, ex110⟩ : ∃ z : Int32, z = x2 + 1 := ⟨_, rfl⟩
      replace h := h x110 ex110
      refine lv_iinc (v := x110) (lv' := [(2, .int x110), (0, .ref x0), (1, .int x1)]) hx hb dX6_tryDays_46 hl (k := 2) rfl (by rw [ex110]; rfl) (by decide) rfl (fun ls hl => ?_)
      refine lv_goto (tgt := 13) hx hb dX6_tryDays_49 (by decide) ?_
      exact ih x0 x1 x110 S109 h H locs ls hR hS (lv_sub (l' := [(0, .ref x0), (1, .int x1), (2, .int x110)]) hl [1, 2, 0] rfl)
set_option maxHeartbeats 4000000 in
theorem t_X6_tryDays_b0 {Q : sT → Prop} (C : x_C p s m args c cX6_tryDays RX6 gg) (hml : c.maxLocals = 3) (hr : meth.sig.returnType = none) (hlocks : meth.locks = false) {x0 : Nat} {x1 : Int32}  {S : sT}  (h : w_X6_tryDays_b0 x0 x1 S  Q) : x_X p l e r_X6_tryDays s m args below meth c gg 3 0 0 (MQ below (va_Qv Q (fun S1 t => s_Rep gg S1 t.heap) (s_A gg)) args s 0 0 (s_A gg)) 0 [(0, .ref x0), (1, .int x1)] [] S := by
  unfold w_X6_tryDays_b0 at h
  obtain ⟨hx, hb, -⟩ := id C
  intro H locs ls hR hS hl
  refine lv_aload_n hx hb dX6_tryDays_0 rfl (lv_at hl 0 rfl) ?_
  obtain ⟨hK_x0, h⟩ := h
  refine x_g_225 C hR hK_x0 q_1_14 dX6_tryDays_1 ?_
  obtain ⟨a101, ea101, h⟩ := h
  refine x_some ea101 ?_
  refine lv_aload_n hx hb dX6_tryDays_4 rfl (lv_at hl 0 rfl) ?_
  refine x_g_224 C hR hK_x0 q_1_13 dX6_tryDays_5 ?_
  obtain ⟨a102, ea102, h⟩ := h
  refine x_some ea102 ?_
  obtain ⟨hK_a101, h⟩ := h
  refine x_kv (x_runV (As := [.ref a102]) (rest := []) C hml hR hS (m_X2_copyFrom l gg a101 a102 S h) b_X2_copyFrom q_27_2 (by rw [hK_a101]; decide) (s_E_3 hK_a101) rfl rfl rfl rfl ⟨Nat.le_of_ble_eq_true rfl, Nat.le_of_ble_eq_true rfl⟩ rfl hl.1 (Nat.le_of_ble_eq_true rfl) dX6_tryDays_8 ⟨Nat.le_refl _, Nat.le_refl _⟩) hS (fun S103 H locs hn hR hS => ?_)
  replace h := hn
  clear hn
  refine lv_iconst (v := 0) hx hb dX6_tryDays_11 (by decide) ?_
  refine lv_istore_n (lv' := [(2, .int (0 : Int32)), (0, .ref x0), (1, .int x1)]) hx hb dX6_tryDays_12 rfl hl (by decide) rfl (fun ls hl => ?_)
  obtain ⟨n9, h⟩ := h
  exact t_X6_tryDays_b13 C hml hr hlocks  n9 x0 x1 (0 : Int32) S103 h H locs ls hR hS (lv_sub (l' := [(0, .ref x0), (1, .int x1), (2, .int (0 : Int32))]) hl [1, 2, 0] rfl)
theorem m_X6_tryDays (l : Launch) (gg : sG) (x0 : Nat) (x1 : Int32) (S : sT) {Q : sT → Prop} (h : w_X6_tryDays x0 x1 S Q) : x_Mv l gg yX6_tryDays (x_ws yX6_tryDays cX6_tryDays 3 none) r_X6_tryDays [.ref x0, .int x1] S Q 0 0 := by
  refine x_ofW (cc := cX6_tryDays) (own := RX6) (by decide +kernel) rfl (Nat.le_of_ble_eq_true rfl) ?_
  intro p e s m args below meth c C hml hr hlocks hin ht H locs ls hR hS hl
  exact t_X6_tryDays_b0 C hml hr hlocks h H locs ls hR hS (lv_sub (l' := [(0, .ref x0), (1, .int x1)]) hl [0, 1] rfl)
def w_X6_yieldByPlan_b14  (Q : Int32 → sT → Prop) : Nat → Nat → Int32 → Int32 → Int32 → Int32 → sT → Prop
  | 0 => fun _ _ _ _ _ _ => False
  | n + 1 => fun x0 x1 x2 x3 x4 S =>
((x3 ≤ x4 → s_K S x0 = 8 ∧
    ∃ a102 : Nat, s_R S 225 x0 = some a102 ∧
    s_K S a102 = 4 ∧
    w_X2_sumOfYields a102 S (fun x104 S103 =>
    Q x104 S103)) ∧
    (¬ x3 ≤ x4 → s_K S x0 = 8 ∧
    ∃ a105 : Nat, s_R S 225 x0 = some a105 ∧
    s_K S a105 = 4 ∧
    w_X2_plantByPlan a105 x1 x2 x4 S (fun S106 =>
    s_K S106 x0 = 8 ∧
    ∃ a107 : Nat, s_R S106 225 x0 = some a107 ∧
    ∃ a108 : Nat, s_R S106 224 x0 = some a108 ∧
    s_K S106 a108 = 4 ∧
    ∀ x109 : Int32, x109 = s_I S106 103 a108 →
    ∃ a110 : Nat, s_R S106 224 x0 = some a110 ∧
    s_K S106 a110 = 4 ∧
    ∀ x111 : Int32, x111 = s_I S106 104 a110 →
    ∃ a112 : Nat, s_R S106 224 x0 = some a112 ∧
    s_K S106 a112 = 4 ∧
    ∀ x113 : Int32, x113 = s_I S106 105 a112 →
    s_K S106 a107 = 4 ∧
    w_X2_passDay a107 x109 x111 x113 S106 (fun S114 =>
    ∀ x115 : Int32, x115 = x4 + 1 →
    w_X6_yieldByPlan_b14  Q n x0 x1 x2 x3 x115 S114))))
def w_X6_yieldByPlan_b0 (x0 : Nat) (x1 : Int32) (x2 : Int32) (x3 : Int32) (S : sT)  (Q : Int32 → sT → Prop) : Prop :=
s_K S x0 = 8 ∧
    ∃ a101 : Nat, s_R S 225 x0 = some a101 ∧
    ∃ a102 : Nat, s_R S 224 x0 = some a102 ∧
    s_K S a101 = 4 ∧
    w_X2_copyFrom a101 a102 S (fun S103 =>
    ∃ n9 : Nat, w_X6_yieldByPlan_b14  Q n9 x0 x1 x2 x3 (0 : Int32) S103)
def w_X6_yieldByPlan (x0 : Nat) (x1 : Int32) (x2 : Int32) (x3 : Int32) (S : sT) (Q : Int32 → sT → Prop) : Prop := w_X6_yieldByPlan_b0 x0 x1 x2 x3 S Q
def r_X6_yieldByPlan : Room := x_rm 6 139 0 0
theorem b_X6_yieldByPlan : x_BV yX6_yieldByPlan cX6_yieldByPlan 5 (some .int) 3 := ⟨q_28_22, q_28_20, q_28_21, q_1_2, by decide +kernel⟩
set_option maxHeartbeats 4000000 in
theorem t_X6_yieldByPlan_b14 {Q : Int32 → sT → Prop} (C : x_C p s m args c cX6_yieldByPlan RX6 gg) (hml : c.maxLocals = 5) (hr : meth.sig.returnType = (some .int)) (hlocks : meth.locks = false)   : ∀ (n : Nat) (x0 : Nat) (x1 : Int32) (x2 : Int32) (x3 : Int32) (x4 : Int32) (S : sT), w_X6_yieldByPlan_b14  Q n x0 x1 x2 x3 x4 S → x_X p l e r_X6_yieldByPlan s m args below meth c gg 5 0 0 (MQ below (va_Qi Q (fun S1 t => s_Rep gg S1 t.heap) (s_A gg)) args s 0 0 (s_A gg)) 14 [(0, .ref x0), (1, .int x1), (2, .int x2), (3, .int x3), (4, .int x4)] [] S := by
  obtain ⟨hx, hb, -⟩ := id C
  intro n
  induction n with
  | zero => intro x0 x1 x2 x3 x4 S h; exact absurd h id
  | succ n ih =>
    intro x0 x1 x2 x3 x4 S h H locs ls hR hS hl
    unfold w_X6_yieldByPlan_b14 at h
    refine lv_iload hx hb dX6_yieldByPlan_14 (lv_at hl 4 rfl) ?_
    refine lv_iload_n hx hb dX6_yieldByPlan_16 rfl (lv_at hl 3 rfl) ?_
    refine lv_icmp_ge (tgt := 65) hx hb dX6_yieldByPlan_17 (by decide) (fun hc101 => ?_) (fun hc101 => ?_)
    · replace h := h.1 hc101
      refine lv_aload_n hx hb dX6_yieldByPlan_65 rfl (lv_at hl 0 rfl) ?_
      obtain ⟨hK_x0, h⟩ := h
      refine x_g_225 C hR hK_x0 q_1_14 dX6_yieldByPlan_66 ?_
      obtain ⟨a102, ea102, h⟩ := h
      refine x_some ea102 ?_
      obtain ⟨hK_a102, h⟩ := h
      refine x_ki (x_runV (As := []) (rest := []) C hml hR hS (m_X2_sumOfYields l gg a102 S h) b_X2_sumOfYields q_29_11 (by rw [hK_a102]; decide) (s_E_3 hK_a102) rfl rfl rfl rfl ⟨Nat.le_of_ble_eq_true rfl, Nat.le_of_ble_eq_true rfl⟩ rfl hl.1 (Nat.le_of_ble_eq_true rfl) dX6_yieldByPlan_69 ⟨Nat.le_refl _, Nat.le_refl _⟩) hS (fun x104 S103 H locs hn hR hS => ?_)
      replace h := hn
      clear hn
      exact W.iret (v := x104) hx hb hr (fun t ht hW => ⟨⟨x104, S103, rfl, h, x_rt ht hR⟩, hS.F ht⟩) hS.2.2 dX6_yieldByPlan_72
    · replace h := h.2 hc101
      refine lv_aload_n hx hb dX6_yieldByPlan_20 rfl (lv_at hl 0 rfl) ?_
      obtain ⟨hK_x0, h⟩ := h
      refine x_g_225 C hR hK_x0 q_1_14 dX6_yieldByPlan_21 ?_
      obtain ⟨a105, ea105, h⟩ := h
      refine x_some ea105 ?_
      refine lv_iload_n hx hb dX6_yieldByPlan_24 rfl (lv_at hl 1 rfl) ?_
      refine lv_iload_n hx hb dX6_yieldByPlan_25 rfl (lv_at hl 2 rfl) ?_
      refine lv_iload hx hb dX6_yieldByPlan_26 (lv_at hl 4 rfl) ?_
      obtain ⟨hK_a105, h⟩ := h
      refine x_kv (x_runV (As := [.int x1, .int x2, .int x4]) (rest := []) C hml hR hS (m_X2_plantByPlan l gg a105 x1 x2 x4 S h) b_X2_plantByPlan q_28_23 (by rw [hK_a105]; decide) (s_E_3 hK_a105) rfl rfl rfl rfl ⟨Nat.le_of_ble_eq_true rfl, Nat.le_of_ble_eq_true rfl⟩ rfl hl.1 (Nat.le_of_ble_eq_true rfl) dX6_yieldByPlan_28 ⟨Nat.le_refl _, Nat.le_refl _⟩) hS (fun S106 H locs hn hR hS => ?_)
      replace h := hn
      clear hn
      refine lv_aload_n hx hb dX6_yieldByPlan_31 rfl (lv_at hl 0 rfl) ?_
      obtain ⟨hK_x0, h⟩ := h
      refine x_g_225 C hR hK_x0 q_1_14 dX6_yieldByPlan_32 ?_
      obtain ⟨a107, ea107, h⟩ := h
      refine x_some ea107 ?_
      refine lv_aload_n hx hb dX6_yieldByPlan_35 rfl (lv_at hl 0 rfl) ?_
      refine x_g_224 C hR hK_x0 q_1_13 dX6_yieldByPlan_36 ?_
      obtain ⟨a108, ea108, h⟩ := h
      refine x_some ea108 ?_
      obtain ⟨hK_a108, h⟩ := h
      refine x_g_103 C hR hK_a108 q_26_23 dX6_yieldByPlan_39 ?_
      refine lv_topi (fun x109 ex109 => ?_)
      replace h := h x109 ex109
      refine lv_aload_n hx hb dX6_yieldByPlan_42 rfl (lv_at hl 0 rfl) ?_
      refine x_g_224 C hR hK_x0 q_1_13 dX6_yieldByPlan_43 ?_
      obtain ⟨a110, ea110, h⟩ := h
      refine x_some ea110 ?_
      obtain ⟨hK_a110, h⟩ := h
      refine x_g_104 C hR hK_a110 q_27_0 dX6_yieldByPlan_46 ?_
      refine lv_topi (fun x111 ex111 => ?_)
      replace h := h x111 ex111
      refine lv_aload_n hx hb dX6_yieldByPlan_49 rfl (lv_at hl 0 rfl) ?_
      refine x_g_224 C hR hK_x0 q_1_13 dX6_yieldByPlan_50 ?_
      obtain ⟨a112, ea112, h⟩ := h
      refine x_some ea112 ?_
      obtain ⟨hK_a112, h⟩ := h
      refine x_g_105 C hR hK_a112 q_27_1 dX6_yieldByPlan_53 ?_
      refine lv_topi (fun x113 ex113 => ?_)
      replace h := h x113 ex113
      obtain ⟨hK_a107, h⟩ := h
      refine x_kv (x_runV (As := [.int x109, .int x111, .int x113]) (rest := []) C hml hR hS (m_X2_passDay l gg a107 x109 x111 x113 S106 h) b_X2_passDay q_20_3 (by rw [hK_a107]; decide) (s_E_3 hK_a107) rfl rfl rfl rfl ⟨Nat.le_of_ble_eq_true rfl, Nat.le_of_ble_eq_true rfl⟩ rfl hl.1 (Nat.le_of_ble_eq_true rfl) dX6_yieldByPlan_56 ⟨Nat.le_refl _, Nat.le_refl _⟩) hS (fun S114 H locs hn hR hS => ?_)
      replace h := hn
      clear hn
      obtain ⟨x115, ex115⟩ : ∃ z : Int32, z = x4 + 1 := ⟨_, rfl⟩
      replace h := h x115 ex115
      refine lv_iinc (v := x115) (lv' := [(4, .int x115), (0, .ref x0), (1, .int x1), (2, .int x2), (3, .int x3)]) hx hb dX6_yieldByPlan_59 hl (k := 4) rfl (by rw [ex115]; rfl) (by decide) rfl (fun ls hl => ?_)
      refine lv_goto (tgt := 14) hx hb dX6_yieldByPlan_62 (by decide) ?_
      exact ih x0 x1 x2 x3 x115 S114 h H locs ls hR hS (lv_sub (l' := [(0, .ref x0), (1, .int x1), (2, .int x2), (3, .int x3), (4, .int x115)]) hl [1, 2, 3, 4, 0] rfl)
set_option maxHeartbeats 4000000 in
theorem t_X6_yieldByPlan_b0 {Q : Int32 → sT → Prop} (C : x_C p s m args c cX6_yieldByPlan RX6 gg) (hml : c.maxLocals = 5) (hr : meth.sig.returnType = (some .int)) (hlocks : meth.locks = false) {x0 : Nat} {x1 : Int32} {x2 : Int32} {x3 : Int32}  {S : sT}  (h : w_X6_yieldByPlan_b0 x0 x1 x2 x3 S  Q) : x_X p l e r_X6_yieldByPlan s m args below meth c gg 5 0 0 (MQ below (va_Qi Q (fun S1 t => s_Rep gg S1 t.heap) (s_A gg)) args s 0 0 (s_A gg)) 0 [(0, .ref x0), (1, .int x1), (2, .int x2), (3, .int x3)] [] S := by
  unfold w_X6_yieldByPlan_b0 at h
  obtain ⟨hx, hb, -⟩ := id C
  intro H locs ls hR hS hl
  refine lv_aload_n hx hb dX6_yieldByPlan_0 rfl (lv_at hl 0 rfl) ?_
  obtain ⟨hK_x0, h⟩ := h
  refine x_g_225 C hR hK_x0 q_1_14 dX6_yieldByPlan_1 ?_
  obtain ⟨a101, ea101, h⟩ := h
  refine x_some ea101 ?_
  refine lv_aload_n hx hb dX6_yieldByPlan_4 rfl (lv_at hl 0 rfl) ?_
  refine x_g_224 C hR hK_x0 q_1_13 dX6_yieldByPlan_5 ?_
  obtain ⟨a102, ea102, h⟩ := h
  refine x_some ea102 ?_
  obtain ⟨hK_a101, h⟩ := h
  refine x_kv (x_runV (As := [.ref a102]) (rest := []) C hml hR hS (m_X2_copyFrom l gg a101 a102 S h) b_X2_copyFrom q_27_2 (by rw [hK_a101]; decide) (s_E_3 hK_a101) rfl rfl rfl rfl ⟨Nat.le_of_ble_eq_true rfl, Nat.le_of_ble_eq_true rfl⟩ rfl hl.1 (Nat.le_of_ble_eq_true rfl) dX6_yieldByPlan_8 ⟨Nat.le_refl _, Nat.le_refl _⟩) hS (fun S103 H locs hn hR hS => ?_)
  replace h := hn
  clear hn
  refine lv_iconst (v := 0) hx hb dX6_yieldByPlan_11 (by decide) ?_
  refine lv_istore (lv' := [(4, .int (0 : Int32)), (0, .ref x0), (1, .int x1), (2, .int x2), (3, .int x3)]) hx hb dX6_yieldByPlan_12 hl (by decide) rfl (fun ls hl => ?_)
  obtain ⟨n9, h⟩ := h
  exact t_X6_yieldByPlan_b14 C hml hr hlocks  n9 x0 x1 x2 x3 (0 : Int32) S103 h H locs ls hR hS (lv_sub (l' := [(0, .ref x0), (1, .int x1), (2, .int x2), (3, .int x3), (4, .int (0 : Int32))]) hl [1, 2, 3, 4, 0] rfl)
theorem m_X6_yieldByPlan (l : Launch) (gg : sG) (x0 : Nat) (x1 : Int32) (x2 : Int32) (x3 : Int32) (S : sT) {Q : Int32 → sT → Prop} (h : w_X6_yieldByPlan x0 x1 x2 x3 S Q) : x_Mi l gg yX6_yieldByPlan (x_ws yX6_yieldByPlan cX6_yieldByPlan 5 (some .int)) r_X6_yieldByPlan [.ref x0, .int x1, .int x2, .int x3] S Q 0 0 := by
  refine x_ofW (cc := cX6_yieldByPlan) (own := RX6) (by decide +kernel) rfl (Nat.le_of_ble_eq_true rfl) ?_
  intro p e s m args below meth c C hml hr hlocks hin ht H locs ls hR hS hl
  exact t_X6_yieldByPlan_b0 C hml hr hlocks h H locs ls hR hS (lv_sub (l' := [(0, .ref x0), (1, .int x1), (2, .int x2), (3, .int x3)]) hl [0, 1, 2, 3] rfl)
end
