section
variable {p : Program} {l : Launch} {e : Env} {s : State} {m : MethodId} {args : Array Value} {below : List Frame} {meth : Method} {c : Code} {gg : sG}
def w_X7_yield_b0 (x1 : Nat) (S : sT)  (Q : Int32 → sT → Prop) : Prop :=
s_K S x1 = 11 ∧
    vp_in (4 : Int32) (s_N S x1) ∧
    ∀ x102 : Int32, x102 = s_B S x1 (Int32.toNatClampNeg (4 : Int32)) →
    ((x102 = (5 : Int32) → vp_in (5 : Int32) (s_N S x1) ∧
    ∀ x105 : Int32, x105 = s_B S x1 (Int32.toNatClampNeg (5 : Int32)) →
    ∀ x106 : Int32, x106 = (20 : Int32) * x105 →
    ∀ x107 : Int32, x107 = (40 : Int32) + x106 →
    vp_in (7 : Int32) (s_N S x1) ∧
    ∀ x109 : Int32, x109 = s_B S x1 (Int32.toNatClampNeg (7 : Int32)) →
    ∀ x110 : Int32, x110 = x107 * x109 →
    ∀ x111 : Int32, x111 = x110 / (100 : Int32) →
    vp_in (9 : Int32) (s_N S x1) ∧
    ∀ x113 : Int32, x113 = s_B S x1 (Int32.toNatClampNeg (9 : Int32)) →
    ∀ x114 : Int32, x114 = (50 : Int32) + x113 →
    ∀ x115 : Int32, x115 = x111 * x114 →
    ∀ x116 : Int32, x116 = x115 / (100 : Int32) →
    Q x116 S) ∧
    (¬ x102 = (5 : Int32) → Q (0 : Int32) S))
def w_X7_yield (x0 : Nat) (x1 : Nat) (S : sT) (Q : Int32 → sT → Prop) : Prop := w_X7_yield_b0 x1 S Q
def r_X7_yield : Room := x_rm 0 0 0 0
theorem b_X7_yield : x_BV yX7_yield cX7_yield 3 (some .int) 1 := ⟨q_19_9, q_19_7, q_19_8, q_3_7, by decide +kernel⟩
set_option maxHeartbeats 4000000 in
theorem t_X7_yield_b0 {Q : Int32 → sT → Prop} (C : x_C p s m args c cX7_yield RX7 gg) (hml : c.maxLocals = 3) (hr : meth.sig.returnType = (some .int)) (hlocks : meth.locks = false) {x1 : Nat}  {S : sT}  (h : w_X7_yield_b0 x1 S  Q) : x_X p l e r_X7_yield s m args below meth c gg 3 0 0 (MQ below (va_Qi Q (fun S1 t => s_Rep gg S1 t.heap) (s_A gg)) args s 0 0 (s_A gg)) 0 [(1, .ref x1)] [] S := by
  unfold w_X7_yield_b0 at h
  obtain ⟨hx, hb, -⟩ := id C
  intro H locs ls hR hS hl
  refine lv_aload_n hx hb dX7_yield_0 rfl (lv_at hl 0 rfl) ?_
  refine lv_iconst (v := 4) hx hb dX7_yield_1 (by decide) ?_
  obtain ⟨hK_x1, h⟩ := h
  obtain ⟨hi101, h⟩ := h
  refine x_iald C hR hK_x1 hi101 dX7_yield_2 ?_
  refine lv_topi (fun x102 ex102 => ?_)
  replace h := h x102 ex102
  refine lv_iconst (v := 5) hx hb dX7_yield_3 (by decide) ?_
  refine lv_icmp_eq (tgt := 9) hx hb dX7_yield_4 (by decide) (fun hc103 => ?_) (fun hc103 => ?_)
  · replace h := h.1 hc103
    refine lv_bipush (v := 40) hx hb dX7_yield_9 (by decide) ?_
    refine lv_bipush (v := 20) hx hb dX7_yield_11 (by decide) ?_
    refine lv_aload_n hx hb dX7_yield_13 rfl (lv_at hl 0 rfl) ?_
    refine lv_iconst (v := 5) hx hb dX7_yield_14 (by decide) ?_
    obtain ⟨hi104, h⟩ := h
    refine x_iald C hR hK_x1 hi104 dX7_yield_15 ?_
    refine lv_topi (fun x105 ex105 => ?_)
    replace h := h x105 ex105
    refine lv_imul hx hb dX7_yield_16 ?_
    refine lv_topi (fun x106 ex106 => ?_)
    replace h := h x106 ex106
    refine lv_iadd hx hb dX7_yield_17 ?_
    refine lv_topi (fun x107 ex107 => ?_)
    replace h := h x107 ex107
    refine lv_aload_n hx hb dX7_yield_18 rfl (lv_at hl 0 rfl) ?_
    refine lv_bipush (v := 7) hx hb dX7_yield_19 (by decide) ?_
    obtain ⟨hi108, h⟩ := h
    refine x_iald C hR hK_x1 hi108 dX7_yield_21 ?_
    refine lv_topi (fun x109 ex109 => ?_)
    replace h := h x109 ex109
    refine lv_imul hx hb dX7_yield_22 ?_
    refine lv_topi (fun x110 ex110 => ?_)
    replace h := h x110 ex110
    refine lv_bipush (v := 100) hx hb dX7_yield_23 (by decide) ?_
    refine lv_idiv hx hb dX7_yield_25 (by decide) ?_
    refine lv_topi (fun x111 ex111 => ?_)
    replace h := h x111 ex111
    refine lv_istore_n (lv' := [(2, .int x111), (1, .ref x1)]) hx hb dX7_yield_26 rfl hl (by decide) rfl (fun ls hl => ?_)
    refine lv_iload_n hx hb dX7_yield_27 rfl (lv_at hl 0 rfl) ?_
    refine lv_bipush (v := 50) hx hb dX7_yield_28 (by decide) ?_
    refine lv_aload_n hx hb dX7_yield_30 rfl (lv_at hl 1 rfl) ?_
    refine lv_bipush (v := 9) hx hb dX7_yield_31 (by decide) ?_
    obtain ⟨hi112, h⟩ := h
    refine x_iald C hR hK_x1 hi112 dX7_yield_33 ?_
    refine lv_topi (fun x113 ex113 => ?_)
    replace h := h x113 ex113
    refine lv_iadd hx hb dX7_yield_34 ?_
    refine lv_topi (fun x114 ex114 => ?_)
    replace h := h x114 ex114
    refine lv_imul hx hb dX7_yield_35 ?_
    refine lv_topi (fun x115 ex115 => ?_)
    replace h := h x115 ex115
    refine lv_bipush (v := 100) hx hb dX7_yield_36 (by decide) ?_
    refine lv_idiv hx hb dX7_yield_38 (by decide) ?_
    refine lv_topi (fun x116 ex116 => ?_)
    replace h := h x116 ex116
    exact W.iret (v := x116) hx hb hr (fun t ht hW => ⟨⟨x116, S, rfl, h, x_rt ht hR⟩, hS.F ht⟩) hS.2.2 dX7_yield_39
  · replace h := h.2 hc103
    refine lv_iconst (v := 0) hx hb dX7_yield_7 (by decide) ?_
    exact W.iret (v := (0 : Int32)) hx hb hr (fun t ht hW => ⟨⟨(0 : Int32), S, rfl, h, x_rt ht hR⟩, hS.F ht⟩) hS.2.2 dX7_yield_8
theorem m_X7_yield (l : Launch) (gg : sG) (x0 : Nat) (x1 : Nat) (S : sT) {Q : Int32 → sT → Prop} (h : w_X7_yield x0 x1 S Q) : x_Mi l gg yX7_yield (x_ws yX7_yield cX7_yield 3 (some .int)) r_X7_yield [.ref x0, .ref x1] S Q 0 0 := by
  refine x_ofW (cc := cX7_yield) (own := RX7) (by decide +kernel) rfl (Nat.le_of_ble_eq_true rfl) ?_
  intro p e s m args below meth c C hml hr hlocks hin ht H locs ls hR hS hl
  exact t_X7_yield_b0 C hml hr hlocks h H locs ls hR hS (lv_sub (l' := [(1, .ref x1)]) hl [1] rfl)
def w_X8_harvest_b157 (x4 : Int32) (S : sT)  (Q : Int32 → sT → Prop) : Prop :=
Q x4 S
def w_X8_harvest_b0 (x0 : Nat) (x1 : Int32) (x2 : Int32) (S : sT)  (Q : Int32 → sT → Prop) : Prop :=
s_K S x0 = 10 ∧
    ∀ S101 : sT, S101 = s_sI S 288 x0 (0 : Int32) →
    w_X8_isField x0 x1 S101 (fun x103 S102 =>
    ((¬ x103 = 0 → s_K S102 x0 = 10 ∧
    ∃ a105 : Nat, s_R S102 289 x0 = some a105 ∧
    s_K S102 a105 = 9 ∧
    ∃ a106 : Nat, s_R S102 257 a105 = some a106 ∧
    s_K S102 a106 = 13 ∧
    vp_in x1 (s_N S102 a106) ∧
    ∃ a108 : Nat, s_P S102 a106 (Int32.toNatClampNeg x1) = some a108 ∧
    s_K S102 a108 = 11 ∧
    vp_in (4 : Int32) (s_N S102 a108) ∧
    ∀ x110 : Int32, x110 = s_B S102 a108 (Int32.toNatClampNeg (4 : Int32)) →
    ((x110 = (5 : Int32) → ∃ a112 : Nat, s_R S102 289 x0 = some a112 ∧
    s_K S102 a112 = 9 ∧
    w_X7_yield a112 a108 S102 (fun x114 S113 =>
    s_K S113 x0 = 10 ∧
    ∃ a115 : Nat, s_R S113 289 x0 = some a115 ∧
    s_K S113 a115 = 9 ∧
    ∃ a116 : Nat, s_R S113 258 a115 = some a116 ∧
    s_K S113 a116 = 11 ∧
    vp_in (10 : Int32) (s_N S113 a116) ∧
    ∀ x118 : Int32, x118 = s_B S113 a116 (Int32.toNatClampNeg (10 : Int32)) →
    ∀ x119 : Int32, x119 = x118 + x114 →
    vp_in (10 : Int32) (s_N S113 a116) ∧
    ∀ S121 : sT, S121 = s_sB S113 a116 (Int32.toNatClampNeg (10 : Int32)) x119 →
    ∃ a122 : Nat, s_R S121 289 x0 = some a122 ∧
    s_K S121 a122 = 9 ∧
    ∃ a123 : Nat, s_R S121 256 a122 = some a123 ∧
    s_K S121 a108 = 11 ∧
    vp_in (0 : Int32) (s_N S121 a108) ∧
    ∀ x125 : Int32, x125 = s_B S121 a108 (Int32.toNatClampNeg (0 : Int32)) →
    s_K S121 a123 = 13 ∧
    vp_in x125 (s_N S121 a123) ∧
    ∃ a127 : Nat, s_P S121 a123 (Int32.toNatClampNeg x125) = some a127 ∧
    s_K S121 a127 = 11 ∧
    vp_in (8 : Int32) (s_N S121 a127) ∧
    ∀ x129 : Int32, x129 = s_B S121 a127 (Int32.toNatClampNeg (8 : Int32)) →
    ∀ x130 : Int32, x130 = x129 + x114 →
    vp_in (8 : Int32) (s_N S121 a127) ∧
    ∀ S132 : sT, S132 = s_sB S121 a127 (Int32.toNatClampNeg (8 : Int32)) x130 →
    ∃ a133 : Nat, s_R S132 289 x0 = some a133 ∧
    s_K S132 a133 = 9 ∧
    ∃ a134 : Nat, s_R S132 256 a133 = some a134 ∧
    vp_in (0 : Int32) (s_N S132 a108) ∧
    ∀ x136 : Int32, x136 = s_B S132 a108 (Int32.toNatClampNeg (0 : Int32)) →
    s_K S132 a134 = 13 ∧
    vp_in x136 (s_N S132 a134) ∧
    ∃ a138 : Nat, s_P S132 a134 (Int32.toNatClampNeg x136) = some a138 ∧
    s_K S132 a138 = 11 ∧
    vp_in (4 : Int32) (s_N S132 a138) ∧
    ∀ x140 : Int32, x140 = s_B S132 a138 (Int32.toNatClampNeg (4 : Int32)) →
    ∀ x141 : Int32, x141 = x114 / (10 : Int32) →
    ∀ x142 : Int32, x142 = x140 + x141 →
    vp_in (4 : Int32) (s_N S132 a138) ∧
    ∀ S144 : sT, S144 = s_sB S132 a138 (Int32.toNatClampNeg (4 : Int32)) x142 →
    vp_in (19 : Int32) (s_N S144 a108) ∧
    ∀ x146 : Int32, x146 = s_B S144 a108 (Int32.toNatClampNeg (19 : Int32)) →
    ∀ x147 : Int32, x147 = x114 / (10 : Int32) →
    ∀ x148 : Int32, x148 = x114 - x147 →
    ∀ x149 : Int32, x149 = x146 + x148 →
    vp_in (19 : Int32) (s_N S144 a108) ∧
    ∀ S151 : sT, S151 = s_sB S144 a108 (Int32.toNatClampNeg (19 : Int32)) x149 →
    vp_in (4 : Int32) (s_N S151 a108) ∧
    ∀ S153 : sT, S153 = s_sB S151 a108 (Int32.toNatClampNeg (4 : Int32)) (0 : Int32) →
    ((x2 = 0 → vp_in (9 : Int32) (s_N S153 a108) ∧
    ∀ x156 : Int32, x156 = s_B S153 a108 (Int32.toNatClampNeg (9 : Int32)) →
    ∀ x157 : Int32, x157 = x156 + (10 : Int32) →
    ∀ x158 : Int32, x158 = s_min (50 : Int32) x157 →
    vp_in (9 : Int32) (s_N S153 a108) ∧
    ∀ S160 : sT, S160 = s_sB S153 a108 (Int32.toNatClampNeg (9 : Int32)) x158 →
    w_X8_harvest_b157 x114 S160  Q) ∧
    (¬ x2 = 0 → vp_in (8 : Int32) (s_N S153 a108) ∧
    ∀ x162 : Int32, x162 = s_B S153 a108 (Int32.toNatClampNeg (8 : Int32)) →
    ∀ x163 : Int32, x163 = x162 / (2 : Int32) →
    vp_in (8 : Int32) (s_N S153 a108) ∧
    ∀ S165 : sT, S165 = s_sB S153 a108 (Int32.toNatClampNeg (8 : Int32)) x163 →
    w_X8_harvest_b157 x114 S165  Q)))) ∧
    (¬ x110 = (5 : Int32) → w_X8_refuse x0 (2 : Int32) S102 (fun x167 S166 =>
    Q x167 S166)))) ∧
    (x103 = 0 → s_K S102 x0 = 10 ∧
    w_X8_refuse x0 (1 : Int32) S102 (fun x169 S168 =>
    Q x169 S168))))
def w_X8_harvest (x0 : Nat) (x1 : Int32) (x2 : Int32) (S : sT) (Q : Int32 → sT → Prop) : Prop := w_X8_harvest_b0 x0 x1 x2 S Q
def r_X8_harvest : Room := x_rm 2 43 0 0
theorem b_X8_harvest : x_BV yX8_harvest cX8_harvest 5 (some .int) 2 := ⟨q_19_4, q_19_2, q_19_3, q_1_5, by decide +kernel⟩
set_option maxHeartbeats 4000000 in
theorem t_X8_harvest_b157 {Q : Int32 → sT → Prop} (C : x_C p s m args c cX8_harvest RX8 gg) (hml : c.maxLocals = 5) (hr : meth.sig.returnType = (some .int)) (hlocks : meth.locks = false) {x4 : Int32}  {S : sT}  (h : w_X8_harvest_b157 x4 S  Q) : x_X p l e r_X8_harvest s m args below meth c gg 5 0 0 (MQ below (va_Qi Q (fun S1 t => s_Rep gg S1 t.heap) (s_A gg)) args s 0 0 (s_A gg)) 157 [(4, .int x4)] [] S := by
  unfold w_X8_harvest_b157 at h
  obtain ⟨hx, hb, -⟩ := id C
  intro H locs ls hR hS hl
  refine lv_iload hx hb dX8_harvest_157 (lv_at hl 0 rfl) ?_
  exact W.iret (v := x4) hx hb hr (fun t ht hW => ⟨⟨x4, S, rfl, h, x_rt ht hR⟩, hS.F ht⟩) hS.2.2 dX8_harvest_159
set_option maxHeartbeats 4000000 in
theorem t_X8_harvest_b0 {Q : Int32 → sT → Prop} (C : x_C p s m args c cX8_harvest RX8 gg) (hml : c.maxLocals = 5) (hr : meth.sig.returnType = (some .int)) (hlocks : meth.locks = false) {x0 : Nat} {x1 : Int32} {x2 : Int32}  {S : sT}  (h : w_X8_harvest_b0 x0 x1 x2 S  Q) : x_X p l e r_X8_harvest s m args below meth c gg 5 0 0 (MQ below (va_Qi Q (fun S1 t => s_Rep gg S1 t.heap) (s_A gg)) args s 0 0 (s_A gg)) 0 [(0, .ref x0), (1, .int x1), (2, .int x2)] [] S := by
  unfold w_X8_harvest_b0 at h
  obtain ⟨hx, hb, -⟩ := id C
  intro H locs ls hR hS hl
  refine lv_aload_n hx hb dX8_harvest_0 rfl (lv_at hl 0 rfl) ?_
  refine lv_iconst (v := 0) hx hb dX8_harvest_1 (by decide) ?_
  obtain ⟨hK_x0, h⟩ := h
  refine x_p_288 (v := (0 : Int32)) C hR hK_x0 hS q_8_1 dX8_harvest_2 (fun H locs hR hS => ?_)
  obtain ⟨S101, eS101⟩ : ∃ z : sT, z = s_sI S 288 x0 (0 : Int32) := ⟨_, rfl⟩
  rw [← eS101] at hR
  replace h := h S101 eS101
  have hK_x0 : s_K S101 x0 = 10 := by rw [eS101]; exact hK_x0
  refine lv_aload_n hx hb dX8_harvest_5 rfl (lv_at hl 0 rfl) ?_
  refine lv_iload_n hx hb dX8_harvest_6 rfl (lv_at hl 1 rfl) ?_
  refine x_ki (x_runV (As := [.int x1]) (rest := []) C hml hR hS (m_X8_isField l gg x0 x1 S101 h) b_X8_isField q_13_7 (by rw [hK_x0]; decide) (s_E_9 hK_x0) rfl rfl rfl rfl ⟨Nat.le_of_ble_eq_true rfl, Nat.le_of_ble_eq_true rfl⟩ rfl hl.1 (Nat.le_of_ble_eq_true rfl) dX8_harvest_7 ⟨Nat.le_refl _, Nat.le_refl _⟩) hS (fun x103 S102 H locs hn hR hS => ?_)
  replace h := hn
  clear hn
  refine lv_if_ne (tgt := 19) hx hb dX8_harvest_10 (by decide) (fun hc104 => ?_) (fun hc104 => ?_)
  · replace h := h.1 hc104
    refine lv_aload_n hx hb dX8_harvest_19 rfl (lv_at hl 0 rfl) ?_
    obtain ⟨hK_x0, h⟩ := h
    refine x_g_289 C hR hK_x0 q_3_8 dX8_harvest_20 ?_
    obtain ⟨a105, ea105, h⟩ := h
    refine x_some ea105 ?_
    obtain ⟨hK_a105, h⟩ := h
    refine x_gN_257 C hR hK_a105 (xn_1 C) dX8_harvest_23 ?_
    obtain ⟨a106, ea106, h⟩ := h
    refine x_some ea106 ?_
    refine lv_iload_n hx hb dX8_harvest_26 rfl (lv_at hl 1 rfl) ?_
    obtain ⟨hK_a106, h⟩ := h
    obtain ⟨hi107, a108, ea108, h⟩ := h
    refine x_aald13 C hR hK_a106 hi107 dX8_harvest_27 ?_
    refine x_some ea108 ?_
    refine lv_astore_n (lv' := [(3, .ref a108), (0, .ref x0), (1, .int x1), (2, .int x2)]) hx hb dX8_harvest_28 rfl hl (by decide) rfl (fun ls hl => ?_)
    refine lv_aload_n hx hb dX8_harvest_29 rfl (lv_at hl 0 rfl) ?_
    refine lv_iconst (v := 4) hx hb dX8_harvest_30 (by decide) ?_
    obtain ⟨hK_a108, h⟩ := h
    obtain ⟨hi109, h⟩ := h
    refine x_iald C hR hK_a108 hi109 dX8_harvest_31 ?_
    refine lv_topi (fun x110 ex110 => ?_)
    replace h := h x110 ex110
    refine lv_iconst (v := 5) hx hb dX8_harvest_32 (by decide) ?_
    refine lv_icmp_eq (tgt := 42) hx hb dX8_harvest_33 (by decide) (fun hc111 => ?_) (fun hc111 => ?_)
    · replace h := h.1 hc111
      refine lv_aload_n hx hb dX8_harvest_42 rfl (lv_at hl 1 rfl) ?_
      refine x_g_289 C hR hK_x0 q_3_8 dX8_harvest_43 ?_
      obtain ⟨a112, ea112, h⟩ := h
      refine x_some ea112 ?_
      refine lv_aload_n hx hb dX8_harvest_46 rfl (lv_at hl 0 rfl) ?_
      obtain ⟨hK_a112, h⟩ := h
      refine x_ki (x_runV (As := [.ref a108]) (rest := []) C hml hR hS (m_X7_yield l gg a112 a108 S102 h) b_X7_yield q_19_6 (by rw [hK_a112]; decide) (s_E_8 hK_a112) rfl rfl rfl rfl ⟨Nat.le_of_ble_eq_true rfl, Nat.le_of_ble_eq_true rfl⟩ rfl hl.1 (Nat.le_of_ble_eq_true rfl) dX8_harvest_47 ⟨Nat.le_refl _, Nat.le_refl _⟩) hS (fun x114 S113 H locs hn hR hS => ?_)
      replace h := hn
      clear hn
      refine lv_istore (lv' := [(4, .int x114), (3, .ref a108), (0, .ref x0), (1, .int x1), (2, .int x2)]) hx hb dX8_harvest_50 hl (by decide) rfl (fun ls hl => ?_)
      refine lv_aload_n hx hb dX8_harvest_52 rfl (lv_at hl 2 rfl) ?_
      obtain ⟨hK_x0, h⟩ := h
      refine x_g_289 C hR hK_x0 q_3_8 dX8_harvest_53 ?_
      obtain ⟨a115, ea115, h⟩ := h
      refine x_some ea115 ?_
      obtain ⟨hK_a115, h⟩ := h
      refine x_gN_258 C hR hK_a115 (xn_0 C) dX8_harvest_56 ?_
      obtain ⟨a116, ea116, h⟩ := h
      refine x_some ea116 ?_
      refine lv_bipush (v := 10) hx hb dX8_harvest_59 (by decide) ?_
      refine lv_dup2_11 hx hb dX8_harvest_61 rfl rfl ?_
      obtain ⟨hK_a116, h⟩ := h
      obtain ⟨hi117, h⟩ := h
      refine x_iald C hR hK_a116 hi117 dX8_harvest_62 ?_
      refine lv_topi (fun x118 ex118 => ?_)
      replace h := h x118 ex118
      refine lv_iload hx hb dX8_harvest_63 (lv_at hl 0 rfl) ?_
      refine lv_iadd hx hb dX8_harvest_65 ?_
      refine lv_topi (fun x119 ex119 => ?_)
      replace h := h x119 ex119
      obtain ⟨hi120, h⟩ := h
      refine x_iast C hR hK_a116 hS hi120 dX8_harvest_66 (fun H locs hR hS => ?_)
      obtain ⟨S121, eS121⟩ : ∃ z : sT, z = s_sB S113 a116 (Int32.toNatClampNeg (10 : Int32)) x119 := ⟨_, rfl⟩
      rw [← eS121] at hR
      replace h := h S121 eS121
      have hK_x0 : s_K S121 x0 = 10 := by rw [eS121]; exact hK_x0
      have hK_a115 : s_K S121 a115 = 9 := by rw [eS121]; exact hK_a115
      have hK_a116 : s_K S121 a116 = 11 := by rw [eS121]; exact hK_a116
      refine lv_aload_n hx hb dX8_harvest_67 rfl (lv_at hl 2 rfl) ?_
      refine x_g_289 C hR hK_x0 q_3_8 dX8_harvest_68 ?_
      obtain ⟨a122, ea122, h⟩ := h
      refine x_some ea122 ?_
      obtain ⟨hK_a122, h⟩ := h
      refine x_gN_256 C hR hK_a122 (xn_2 C) dX8_harvest_71 ?_
      obtain ⟨a123, ea123, h⟩ := h
      refine x_some ea123 ?_
      refine lv_aload_n hx hb dX8_harvest_74 rfl (lv_at hl 1 rfl) ?_
      refine lv_iconst (v := 0) hx hb dX8_harvest_75 (by decide) ?_
      obtain ⟨hK_a108, h⟩ := h
      obtain ⟨hi124, h⟩ := h
      refine x_iald C hR hK_a108 hi124 dX8_harvest_76 ?_
      refine lv_topi (fun x125 ex125 => ?_)
      replace h := h x125 ex125
      obtain ⟨hK_a123, h⟩ := h
      obtain ⟨hi126, a127, ea127, h⟩ := h
      refine x_aald13 C hR hK_a123 hi126 dX8_harvest_77 ?_
      refine x_some ea127 ?_
      refine lv_bipush (v := 8) hx hb dX8_harvest_78 (by decide) ?_
      refine lv_dup2_11 hx hb dX8_harvest_80 rfl rfl ?_
      obtain ⟨hK_a127, h⟩ := h
      obtain ⟨hi128, h⟩ := h
      refine x_iald C hR hK_a127 hi128 dX8_harvest_81 ?_
      refine lv_topi (fun x129 ex129 => ?_)
      replace h := h x129 ex129
      refine lv_iload hx hb dX8_harvest_82 (lv_at hl 0 rfl) ?_
      refine lv_iadd hx hb dX8_harvest_84 ?_
      refine lv_topi (fun x130 ex130 => ?_)
      replace h := h x130 ex130
      obtain ⟨hi131, h⟩ := h
      refine x_iast C hR hK_a127 hS hi131 dX8_harvest_85 (fun H locs hR hS => ?_)
      obtain ⟨S132, eS132⟩ : ∃ z : sT, z = s_sB S121 a127 (Int32.toNatClampNeg (8 : Int32)) x130 := ⟨_, rfl⟩
      rw [← eS132] at hR
      replace h := h S132 eS132
      have hK_x0 : s_K S132 x0 = 10 := by rw [eS132]; exact hK_x0
      have hK_a115 : s_K S132 a115 = 9 := by rw [eS132]; exact hK_a115
      have hK_a116 : s_K S132 a116 = 11 := by rw [eS132]; exact hK_a116
      have hK_a122 : s_K S132 a122 = 9 := by rw [eS132]; exact hK_a122
      have hK_a108 : s_K S132 a108 = 11 := by rw [eS132]; exact hK_a108
      have hK_a123 : s_K S132 a123 = 13 := by rw [eS132]; exact hK_a123
      have hK_a127 : s_K S132 a127 = 11 := by rw [eS132]; exact hK_a127
      refine lv_aload_n hx hb dX8_harvest_86 rfl (lv_at hl 2 rfl) ?_
      refine x_g_289 C hR hK_x0 q_3_8 dX8_harvest_87 ?_
      obtain ⟨a133, ea133, h⟩ := h
      refine x_some ea133 ?_
      obtain ⟨hK_a133, h⟩ := h
      refine x_gN_256 C hR hK_a133 (xn_2 C) dX8_harvest_90 ?_
      obtain ⟨a134, ea134, h⟩ := h
      refine x_some ea134 ?_
      refine lv_aload_n hx hb dX8_harvest_93 rfl (lv_at hl 1 rfl) ?_
      refine lv_iconst (v := 0) hx hb dX8_harvest_94 (by decide) ?_
      obtain ⟨hi135, h⟩ := h
      refine x_iald C hR hK_a108 hi135 dX8_harvest_95 ?_
      refine lv_topi (fun x136 ex136 => ?_)
      replace h := h x136 ex136
      obtain ⟨hK_a134, h⟩ := h
      obtain ⟨hi137, a138, ea138, h⟩ := h
      refine x_aald13 C hR hK_a134 hi137 dX8_harvest_96 ?_
      refine x_some ea138 ?_
      refine lv_iconst (v := 4) hx hb dX8_harvest_97 (by decide) ?_
      refine lv_dup2_11 hx hb dX8_harvest_98 rfl rfl ?_
      obtain ⟨hK_a138, h⟩ := h
      obtain ⟨hi139, h⟩ := h
      refine x_iald C hR hK_a138 hi139 dX8_harvest_99 ?_
      refine lv_topi (fun x140 ex140 => ?_)
      replace h := h x140 ex140
      refine lv_iload hx hb dX8_harvest_100 (lv_at hl 0 rfl) ?_
      refine lv_bipush (v := 10) hx hb dX8_harvest_102 (by decide) ?_
      refine lv_idiv hx hb dX8_harvest_104 (by decide) ?_
      refine lv_topi (fun x141 ex141 => ?_)
      replace h := h x141 ex141
      refine lv_iadd hx hb dX8_harvest_105 ?_
      refine lv_topi (fun x142 ex142 => ?_)
      replace h := h x142 ex142
      obtain ⟨hi143, h⟩ := h
      refine x_iast C hR hK_a138 hS hi143 dX8_harvest_106 (fun H locs hR hS => ?_)
      obtain ⟨S144, eS144⟩ : ∃ z : sT, z = s_sB S132 a138 (Int32.toNatClampNeg (4 : Int32)) x142 := ⟨_, rfl⟩
      rw [← eS144] at hR
      replace h := h S144 eS144
      have hK_x0 : s_K S144 x0 = 10 := by rw [eS144]; exact hK_x0
      have hK_a115 : s_K S144 a115 = 9 := by rw [eS144]; exact hK_a115
      have hK_a116 : s_K S144 a116 = 11 := by rw [eS144]; exact hK_a116
      have hK_a122 : s_K S144 a122 = 9 := by rw [eS144]; exact hK_a122
      have hK_a108 : s_K S144 a108 = 11 := by rw [eS144]; exact hK_a108
      have hK_a123 : s_K S144 a123 = 13 := by rw [eS144]; exact hK_a123
      have hK_a127 : s_K S144 a127 = 11 := by rw [eS144]; exact hK_a127
      have hK_a133 : s_K S144 a133 = 9 := by rw [eS144]; exact hK_a133
      have hK_a134 : s_K S144 a134 = 13 := by rw [eS144]; exact hK_a134
      have hK_a138 : s_K S144 a138 = 11 := by rw [eS144]; exact hK_a138
      refine lv_aload_n hx hb dX8_harvest_107 rfl (lv_at hl 1 rfl) ?_
      refine lv_bipush (v := 19) hx hb dX8_harvest_108 (by decide) ?_
      refine lv_dup2_11 hx hb dX8_harvest_110 rfl rfl ?_
      obtain ⟨hi145, h⟩ := h
      refine x_iald C hR hK_a108 hi145 dX8_harvest_111 ?_
      refine lv_topi (fun x146 ex146 => ?_)
      replace h := h x146 ex146
      refine lv_iload hx hb dX8_harvest_112 (lv_at hl 0 rfl) ?_
      refine lv_iload hx hb dX8_harvest_114 (lv_at hl 0 rfl) ?_
      refine lv_bipush (v := 10) hx hb dX8_harvest_116 (by decide) ?_
      refine lv_idiv hx hb dX8_harvest_118 (by decide) ?_
      refine lv_topi (fun x147 ex147 => ?_)
      replace h := h x147 ex147
      refine lv_isub hx hb dX8_harvest_119 ?_
      refine lv_topi (fun x148 ex148 => ?_)
      replace h := h x148 ex148
      refine lv_iadd hx hb dX8_harvest_120 ?_
      refine lv_topi (fun x149 ex149 => ?_)
      replace h := h x149 ex149
      obtain ⟨hi150, h⟩ := h
      refine x_iast C hR hK_a108 hS hi150 dX8_harvest_121 (fun H locs hR hS => ?_)
      obtain ⟨S151, eS151⟩ : ∃ z : sT, z = s_sB S144 a108 (Int32.toNatClampNeg (19 : Int32)) x149 := ⟨_, rfl⟩
      rw [← eS151] at hR
      replace h := h S151 eS151
      have hK_x0 : s_K S151 x0 = 10 := by rw [eS151]; exact hK_x0
      have hK_a115 : s_K S151 a115 = 9 := by rw [eS151]; exact hK_a115
      have hK_a116 : s_K S151 a116 = 11 := by rw [eS151]; exact hK_a116
      have hK_a122 : s_K S151 a122 = 9 := by rw [eS151]; exact hK_a122
      have hK_a108 : s_K S151 a108 = 11 := by rw [eS151]; exact hK_a108
      have hK_a123 : s_K S151 a123 = 13 := by rw [eS151]; exact hK_a123
      have hK_a127 : s_K S151 a127 = 11 := by rw [eS151]; exact hK_a127
      have hK_a133 : s_K S151 a133 = 9 := by rw [eS151]; exact hK_a133
      have hK_a134 : s_K S151 a134 = 13 := by rw [eS151]; exact hK_a134
      have hK_a138 : s_K S151 a138 = 11 := by rw [eS151]; exact hK_a138
      refine lv_aload_n hx hb dX8_harvest_122 rfl (lv_at hl 1 rfl) ?_
      refine lv_iconst (v := 4) hx hb dX8_harvest_123 (by decide) ?_
      refine lv_iconst (v := 0) hx hb dX8_harvest_124 (by decide) ?_
      obtain ⟨hi152, h⟩ := h
      refine x_iast C hR hK_a108 hS hi152 dX8_harvest_125 (fun H locs hR hS => ?_)
      obtain ⟨S153, eS153⟩ : ∃ z : sT, z = s_sB S151 a108 (Int32.toNatClampNeg (4 : Int32)) (0 : Int32) := ⟨_, rfl⟩
      rw [← eS153] at hR
      replace h := h S153 eS153
      have hK_x0 : s_K S153 x0 = 10 := by rw [eS153]; exact hK_x0
      have hK_a115 : s_K S153 a115 = 9 := by rw [eS153]; exact hK_a115
      have hK_a116 : s_K S153 a116 = 11 := by rw [eS153]; exact hK_a116
      have hK_a122 : s_K S153 a122 = 9 := by rw [eS153]; exact hK_a122
      have hK_a108 : s_K S153 a108 = 11 := by rw [eS153]; exact hK_a108
      have hK_a123 : s_K S153 a123 = 13 := by rw [eS153]; exact hK_a123
      have hK_a127 : s_K S153 a127 = 11 := by rw [eS153]; exact hK_a127
      have hK_a133 : s_K S153 a133 = 9 := by rw [eS153]; exact hK_a133
      have hK_a134 : s_K S153 a134 = 13 := by rw [eS153]; exact hK_a134
      have hK_a138 : s_K S153 a138 = 11 := by rw [eS153]; exact hK_a138
      refine lv_iload_n hx hb dX8_harvest_126 rfl (lv_at hl 4 rfl) ?_
      refine lv_if_eq (tgt := 141) hx hb dX8_harvest_127 (by decide) (fun hc154 => ?_) (fun hc154 => ?_)
      · replace h := h.1 hc154
        refine lv_aload_n hx hb dX8_harvest_141 rfl (lv_at hl 1 rfl) ?_
        refine lv_bipush (v := 9) hx hb dX8_harvest_142 (by decide) ?_
        refine lv_bipush (v := 50) hx hb dX8_harvest_144 (by decide) ?_
        refine lv_aload_n hx hb dX8_harvest_146 rfl (lv_at hl 1 rfl) ?_
        refine lv_bipush (v := 9) hx hb dX8_harvest_147 (by decide) ?_
        obtain ⟨hi155, h⟩ := h
        refine x_iald C hR hK_a108 hi155 dX8_harvest_149 ?_
        refine lv_topi (fun x156 ex156 => ?_)
        replace h := h x156 ex156
        refine lv_bipush (v := 10) hx hb dX8_harvest_150 (by decide) ?_
        refine lv_iadd hx hb dX8_harvest_152 ?_
        refine lv_topi (fun x157 ex157 => ?_)
        replace h := h x157 ex157
        refine va_mmin hx hb (by rw [hml]; exact hl.1.symm) C.2.2.2.1 (C.2.2.1 _ q_19_5) (C.2.2.1 _ q_7_15) (C.2.2.1 _ q_6_13) (C.2.2.1 _ q_7_16) (Nat.le_of_ble_eq_true rfl) (Nat.le_of_ble_eq_true rfl) (Nat.zero_le _) (Nat.zero_le _) dX8_harvest_153 ?_
        refine lv_topi (fun x158 ex158 => ?_)
        replace h := h x158 ex158
        obtain ⟨hi159, h⟩ := h
        refine x_iast C hR hK_a108 hS hi159 dX8_harvest_156 (fun H locs hR hS => ?_)
        obtain ⟨S160, eS160⟩ : ∃ z : sT, z = s_sB S153 a108 (Int32.toNatClampNeg (9 : Int32)) x158 := ⟨_, rfl⟩
        rw [← eS160] at hR
        replace h := h S160 eS160
        have hK_x0 : s_K S160 x0 = 10 := by rw [eS160]; exact hK_x0
        have hK_a115 : s_K S160 a115 = 9 := by rw [eS160]; exact hK_a115
        have hK_a116 : s_K S160 a116 = 11 := by rw [eS160]; exact hK_a116
        have hK_a122 : s_K S160 a122 = 9 := by rw [eS160]; exact hK_a122
        have hK_a108 : s_K S160 a108 = 11 := by rw [eS160]; exact hK_a108
        have hK_a123 : s_K S160 a123 = 13 := by rw [eS160]; exact hK_a123
        have hK_a127 : s_K S160 a127 = 11 := by rw [eS160]; exact hK_a127
        have hK_a133 : s_K S160 a133 = 9 := by rw [eS160]; exact hK_a133
        have hK_a134 : s_K S160 a134 = 13 := by rw [eS160]; exact hK_a134
        have hK_a138 : s_K S160 a138 = 11 := by rw [eS160]; exact hK_a138
        exact t_X8_harvest_b157 C hml hr hlocks  h H locs ls hR hS (lv_sub (l' := [(4, .int x114)]) hl [0] rfl)
      · replace h := h.2 hc154
        refine lv_aload_n hx hb dX8_harvest_130 rfl (lv_at hl 1 rfl) ?_
        refine lv_bipush (v := 8) hx hb dX8_harvest_131 (by decide) ?_
        refine lv_dup2_11 hx hb dX8_harvest_133 rfl rfl ?_
        obtain ⟨hi161, h⟩ := h
        refine x_iald C hR hK_a108 hi161 dX8_harvest_134 ?_
        refine lv_topi (fun x162 ex162 => ?_)
        replace h := h x162 ex162
        refine lv_iconst (v := 2) hx hb dX8_harvest_135 (by decide) ?_
        refine lv_idiv hx hb dX8_harvest_136 (by decide) ?_
        refine lv_topi (fun x163 ex163 => ?_)
        replace h := h x163 ex163
        obtain ⟨hi164, h⟩ := h
        refine x_iast C hR hK_a108 hS hi164 dX8_harvest_137 (fun H locs hR hS => ?_)
        obtain ⟨S165, eS165⟩ : ∃ z : sT, z = s_sB S153 a108 (Int32.toNatClampNeg (8 : Int32)) x163 := ⟨_, rfl⟩
        rw [← eS165] at hR
        replace h := h S165 eS165
        have hK_x0 : s_K S165 x0 = 10 := by rw [eS165]; exact hK_x0
        have hK_a115 : s_K S165 a115 = 9 := by rw [eS165]; exact hK_a115
        have hK_a116 : s_K S165 a116 = 11 := by rw [eS165]; exact hK_a116
        have hK_a122 : s_K S165 a122 = 9 := by rw [eS165]; exact hK_a122
        have hK_a108 : s_K S165 a108 = 11 := by rw [eS165]; exact hK_a108
        have hK_a123 : s_K S165 a123 = 13 := by rw [eS165]; exact hK_a123
        have hK_a127 : s_K S165 a127 = 11 := by rw [eS165]; exact hK_a127
        have hK_a133 : s_K S165 a133 = 9 := by rw [eS165]; exact hK_a133
        have hK_a134 : s_K S165 a134 = 13 := by rw [eS165]; exact hK_a134
        have hK_a138 : s_K S165 a138 = 11 := by rw [eS165]; exact hK_a138
        refine lv_goto (tgt := 157) hx hb dX8_harvest_138 (by decide) ?_
        exact t_X8_harvest_b157 C hml hr hlocks  h H locs ls hR hS (lv_sub (l' := [(4, .int x114)]) hl [0] rfl)
    · replace h := h.2 hc111
      refine lv_aload_n hx hb dX8_harvest_36 rfl (lv_at hl 1 rfl) ?_
      refine lv_iconst (v := 2) hx hb dX8_harvest_37 (by decide) ?_
      refine x_ki (x_runV (As := [.int (2 : Int32)]) (rest := []) C hml hR hS (m_X8_refuse l gg x0 (2 : Int32) S102 h) b_X8_refuse q_8_5 (by rw [hK_x0]; decide) (s_E_9 hK_x0) rfl rfl rfl rfl ⟨Nat.le_of_ble_eq_true rfl, Nat.le_of_ble_eq_true rfl⟩ rfl hl.1 (Nat.le_of_ble_eq_true rfl) dX8_harvest_38 ⟨Nat.le_refl _, Nat.le_refl _⟩) hS (fun x167 S166 H locs hn hR hS => ?_)
      replace h := hn
      clear hn
      exact W.iret (v := x167) hx hb hr (fun t ht hW => ⟨⟨x167, S166, rfl, h, x_rt ht hR⟩, hS.F ht⟩) hS.2.2 dX8_harvest_41
  · replace h := h.2 hc104
    refine lv_aload_n hx hb dX8_harvest_13 rfl (lv_at hl 0 rfl) ?_
    refine lv_iconst (v := 1) hx hb dX8_harvest_14 (by decide) ?_
    obtain ⟨hK_x0, h⟩ := h
    refine x_ki (x_runV (As := [.int (1 : Int32)]) (rest := []) C hml hR hS (m_X8_refuse l gg x0 (1 : Int32) S102 h) b_X8_refuse q_8_5 (by rw [hK_x0]; decide) (s_E_9 hK_x0) rfl rfl rfl rfl ⟨Nat.le_of_ble_eq_true rfl, Nat.le_of_ble_eq_true rfl⟩ rfl hl.1 (Nat.le_of_ble_eq_true rfl) dX8_harvest_15 ⟨Nat.le_refl _, Nat.le_refl _⟩) hS (fun x169 S168 H locs hn hR hS => ?_)
    replace h := hn
    clear hn
    exact W.iret (v := x169) hx hb hr (fun t ht hW => ⟨⟨x169, S168, rfl, h, x_rt ht hR⟩, hS.F ht⟩) hS.2.2 dX8_harvest_18
theorem m_X8_harvest (l : Launch) (gg : sG) (x0 : Nat) (x1 : Int32) (x2 : Int32) (S : sT) {Q : Int32 → sT → Prop} (h : w_X8_harvest x0 x1 x2 S Q) : x_Mi l gg yX8_harvest (x_ws yX8_harvest cX8_harvest 5 (some .int)) r_X8_harvest [.ref x0, .int x1, .int x2] S Q 0 0 := by
  refine x_ofW (cc := cX8_harvest) (own := RX8) (by decide +kernel) rfl (Nat.le_of_ble_eq_true rfl) ?_
  intro p e s m args below meth c C hml hr hlocks hin ht H locs ls hR hS hl
  exact t_X8_harvest_b0 C hml hr hlocks h H locs ls hR hS (lv_sub (l' := [(0, .ref x0), (1, .int x1), (2, .int x2)]) hl [0, 1, 2] rfl)
def w_X8_cut_b0 (x0 : Nat) (x1 : Int32) (S : sT)  (Q : Int32 → sT → Prop) : Prop :=
s_K S x0 = 10 ∧
    ∀ S101 : sT, S101 = s_sI S 288 x0 (0 : Int32) →
    w_X8_isField x0 x1 S101 (fun x103 S102 =>
    ((¬ x103 = 0 → s_K S102 x0 = 10 ∧
    ∃ a105 : Nat, s_R S102 289 x0 = some a105 ∧
    s_K S102 a105 = 9 ∧
    ∃ a106 : Nat, s_R S102 257 a105 = some a106 ∧
    s_K S102 a106 = 13 ∧
    vp_in x1 (s_N S102 a106) ∧
    ∃ a108 : Nat, s_P S102 a106 (Int32.toNatClampNeg x1) = some a108 ∧
    s_K S102 a108 = 11 ∧
    vp_in (4 : Int32) (s_N S102 a108) ∧
    ∀ x110 : Int32, x110 = s_B S102 a108 (Int32.toNatClampNeg (4 : Int32)) →
    ((x110 = (5 : Int32) → ∃ a112 : Nat, s_R S102 289 x0 = some a112 ∧
    s_K S102 a112 = 9 ∧
    ∃ a113 : Nat, s_R S102 258 a112 = some a113 ∧
    s_K S102 a113 = 11 ∧
    vp_in (0 : Int32) (s_N S102 a113) ∧
    ∀ x115 : Int32, x115 = s_B S102 a113 (Int32.toNatClampNeg (0 : Int32)) →
    ∀ x116 : Int32, x116 = (7 : Int32) * x115 →
    ∀ x117 : Int32, x117 = (13 : Int32) * x1 →
    ∀ x118 : Int32, x118 = x116 + x117 →
    ∃ a119 : Nat, s_R S102 289 x0 = some a119 ∧
    s_K S102 a119 = 9 ∧
    ∃ a120 : Nat, s_R S102 258 a119 = some a120 ∧
    s_K S102 a120 = 11 ∧
    vp_in (9 : Int32) (s_N S102 a120) ∧
    ∀ x122 : Int32, x122 = s_B S102 a120 (Int32.toNatClampNeg (9 : Int32)) →
    ∀ x123 : Int32, x123 = (5 : Int32) * x122 →
    ∀ x124 : Int32, x124 = x118 + x123 →
    ∀ x125 : Int32, x125 = x124 - x124 / (21 : Int32) * (21 : Int32) →
    ∃ a126 : Nat, s_R S102 289 x0 = some a126 ∧
    s_K S102 a126 = 9 ∧
    w_X7_yield a126 a108 S102 (fun x128 S127 =>
    ∀ x129 : Int32, x129 = (90 : Int32) + x125 →
    ∀ x130 : Int32, x130 = x128 * x129 →
    ∀ x131 : Int32, x131 = x130 / (100 : Int32) →
    s_K S127 x0 = 10 ∧
    ∃ a132 : Nat, s_R S127 289 x0 = some a132 ∧
    s_K S127 a132 = 9 ∧
    ∃ a133 : Nat, s_R S127 258 a132 = some a133 ∧
    s_K S127 a133 = 11 ∧
    vp_in (9 : Int32) (s_N S127 a133) ∧
    ∀ x135 : Int32, x135 = s_B S127 a133 (Int32.toNatClampNeg (9 : Int32)) →
    ∀ x136 : Int32, x136 = x135 + (1 : Int32) →
    vp_in (9 : Int32) (s_N S127 a133) ∧
    ∀ S138 : sT, S138 = s_sB S127 a133 (Int32.toNatClampNeg (9 : Int32)) x136 →
    s_K S138 a108 = 11 ∧
    vp_in (20 : Int32) (s_N S138 a108) ∧
    ∀ x140 : Int32, x140 = s_B S138 a108 (Int32.toNatClampNeg (20 : Int32)) →
    ∀ x141 : Int32, x141 = (100 : Int32) * x131 →
    ∀ x142 : Int32, x142 = x141 + (109 : Int32) →
    ∀ x143 : Int32, x143 = x142 / (110 : Int32) →
    ∀ x144 : Int32, x144 = s_max x140 x143 →
    vp_in (20 : Int32) (s_N S138 a108) ∧
    ∀ S146 : sT, S146 = s_sB S138 a108 (Int32.toNatClampNeg (20 : Int32)) x144 →
    vp_in (21 : Int32) (s_N S146 a108) ∧
    ∀ x148 : Int32, x148 = s_B S146 a108 (Int32.toNatClampNeg (21 : Int32)) →
    ∀ x149 : Int32, x149 = x131 + (1 : Int32) →
    ∀ x150 : Int32, x150 = (100 : Int32) * x149 →
    ∀ x151 : Int32, x151 = x150 - (1 : Int32) →
    ∀ x152 : Int32, x152 = x151 / (90 : Int32) →
    ∀ x153 : Int32, x153 = s_min x148 x152 →
    vp_in (21 : Int32) (s_N S146 a108) ∧
    ∀ S155 : sT, S155 = s_sB S146 a108 (Int32.toNatClampNeg (21 : Int32)) x153 →
    Q x131 S155)) ∧
    (¬ x110 = (5 : Int32) → w_X8_refuse x0 (2 : Int32) S102 (fun x157 S156 =>
    Q x157 S156)))) ∧
    (x103 = 0 → s_K S102 x0 = 10 ∧
    w_X8_refuse x0 (1 : Int32) S102 (fun x159 S158 =>
    Q x159 S158))))
def w_X8_cut (x0 : Nat) (x1 : Int32) (S : sT) (Q : Int32 → sT → Prop) : Prop := w_X8_cut_b0 x0 x1 S Q
def r_X8_cut : Room := x_rm 2 43 0 0
theorem b_X8_cut : x_BV yX8_cut cX8_cut 5 (some .int) 1 := ⟨q_20_8, q_20_6, q_20_7, q_1_5, by decide +kernel⟩
set_option maxHeartbeats 4000000 in
theorem t_X8_cut_b0 {Q : Int32 → sT → Prop} (C : x_C p s m args c cX8_cut RX8 gg) (hml : c.maxLocals = 5) (hr : meth.sig.returnType = (some .int)) (hlocks : meth.locks = false) {x0 : Nat} {x1 : Int32}  {S : sT}  (h : w_X8_cut_b0 x0 x1 S  Q) : x_X p l e r_X8_cut s m args below meth c gg 5 0 0 (MQ below (va_Qi Q (fun S1 t => s_Rep gg S1 t.heap) (s_A gg)) args s 0 0 (s_A gg)) 0 [(0, .ref x0), (1, .int x1)] [] S := by
  unfold w_X8_cut_b0 at h
  obtain ⟨hx, hb, -⟩ := id C
  intro H locs ls hR hS hl
  refine lv_aload_n hx hb dX8_cut_0 rfl (lv_at hl 0 rfl) ?_
  refine lv_iconst (v := 0) hx hb dX8_cut_1 (by decide) ?_
  obtain ⟨hK_x0, h⟩ := h
  refine x_p_288 (v := (0 : Int32)) C hR hK_x0 hS q_8_1 dX8_cut_2 (fun H locs hR hS => ?_)
  obtain ⟨S101, eS101⟩ : ∃ z : sT, z = s_sI S 288 x0 (0 : Int32) := ⟨_, rfl⟩
  rw [← eS101] at hR
  replace h := h S101 eS101
  have hK_x0 : s_K S101 x0 = 10 := by rw [eS101]; exact hK_x0
  refine lv_aload_n hx hb dX8_cut_5 rfl (lv_at hl 0 rfl) ?_
  refine lv_iload_n hx hb dX8_cut_6 rfl (lv_at hl 1 rfl) ?_
  refine x_ki (x_runV (As := [.int x1]) (rest := []) C hml hR hS (m_X8_isField l gg x0 x1 S101 h) b_X8_isField q_13_7 (by rw [hK_x0]; decide) (s_E_9 hK_x0) rfl rfl rfl rfl ⟨Nat.le_of_ble_eq_true rfl, Nat.le_of_ble_eq_true rfl⟩ rfl hl.1 (Nat.le_of_ble_eq_true rfl) dX8_cut_7 ⟨Nat.le_refl _, Nat.le_refl _⟩) hS (fun x103 S102 H locs hn hR hS => ?_)
  replace h := hn
  clear hn
  refine lv_if_ne (tgt := 19) hx hb dX8_cut_10 (by decide) (fun hc104 => ?_) (fun hc104 => ?_)
  · replace h := h.1 hc104
    refine lv_aload_n hx hb dX8_cut_19 rfl (lv_at hl 0 rfl) ?_
    obtain ⟨hK_x0, h⟩ := h
    refine x_g_289 C hR hK_x0 q_3_8 dX8_cut_20 ?_
    obtain ⟨a105, ea105, h⟩ := h
    refine x_some ea105 ?_
    obtain ⟨hK_a105, h⟩ := h
    refine x_gN_257 C hR hK_a105 (xn_1 C) dX8_cut_23 ?_
    obtain ⟨a106, ea106, h⟩ := h
    refine x_some ea106 ?_
    refine lv_iload_n hx hb dX8_cut_26 rfl (lv_at hl 1 rfl) ?_
    obtain ⟨hK_a106, h⟩ := h
    obtain ⟨hi107, a108, ea108, h⟩ := h
    refine x_aald13 C hR hK_a106 hi107 dX8_cut_27 ?_
    refine x_some ea108 ?_
    refine lv_astore_n (lv' := [(2, .ref a108), (0, .ref x0), (1, .int x1)]) hx hb dX8_cut_28 rfl hl (by decide) rfl (fun ls hl => ?_)
    refine lv_aload_n hx hb dX8_cut_29 rfl (lv_at hl 0 rfl) ?_
    refine lv_iconst (v := 4) hx hb dX8_cut_30 (by decide) ?_
    obtain ⟨hK_a108, h⟩ := h
    obtain ⟨hi109, h⟩ := h
    refine x_iald C hR hK_a108 hi109 dX8_cut_31 ?_
    refine lv_topi (fun x110 ex110 => ?_)
    replace h := h x110 ex110
    refine lv_iconst (v := 5) hx hb dX8_cut_32 (by decide) ?_
    refine lv_icmp_eq (tgt := 42) hx hb dX8_cut_33 (by decide) (fun hc111 => ?_) (fun hc111 => ?_)
    · replace h := h.1 hc111
      refine lv_bipush (v := 7) hx hb dX8_cut_42 (by decide) ?_
      refine lv_aload_n hx hb dX8_cut_44 rfl (lv_at hl 1 rfl) ?_
      refine x_g_289 C hR hK_x0 q_3_8 dX8_cut_45 ?_
      obtain ⟨a112, ea112, h⟩ := h
      refine x_some ea112 ?_
      obtain ⟨hK_a112, h⟩ := h
      refine x_gN_258 C hR hK_a112 (xn_0 C) dX8_cut_48 ?_
      obtain ⟨a113, ea113, h⟩ := h
      refine x_some ea113 ?_
      refine lv_iconst (v := 0) hx hb dX8_cut_51 (by decide) ?_
      obtain ⟨hK_a113, h⟩ := h
      obtain ⟨hi114, h⟩ := h
      refine x_iald C hR hK_a113 hi114 dX8_cut_52 ?_
      refine lv_topi (fun x115 ex115 => ?_)
      replace h := h x115 ex115
      refine lv_imul hx hb dX8_cut_53 ?_
      refine lv_topi (fun x116 ex116 => ?_)
      replace h := h x116 ex116
      refine lv_bipush (v := 13) hx hb dX8_cut_54 (by decide) ?_
      refine lv_iload_n hx hb dX8_cut_56 rfl (lv_at hl 2 rfl) ?_
      refine lv_imul hx hb dX8_cut_57 ?_
      refine lv_topi (fun x117 ex117 => ?_)
      replace h := h x117 ex117
      refine lv_iadd hx hb dX8_cut_58 ?_
      refine lv_topi (fun x118 ex118 => ?_)
      replace h := h x118 ex118
      refine lv_iconst (v := 5) hx hb dX8_cut_59 (by decide) ?_
      refine lv_aload_n hx hb dX8_cut_60 rfl (lv_at hl 1 rfl) ?_
      refine x_g_289 C hR hK_x0 q_3_8 dX8_cut_61 ?_
      obtain ⟨a119, ea119, h⟩ := h
      refine x_some ea119 ?_
      obtain ⟨hK_a119, h⟩ := h
      refine x_gN_258 C hR hK_a119 (xn_0 C) dX8_cut_64 ?_
      obtain ⟨a120, ea120, h⟩ := h
      refine x_some ea120 ?_
      refine lv_bipush (v := 9) hx hb dX8_cut_67 (by decide) ?_
      obtain ⟨hK_a120, h⟩ := h
      obtain ⟨hi121, h⟩ := h
      refine x_iald C hR hK_a120 hi121 dX8_cut_69 ?_
      refine lv_topi (fun x122 ex122 => ?_)
      replace h := h x122 ex122
      refine lv_imul hx hb dX8_cut_70 ?_
      refine lv_topi (fun x123 ex123 => ?_)
      replace h := h x123 ex123
      refine lv_iadd hx hb dX8_cut_71 ?_
      refine lv_topi (fun x124 ex124 => ?_)
      replace h := h x124 ex124
      refine lv_bipush (v := 21) hx hb dX8_cut_72 (by decide) ?_
      refine lv_irem hx hb dX8_cut_74 (by decide) ?_
      refine lv_topi (fun x125 ex125 => ?_)
      replace h := h x125 ex125
      refine lv_istore_n (lv' := [(3, .int x125), (2, .ref a108), (0, .ref x0), (1, .int x1)]) hx hb dX8_cut_75 rfl hl (by decide) rfl (fun ls hl => ?_)
      refine lv_aload_n hx hb dX8_cut_76 rfl (lv_at hl 2 rfl) ?_
      refine x_g_289 C hR hK_x0 q_3_8 dX8_cut_77 ?_
      obtain ⟨a126, ea126, h⟩ := h
      refine x_some ea126 ?_
      refine lv_aload_n hx hb dX8_cut_80 rfl (lv_at hl 1 rfl) ?_
      obtain ⟨hK_a126, h⟩ := h
      refine x_ki (x_runV (As := [.ref a108]) (rest := []) C hml hR hS (m_X7_yield l gg a126 a108 S102 h) b_X7_yield q_19_6 (by rw [hK_a126]; decide) (s_E_8 hK_a126) rfl rfl rfl rfl ⟨Nat.le_of_ble_eq_true rfl, Nat.le_of_ble_eq_true rfl⟩ rfl hl.1 (Nat.le_of_ble_eq_true rfl) dX8_cut_81 ⟨Nat.le_refl _, Nat.le_refl _⟩) hS (fun x128 S127 H locs hn hR hS => ?_)
      replace h := hn
      clear hn
      refine lv_bipush (v := 90) hx hb dX8_cut_84 (by decide) ?_
      refine lv_iload_n hx hb dX8_cut_86 rfl (lv_at hl 0 rfl) ?_
      refine lv_iadd hx hb dX8_cut_87 ?_
      refine lv_topi (fun x129 ex129 => ?_)
      replace h := h x129 ex129
      refine lv_imul hx hb dX8_cut_88 ?_
      refine lv_topi (fun x130 ex130 => ?_)
      replace h := h x130 ex130
      refine lv_bipush (v := 100) hx hb dX8_cut_89 (by decide) ?_
      refine lv_idiv hx hb dX8_cut_91 (by decide) ?_
      refine lv_topi (fun x131 ex131 => ?_)
      replace h := h x131 ex131
      refine lv_istore (lv' := [(4, .int x131), (3, .int x125), (2, .ref a108), (0, .ref x0), (1, .int x1)]) hx hb dX8_cut_92 hl (by decide) rfl (fun ls hl => ?_)
      refine lv_aload_n hx hb dX8_cut_94 rfl (lv_at hl 3 rfl) ?_
      obtain ⟨hK_x0, h⟩ := h
      refine x_g_289 C hR hK_x0 q_3_8 dX8_cut_95 ?_
      obtain ⟨a132, ea132, h⟩ := h
      refine x_some ea132 ?_
      obtain ⟨hK_a132, h⟩ := h
      refine x_gN_258 C hR hK_a132 (xn_0 C) dX8_cut_98 ?_
      obtain ⟨a133, ea133, h⟩ := h
      refine x_some ea133 ?_
      refine lv_bipush (v := 9) hx hb dX8_cut_101 (by decide) ?_
      refine lv_dup2_11 hx hb dX8_cut_103 rfl rfl ?_
      obtain ⟨hK_a133, h⟩ := h
      obtain ⟨hi134, h⟩ := h
      refine x_iald C hR hK_a133 hi134 dX8_cut_104 ?_
      refine lv_topi (fun x135 ex135 => ?_)
      replace h := h x135 ex135
      refine lv_iconst (v := 1) hx hb dX8_cut_105 (by decide) ?_
      refine lv_iadd hx hb dX8_cut_106 ?_
      refine lv_topi (fun x136 ex136 => ?_)
      replace h := h x136 ex136
      obtain ⟨hi137, h⟩ := h
      refine x_iast C hR hK_a133 hS hi137 dX8_cut_107 (fun H locs hR hS => ?_)
      obtain ⟨S138, eS138⟩ : ∃ z : sT, z = s_sB S127 a133 (Int32.toNatClampNeg (9 : Int32)) x136 := ⟨_, rfl⟩
      rw [← eS138] at hR
      replace h := h S138 eS138
      have hK_x0 : s_K S138 x0 = 10 := by rw [eS138]; exact hK_x0
      have hK_a132 : s_K S138 a132 = 9 := by rw [eS138]; exact hK_a132
      have hK_a133 : s_K S138 a133 = 11 := by rw [eS138]; exact hK_a133
      refine lv_aload_n hx hb dX8_cut_108 rfl (lv_at hl 2 rfl) ?_
      refine lv_bipush (v := 20) hx hb dX8_cut_109 (by decide) ?_
      refine lv_aload_n hx hb dX8_cut_111 rfl (lv_at hl 2 rfl) ?_
      refine lv_bipush (v := 20) hx hb dX8_cut_112 (by decide) ?_
      obtain ⟨hK_a108, h⟩ := h
      obtain ⟨hi139, h⟩ := h
      refine x_iald C hR hK_a108 hi139 dX8_cut_114 ?_
      refine lv_topi (fun x140 ex140 => ?_)
      replace h := h x140 ex140
      refine lv_bipush (v := 100) hx hb dX8_cut_115 (by decide) ?_
      refine lv_iload hx hb dX8_cut_117 (lv_at hl 0 rfl) ?_
      refine lv_imul hx hb dX8_cut_119 ?_
      refine lv_topi (fun x141 ex141 => ?_)
      replace h := h x141 ex141
      refine lv_bipush (v := 109) hx hb dX8_cut_120 (by decide) ?_
      refine lv_iadd hx hb dX8_cut_122 ?_
      refine lv_topi (fun x142 ex142 => ?_)
      replace h := h x142 ex142
      refine lv_bipush (v := 110) hx hb dX8_cut_123 (by decide) ?_
      refine lv_idiv hx hb dX8_cut_125 (by decide) ?_
      refine lv_topi (fun x143 ex143 => ?_)
      replace h := h x143 ex143
      refine va_mmax hx hb (by rw [hml]; exact hl.1.symm) C.2.2.2.1 (C.2.2.1 _ q_20_9) (C.2.2.1 _ q_6_12) (C.2.2.1 _ q_6_13) (C.2.2.1 _ q_6_14) (Nat.le_of_ble_eq_true rfl) (Nat.le_of_ble_eq_true rfl) (Nat.zero_le _) (Nat.zero_le _) dX8_cut_126 ?_
      refine lv_topi (fun x144 ex144 => ?_)
      replace h := h x144 ex144
      obtain ⟨hi145, h⟩ := h
      refine x_iast C hR hK_a108 hS hi145 dX8_cut_129 (fun H locs hR hS => ?_)
      obtain ⟨S146, eS146⟩ : ∃ z : sT, z = s_sB S138 a108 (Int32.toNatClampNeg (20 : Int32)) x144 := ⟨_, rfl⟩
      rw [← eS146] at hR
      replace h := h S146 eS146
      have hK_x0 : s_K S146 x0 = 10 := by rw [eS146]; exact hK_x0
      have hK_a132 : s_K S146 a132 = 9 := by rw [eS146]; exact hK_a132
      have hK_a133 : s_K S146 a133 = 11 := by rw [eS146]; exact hK_a133
      have hK_a108 : s_K S146 a108 = 11 := by rw [eS146]; exact hK_a108
      refine lv_aload_n hx hb dX8_cut_130 rfl (lv_at hl 2 rfl) ?_
      refine lv_bipush (v := 21) hx hb dX8_cut_131 (by decide) ?_
      refine lv_aload_n hx hb dX8_cut_133 rfl (lv_at hl 2 rfl) ?_
      refine lv_bipush (v := 21) hx hb dX8_cut_134 (by decide) ?_
      obtain ⟨hi147, h⟩ := h
      refine x_iald C hR hK_a108 hi147 dX8_cut_136 ?_
      refine lv_topi (fun x148 ex148 => ?_)
      replace h := h x148 ex148
      refine lv_bipush (v := 100) hx hb dX8_cut_137 (by decide) ?_
      refine lv_iload hx hb dX8_cut_139 (lv_at hl 0 rfl) ?_
      refine lv_iconst (v := 1) hx hb dX8_cut_141 (by decide) ?_
      refine lv_iadd hx hb dX8_cut_142 ?_
      refine lv_topi (fun x149 ex149 => ?_)
      replace h := h x149 ex149
      refine lv_imul hx hb dX8_cut_143 ?_
      refine lv_topi (fun x150 ex150 => ?_)
      replace h := h x150 ex150
      refine lv_iconst (v := 1) hx hb dX8_cut_144 (by decide) ?_
      refine lv_isub hx hb dX8_cut_145 ?_
      refine lv_topi (fun x151 ex151 => ?_)
      replace h := h x151 ex151
      refine lv_bipush (v := 90) hx hb dX8_cut_146 (by decide) ?_
      refine lv_idiv hx hb dX8_cut_148 (by decide) ?_
      refine lv_topi (fun x152 ex152 => ?_)
      replace h := h x152 ex152
      refine va_mmin hx hb (by rw [hml]; exact hl.1.symm) C.2.2.2.1 (C.2.2.1 _ q_19_5) (C.2.2.1 _ q_7_15) (C.2.2.1 _ q_6_13) (C.2.2.1 _ q_7_16) (Nat.le_of_ble_eq_true rfl) (Nat.le_of_ble_eq_true rfl) (Nat.zero_le _) (Nat.zero_le _) dX8_cut_149 ?_
      refine lv_topi (fun x153 ex153 => ?_)
      replace h := h x153 ex153
      obtain ⟨hi154, h⟩ := h
      refine x_iast C hR hK_a108 hS hi154 dX8_cut_152 (fun H locs hR hS => ?_)
      obtain ⟨S155, eS155⟩ : ∃ z : sT, z = s_sB S146 a108 (Int32.toNatClampNeg (21 : Int32)) x153 := ⟨_, rfl⟩
      rw [← eS155] at hR
      replace h := h S155 eS155
      have hK_x0 : s_K S155 x0 = 10 := by rw [eS155]; exact hK_x0
      have hK_a132 : s_K S155 a132 = 9 := by rw [eS155]; exact hK_a132
      have hK_a133 : s_K S155 a133 = 11 := by rw [eS155]; exact hK_a133
      have hK_a108 : s_K S155 a108 = 11 := by rw [eS155]; exact hK_a108
      refine lv_iload hx hb dX8_cut_153 (lv_at hl 0 rfl) ?_
      exact W.iret (v := x131) hx hb hr (fun t ht hW => ⟨⟨x131, S155, rfl, h, x_rt ht hR⟩, hS.F ht⟩) hS.2.2 dX8_cut_155
    · replace h := h.2 hc111
      refine lv_aload_n hx hb dX8_cut_36 rfl (lv_at hl 1 rfl) ?_
      refine lv_iconst (v := 2) hx hb dX8_cut_37 (by decide) ?_
      refine x_ki (x_runV (As := [.int (2 : Int32)]) (rest := []) C hml hR hS (m_X8_refuse l gg x0 (2 : Int32) S102 h) b_X8_refuse q_8_5 (by rw [hK_x0]; decide) (s_E_9 hK_x0) rfl rfl rfl rfl ⟨Nat.le_of_ble_eq_true rfl, Nat.le_of_ble_eq_true rfl⟩ rfl hl.1 (Nat.le_of_ble_eq_true rfl) dX8_cut_38 ⟨Nat.le_refl _, Nat.le_refl _⟩) hS (fun x157 S156 H locs hn hR hS => ?_)
      replace h := hn
      clear hn
      exact W.iret (v := x157) hx hb hr (fun t ht hW => ⟨⟨x157, S156, rfl, h, x_rt ht hR⟩, hS.F ht⟩) hS.2.2 dX8_cut_41
  · replace h := h.2 hc104
    refine lv_aload_n hx hb dX8_cut_13 rfl (lv_at hl 0 rfl) ?_
    refine lv_iconst (v := 1) hx hb dX8_cut_14 (by decide) ?_
    obtain ⟨hK_x0, h⟩ := h
    refine x_ki (x_runV (As := [.int (1 : Int32)]) (rest := []) C hml hR hS (m_X8_refuse l gg x0 (1 : Int32) S102 h) b_X8_refuse q_8_5 (by rw [hK_x0]; decide) (s_E_9 hK_x0) rfl rfl rfl rfl ⟨Nat.le_of_ble_eq_true rfl, Nat.le_of_ble_eq_true rfl⟩ rfl hl.1 (Nat.le_of_ble_eq_true rfl) dX8_cut_15 ⟨Nat.le_refl _, Nat.le_refl _⟩) hS (fun x159 S158 H locs hn hR hS => ?_)
    replace h := hn
    clear hn
    exact W.iret (v := x159) hx hb hr (fun t ht hW => ⟨⟨x159, S158, rfl, h, x_rt ht hR⟩, hS.F ht⟩) hS.2.2 dX8_cut_18
theorem m_X8_cut (l : Launch) (gg : sG) (x0 : Nat) (x1 : Int32) (S : sT) {Q : Int32 → sT → Prop} (h : w_X8_cut x0 x1 S Q) : x_Mi l gg yX8_cut (x_ws yX8_cut cX8_cut 5 (some .int)) r_X8_cut [.ref x0, .int x1] S Q 0 0 := by
  refine x_ofW (cc := cX8_cut) (own := RX8) (by decide +kernel) rfl (Nat.le_of_ble_eq_true rfl) ?_
  intro p e s m args below meth c C hml hr hlocks hin ht H locs ls hR hS hl
  exact t_X8_cut_b0 C hml hr hlocks h H locs ls hR hS (lv_sub (l' := [(0, .ref x0), (1, .int x1)]) hl [0, 1] rfl)
def w_X8_day_b36 (x0 : Nat) (S : sT)  (Q : Int32 → sT → Prop) : Prop :=
s_K S x0 = 10 ∧
    w_X8_refuse x0 (1 : Int32) S (fun x102 S101 =>
    Q x102 S101)
def w_X8_day_b0 (x0 : Nat) (x1 : Int32) (x2 : Int32) (x3 : Int32) (S : sT)  (Q : Int32 → sT → Prop) : Prop :=
s_K S x0 = 10 ∧
    ∀ S101 : sT, S101 = s_sI S 288 x0 (0 : Int32) →
    w_X8_is x1 (0 : Int32) (200 : Int32) S101 (fun x103 S102 =>
    ((x103 = 0 → w_X8_day_b36 x0 S102  Q) ∧
    (¬ x103 = 0 → w_X8_is x2 (0 : Int32) (40 : Int32) S102 (fun x106 S105 =>
    ((x106 = 0 → w_X8_day_b36 x0 S105  Q) ∧
    (¬ x106 = 0 → w_X8_is x3 (0 : Int32) (30 : Int32) S105 (fun x109 S108 =>
    ((¬ x109 = 0 → s_K S108 x0 = 10 ∧
    ∃ a111 : Nat, s_R S108 289 x0 = some a111 ∧
    s_K S108 a111 = 9 ∧
    ∃ a112 : Nat, s_R S108 258 a111 = some a112 ∧
    s_K S108 a112 = 11 ∧
    vp_in (1 : Int32) (s_N S108 a112) ∧
    ∀ S114 : sT, S114 = s_sB S108 a112 (Int32.toNatClampNeg (1 : Int32)) x1 →
    ∃ a115 : Nat, s_R S114 289 x0 = some a115 ∧
    s_K S114 a115 = 9 ∧
    ∃ a116 : Nat, s_R S114 258 a115 = some a116 ∧
    s_K S114 a116 = 11 ∧
    vp_in (2 : Int32) (s_N S114 a116) ∧
    ∀ S118 : sT, S118 = s_sB S114 a116 (Int32.toNatClampNeg (2 : Int32)) x2 →
    ∃ a119 : Nat, s_R S118 289 x0 = some a119 ∧
    s_K S118 a119 = 9 ∧
    ∃ a120 : Nat, s_R S118 258 a119 = some a120 ∧
    s_K S118 a120 = 11 ∧
    vp_in (3 : Int32) (s_N S118 a120) ∧
    ∀ S122 : sT, S122 = s_sB S118 a120 (Int32.toNatClampNeg (3 : Int32)) x3 →
    ∃ a123 : Nat, s_R S122 289 x0 = some a123 ∧
    s_K S122 a123 = 9 ∧
    w_X7_pass a123 S122 (fun S124 =>
    s_K S124 x0 = 10 ∧
    ∃ a125 : Nat, s_R S124 289 x0 = some a125 ∧
    s_K S124 a125 = 9 ∧
    ∃ a126 : Nat, s_R S124 258 a125 = some a126 ∧
    s_K S124 a126 = 11 ∧
    vp_in (0 : Int32) (s_N S124 a126) ∧
    ∀ x128 : Int32, x128 = s_B S124 a126 (Int32.toNatClampNeg (0 : Int32)) →
    Q x128 S124)) ∧
    (x109 = 0 → w_X8_day_b36 x0 S108  Q)))))))))
def w_X8_day (x0 : Nat) (x1 : Int32) (x2 : Int32) (x3 : Int32) (S : sT) (Q : Int32 → sT → Prop) : Prop := w_X8_day_b0 x0 x1 x2 x3 S Q
def r_X8_day : Room := x_rm 4 119 0 0
theorem b_X8_day : x_BV yX8_day cX8_day 4 (some .int) 3 := ⟨q_26_4, q_26_2, q_26_3, q_1_5, by decide +kernel⟩
set_option maxHeartbeats 4000000 in
theorem t_X8_day_b36 {Q : Int32 → sT → Prop} (C : x_C p s m args c cX8_day RX8 gg) (hml : c.maxLocals = 4) (hr : meth.sig.returnType = (some .int)) (hlocks : meth.locks = false) {x0 : Nat}  {S : sT}  (h : w_X8_day_b36 x0 S  Q) : x_X p l e r_X8_day s m args below meth c gg 4 0 0 (MQ below (va_Qi Q (fun S1 t => s_Rep gg S1 t.heap) (s_A gg)) args s 0 0 (s_A gg)) 36 [(0, .ref x0)] [] S := by
  unfold w_X8_day_b36 at h
  obtain ⟨hx, hb, -⟩ := id C
  intro H locs ls hR hS hl
  refine lv_aload_n hx hb dX8_day_36 rfl (lv_at hl 0 rfl) ?_
  refine lv_iconst (v := 1) hx hb dX8_day_37 (by decide) ?_
  obtain ⟨hK_x0, h⟩ := h
  refine x_ki (x_runV (As := [.int (1 : Int32)]) (rest := []) C hml hR hS (m_X8_refuse l gg x0 (1 : Int32) S h) b_X8_refuse q_8_5 (by rw [hK_x0]; decide) (s_E_9 hK_x0) rfl rfl rfl rfl ⟨Nat.le_of_ble_eq_true rfl, Nat.le_of_ble_eq_true rfl⟩ rfl hl.1 (Nat.le_of_ble_eq_true rfl) dX8_day_38 ⟨Nat.le_refl _, Nat.le_refl _⟩) hS (fun x102 S101 H locs hn hR hS => ?_)
  replace h := hn
  clear hn
  exact W.iret (v := x102) hx hb hr (fun t ht hW => ⟨⟨x102, S101, rfl, h, x_rt ht hR⟩, hS.F ht⟩) hS.2.2 dX8_day_41
set_option maxHeartbeats 4000000 in
theorem t_X8_day_b0 {Q : Int32 → sT → Prop} (C : x_C p s m args c cX8_day RX8 gg) (hml : c.maxLocals = 4) (hr : meth.sig.returnType = (some .int)) (hlocks : meth.locks = false) {x0 : Nat} {x1 : Int32} {x2 : Int32} {x3 : Int32}  {S : sT}  (h : w_X8_day_b0 x0 x1 x2 x3 S  Q) : x_X p l e r_X8_day s m args below meth c gg 4 0 0 (MQ below (va_Qi Q (fun S1 t => s_Rep gg S1 t.heap) (s_A gg)) args s 0 0 (s_A gg)) 0 [(0, .ref x0), (1, .int x1), (2, .int x2), (3, .int x3)] [] S := by
  unfold w_X8_day_b0 at h
  obtain ⟨hx, hb, -⟩ := id C
  intro H locs ls hR hS hl
  refine lv_aload_n hx hb dX8_day_0 rfl (lv_at hl 0 rfl) ?_
  refine lv_iconst (v := 0) hx hb dX8_day_1 (by decide) ?_
  obtain ⟨hK_x0, h⟩ := h
  refine x_p_288 (v := (0 : Int32)) C hR hK_x0 hS q_8_1 dX8_day_2 (fun H locs hR hS => ?_)
  obtain ⟨S101, eS101⟩ : ∃ z : sT, z = s_sI S 288 x0 (0 : Int32) := ⟨_, rfl⟩
  rw [← eS101] at hR
  replace h := h S101 eS101
  have hK_x0 : s_K S101 x0 = 10 := by rw [eS101]; exact hK_x0
  refine lv_iload_n hx hb dX8_day_5 rfl (lv_at hl 1 rfl) ?_
  refine lv_iconst (v := 0) hx hb dX8_day_6 (by decide) ?_
  refine lv_sipush (v := 200) hx hb dX8_day_7 (by decide) ?_
  refine x_ki (x_runS (As := [.int x1, .int (0 : Int32), .int (200 : Int32)]) (rest := []) C hml hR hS (m_X8_is l gg x1 (0 : Int32) (200 : Int32) S101 h) b_X8_is q_8_2 rfl rfl ⟨Nat.le_of_ble_eq_true rfl, Nat.le_of_ble_eq_true rfl⟩ rfl hl.1 (Nat.le_of_ble_eq_true rfl) dX8_day_10 ⟨Nat.le_refl _, Nat.le_refl _⟩) hS (fun x103 S102 H locs hn hR hS => ?_)
  replace h := hn
  clear hn
  refine lv_if_eq (tgt := 36) hx hb dX8_day_13 (by decide) (fun hc104 => ?_) (fun hc104 => ?_)
  · replace h := h.1 hc104
    exact t_X8_day_b36 C hml hr hlocks  h H locs ls hR hS (lv_sub (l' := [(0, .ref x0)]) hl [0] rfl)
  · replace h := h.2 hc104
    refine lv_iload_n hx hb dX8_day_16 rfl (lv_at hl 2 rfl) ?_
    refine lv_iconst (v := 0) hx hb dX8_day_17 (by decide) ?_
    refine lv_bipush (v := 40) hx hb dX8_day_18 (by decide) ?_
    refine x_ki (x_runS (As := [.int x2, .int (0 : Int32), .int (40 : Int32)]) (rest := []) C hml hR hS (m_X8_is l gg x2 (0 : Int32) (40 : Int32) S102 h) b_X8_is q_8_2 rfl rfl ⟨Nat.le_of_ble_eq_true rfl, Nat.le_of_ble_eq_true rfl⟩ rfl hl.1 (Nat.le_of_ble_eq_true rfl) dX8_day_20 ⟨Nat.le_refl _, Nat.le_refl _⟩) hS (fun x106 S105 H locs hn hR hS => ?_)
    replace h := hn
    clear hn
    refine lv_if_eq (tgt := 36) hx hb dX8_day_23 (by decide) (fun hc107 => ?_) (fun hc107 => ?_)
    · replace h := h.1 hc107
      exact t_X8_day_b36 C hml hr hlocks  h H locs ls hR hS (lv_sub (l' := [(0, .ref x0)]) hl [0] rfl)
    · replace h := h.2 hc107
      refine lv_iload_n hx hb dX8_day_26 rfl (lv_at hl 3 rfl) ?_
      refine lv_iconst (v := 0) hx hb dX8_day_27 (by decide) ?_
      refine lv_bipush (v := 30) hx hb dX8_day_28 (by decide) ?_
      refine x_ki (x_runS (As := [.int x3, .int (0 : Int32), .int (30 : Int32)]) (rest := []) C hml hR hS (m_X8_is l gg x3 (0 : Int32) (30 : Int32) S105 h) b_X8_is q_8_2 rfl rfl ⟨Nat.le_of_ble_eq_true rfl, Nat.le_of_ble_eq_true rfl⟩ rfl hl.1 (Nat.le_of_ble_eq_true rfl) dX8_day_30 ⟨Nat.le_refl _, Nat.le_refl _⟩) hS (fun x109 S108 H locs hn hR hS => ?_)
      replace h := hn
      clear hn
      refine lv_if_ne (tgt := 42) hx hb dX8_day_33 (by decide) (fun hc110 => ?_) (fun hc110 => ?_)
      · replace h := h.1 hc110
        refine lv_aload_n hx hb dX8_day_42 rfl (lv_at hl 0 rfl) ?_
        obtain ⟨hK_x0, h⟩ := h
        refine x_g_289 C hR hK_x0 q_3_8 dX8_day_43 ?_
        obtain ⟨a111, ea111, h⟩ := h
        refine x_some ea111 ?_
        obtain ⟨hK_a111, h⟩ := h
        refine x_gN_258 C hR hK_a111 (xn_0 C) dX8_day_46 ?_
        obtain ⟨a112, ea112, h⟩ := h
        refine x_some ea112 ?_
        refine lv_iconst (v := 1) hx hb dX8_day_49 (by decide) ?_
        refine lv_iload_n hx hb dX8_day_50 rfl (lv_at hl 1 rfl) ?_
        obtain ⟨hK_a112, h⟩ := h
        obtain ⟨hi113, h⟩ := h
        refine x_iast C hR hK_a112 hS hi113 dX8_day_51 (fun H locs hR hS => ?_)
        obtain ⟨S114, eS114⟩ : ∃ z : sT, z = s_sB S108 a112 (Int32.toNatClampNeg (1 : Int32)) x1 := ⟨_, rfl⟩
        rw [← eS114] at hR
        replace h := h S114 eS114
        have hK_x0 : s_K S114 x0 = 10 := by rw [eS114]; exact hK_x0
        have hK_a111 : s_K S114 a111 = 9 := by rw [eS114]; exact hK_a111
        have hK_a112 : s_K S114 a112 = 11 := by rw [eS114]; exact hK_a112
        refine lv_aload_n hx hb dX8_day_52 rfl (lv_at hl 0 rfl) ?_
        refine x_g_289 C hR hK_x0 q_3_8 dX8_day_53 ?_
        obtain ⟨a115, ea115, h⟩ := h
        refine x_some ea115 ?_
        obtain ⟨hK_a115, h⟩ := h
        refine x_gN_258 C hR hK_a115 (xn_0 C) dX8_day_56 ?_
        obtain ⟨a116, ea116, h⟩ := h
        refine x_some ea116 ?_
        refine lv_iconst (v := 2) hx hb dX8_day_59 (by decide) ?_
        refine lv_iload_n hx hb dX8_day_60 rfl (lv_at hl 2 rfl) ?_
        obtain ⟨hK_a116, h⟩ := h
        obtain ⟨hi117, h⟩ := h
        refine x_iast C hR hK_a116 hS hi117 dX8_day_61 (fun H locs hR hS => ?_)
        obtain ⟨S118, eS118⟩ : ∃ z : sT, z = s_sB S114 a116 (Int32.toNatClampNeg (2 : Int32)) x2 := ⟨_, rfl⟩
        rw [← eS118] at hR
        replace h := h S118 eS118
        have hK_x0 : s_K S118 x0 = 10 := by rw [eS118]; exact hK_x0
        have hK_a111 : s_K S118 a111 = 9 := by rw [eS118]; exact hK_a111
        have hK_a112 : s_K S118 a112 = 11 := by rw [eS118]; exact hK_a112
        have hK_a115 : s_K S118 a115 = 9 := by rw [eS118]; exact hK_a115
        have hK_a116 : s_K S118 a116 = 11 := by rw [eS118]; exact hK_a116
        refine lv_aload_n hx hb dX8_day_62 rfl (lv_at hl 0 rfl) ?_
        refine x_g_289 C hR hK_x0 q_3_8 dX8_day_63 ?_
        obtain ⟨a119, ea119, h⟩ := h
        refine x_some ea119 ?_
        obtain ⟨hK_a119, h⟩ := h
        refine x_gN_258 C hR hK_a119 (xn_0 C) dX8_day_66 ?_
        obtain ⟨a120, ea120, h⟩ := h
        refine x_some ea120 ?_
        refine lv_iconst (v := 3) hx hb dX8_day_69 (by decide) ?_
        refine lv_iload_n hx hb dX8_day_70 rfl (lv_at hl 3 rfl) ?_
        obtain ⟨hK_a120, h⟩ := h
        obtain ⟨hi121, h⟩ := h
        refine x_iast C hR hK_a120 hS hi121 dX8_day_71 (fun H locs hR hS => ?_)
        obtain ⟨S122, eS122⟩ : ∃ z : sT, z = s_sB S118 a120 (Int32.toNatClampNeg (3 : Int32)) x3 := ⟨_, rfl⟩
        rw [← eS122] at hR
        replace h := h S122 eS122
        have hK_x0 : s_K S122 x0 = 10 := by rw [eS122]; exact hK_x0
        have hK_a111 : s_K S122 a111 = 9 := by rw [eS122]; exact hK_a111
        have hK_a112 : s_K S122 a112 = 11 := by rw [eS122]; exact hK_a112
        have hK_a115 : s_K S122 a115 = 9 := by rw [eS122]; exact hK_a115
        have hK_a116 : s_K S122 a116 = 11 := by rw [eS122]; exact hK_a116
        have hK_a119 : s_K S122 a119 = 9 := by rw [eS122]; exact hK_a119
        have hK_a120 : s_K S122 a120 = 11 := by rw [eS122]; exact hK_a120
        refine lv_aload_n hx hb dX8_day_72 rfl (lv_at hl 0 rfl) ?_
        refine x_g_289 C hR hK_x0 q_3_8 dX8_day_73 ?_
        obtain ⟨a123, ea123, h⟩ := h
        refine x_some ea123 ?_
        obtain ⟨hK_a123, h⟩ := h
        refine x_kv (x_runV (As := []) (rest := []) C hml hR hS (m_X7_pass l gg a123 S122 h) b_X7_pass q_26_5 (by rw [hK_a123]; decide) (s_E_8 hK_a123) rfl rfl rfl rfl ⟨Nat.le_of_ble_eq_true rfl, Nat.le_of_ble_eq_true rfl⟩ rfl hl.1 (Nat.le_of_ble_eq_true rfl) dX8_day_76 ⟨Nat.le_refl _, Nat.le_refl _⟩) hS (fun S124 H locs hn hR hS => ?_)
        replace h := hn
        clear hn
        refine lv_aload_n hx hb dX8_day_79 rfl (lv_at hl 0 rfl) ?_
        obtain ⟨hK_x0, h⟩ := h
        refine x_g_289 C hR hK_x0 q_3_8 dX8_day_80 ?_
        obtain ⟨a125, ea125, h⟩ := h
        refine x_some ea125 ?_
        obtain ⟨hK_a125, h⟩ := h
        refine x_gN_258 C hR hK_a125 (xn_0 C) dX8_day_83 ?_
        obtain ⟨a126, ea126, h⟩ := h
        refine x_some ea126 ?_
        refine lv_iconst (v := 0) hx hb dX8_day_86 (by decide) ?_
        obtain ⟨hK_a126, h⟩ := h
        obtain ⟨hi127, h⟩ := h
        refine x_iald C hR hK_a126 hi127 dX8_day_87 ?_
        refine lv_topi (fun x128 ex128 => ?_)
        replace h := h x128 ex128
        exact W.iret (v := x128) hx hb hr (fun t ht hW => ⟨⟨x128, S124, rfl, h, x_rt ht hR⟩, hS.F ht⟩) hS.2.2 dX8_day_88
      · replace h := h.2 hc110
        exact t_X8_day_b36 C hml hr hlocks  h H locs ls hR hS (lv_sub (l' := [(0, .ref x0)]) hl [0] rfl)
theorem m_X8_day (l : Launch) (gg : sG) (x0 : Nat) (x1 : Int32) (x2 : Int32) (x3 : Int32) (S : sT) {Q : Int32 → sT → Prop} (h : w_X8_day x0 x1 x2 x3 S Q) : x_Mi l gg yX8_day (x_ws yX8_day cX8_day 4 (some .int)) r_X8_day [.ref x0, .int x1, .int x2, .int x3] S Q 0 0 := by
  refine x_ofW (cc := cX8_day) (own := RX8) (by decide +kernel) rfl (Nat.le_of_ble_eq_true rfl) ?_
  intro p e s m args below meth c C hml hr hlocks hin ht H locs ls hR hS hl
  exact t_X8_day_b0 C hml hr hlocks h H locs ls hR hS (lv_sub (l' := [(0, .ref x0), (1, .int x1), (2, .int x2), (3, .int x3)]) hl [0, 1, 2, 3] rfl)
def w_X8_inspect_b91 (x0 : Nat) (x1 : Int32) (x2 : Int32) (x3 : Nat) (x4 : Int32) (x5 : Int32) (S : sT) (kk36 : Nat → Int32 → Int32 → Nat → Int32 → Int32 → sT → Prop) (Q : Int32 → sT → Prop) : Prop :=
∀ x101 : Int32, x101 = x5 + 1 →
    kk36 x0 x1 x2 x3 x4 x101 S
def w_X8_inspect_b36  (Q : Int32 → sT → Prop) : Nat → Nat → Int32 → Int32 → Nat → Int32 → Int32 → sT → Prop
  | 0 => fun _ _ _ _ _ _ _ => False
  | n + 1 => fun x0 x1 x2 x3 x4 x5 S =>
((x4 ≤ x5 → s_K S x0 = 10 ∧
    ∃ a102 : Nat, s_R S 289 x0 = some a102 ∧
    s_K S a102 = 9 ∧
    ∃ a103 : Nat, s_R S 256 a102 = some a103 ∧
    s_K S a103 = 13 ∧
    vp_in x1 (s_N S a103) ∧
    ∃ a105 : Nat, s_P S a103 (Int32.toNatClampNeg x1) = some a105 ∧
    s_K S a105 = 11 ∧
    vp_in (4 : Int32) (s_N S a105) ∧
    ∀ x107 : Int32, x107 = s_B S a105 (Int32.toNatClampNeg (4 : Int32)) →
    ∀ x108 : Int32, x108 = x107 + x2 →
    vp_in (4 : Int32) (s_N S a105) ∧
    ∀ S110 : sT, S110 = s_sB S a105 (Int32.toNatClampNeg (4 : Int32)) x108 →
    Q x2 S110) ∧
    (¬ x4 ≤ x5 → s_K S x3 = 13 ∧
    vp_in x5 (s_N S x3) ∧
    ∃ a112 : Nat, s_P S x3 (Int32.toNatClampNeg x5) = some a112 ∧
    s_K S a112 = 11 ∧
    vp_in (0 : Int32) (s_N S a112) ∧
    ∀ x114 : Int32, x114 = s_B S a112 (Int32.toNatClampNeg (0 : Int32)) →
    ((x114 = x1 → vp_in (17 : Int32) (s_N S a112) ∧
    ∀ x117 : Int32, x117 = s_B S a112 (Int32.toNatClampNeg (17 : Int32)) →
    vp_in (15 : Int32) (s_N S a112) ∧
    ∀ x119 : Int32, x119 = s_B S a112 (Int32.toNatClampNeg (15 : Int32)) →
    ∀ x120 : Int32, x120 = (5 : Int32) * x119 →
    ∀ x121 : Int32, x121 = x117 - x120 →
    vp_in (17 : Int32) (s_N S a112) ∧
    ∀ S123 : sT, S123 = s_sB S a112 (Int32.toNatClampNeg (17 : Int32)) x121 →
    vp_in (15 : Int32) (s_N S123 a112) ∧
    ∀ x125 : Int32, x125 = s_B S123 a112 (Int32.toNatClampNeg (15 : Int32)) →
    ∀ x126 : Int32, x126 = (5 : Int32) * x125 →
    ∀ x127 : Int32, x127 = x2 + x126 →
    vp_in (15 : Int32) (s_N S123 a112) ∧
    ∀ S129 : sT, S129 = s_sB S123 a112 (Int32.toNatClampNeg (15 : Int32)) (0 : Int32) →
    w_X8_inspect_b91 x0 x1 x127 x3 x4 x5 S129 (fun x0 x1 x2 x3 x4 x5 S => w_X8_inspect_b36  Q n x0 x1 x2 x3 x4 x5 S) Q) ∧
    (¬ x114 = x1 → w_X8_inspect_b91 x0 x1 x2 x3 x4 x5 S (fun x0 x1 x2 x3 x4 x5 S => w_X8_inspect_b36  Q n x0 x1 x2 x3 x4 x5 S) Q))))
def w_X8_inspect_b0 (x0 : Nat) (x1 : Int32) (S : sT)  (Q : Int32 → sT → Prop) : Prop :=
s_K S x0 = 10 ∧
    ∀ S101 : sT, S101 = s_sI S 288 x0 (0 : Int32) →
    w_X8_isSociety x0 x1 S101 (fun x103 S102 =>
    ((¬ x103 = 0 → s_K S102 x0 = 10 ∧
    ∃ a105 : Nat, s_R S102 289 x0 = some a105 ∧
    s_K S102 a105 = 9 ∧
    ∃ a106 : Nat, s_R S102 257 a105 = some a106 ∧
    s_K S102 a106 = 13 ∧
    ∀ x107 : Int32, x107 = nI (s_N S102 a106) →
    ∃ n9 : Nat, w_X8_inspect_b36  Q n9 x0 x1 (0 : Int32) a106 x107 (0 : Int32) S102) ∧
    (x103 = 0 → s_K S102 x0 = 10 ∧
    w_X8_refuse x0 (1 : Int32) S102 (fun x109 S108 =>
    Q x109 S108))))
def w_X8_inspect (x0 : Nat) (x1 : Int32) (S : sT) (Q : Int32 → sT → Prop) : Prop := w_X8_inspect_b0 x0 x1 S Q
def r_X8_inspect : Room := x_rm 2 43 0 0
theorem b_X8_inspect : x_BV yX8_inspect cX8_inspect 7 (some .int) 1 := ⟨q_28_17, q_28_15, q_28_16, q_1_5, by decide +kernel⟩
set_option maxHeartbeats 4000000 in
theorem t_X8_inspect_b91 {Q : Int32 → sT → Prop} (C : x_C p s m args c cX8_inspect RX8 gg) (hml : c.maxLocals = 7) (hr : meth.sig.returnType = (some .int)) (hlocks : meth.locks = false) {x0 : Nat} {x1 : Int32} {x2 : Int32} {x3 : Nat} {x4 : Int32} {x5 : Int32} {kk36 : Nat → Int32 → Int32 → Nat → Int32 → Int32 → sT → Prop} {S : sT} (hk36 : ∀ (x0 : Nat) (x1 : Int32) (x2 : Int32) (x3 : Nat) (x4 : Int32) (x5 : Int32) (S : sT), kk36 x0 x1 x2 x3 x4 x5 S → x_X p l e r_X8_inspect s m args below meth c gg 7 0 0 (MQ below (va_Qi Q (fun S1 t => s_Rep gg S1 t.heap) (s_A gg)) args s 0 0 (s_A gg)) 36 [(0, .ref x0), (1, .int x1), (2, .int x2), (3, .ref x3), (4, .int x4), (5, .int x5)] [] S) (h : w_X8_inspect_b91 x0 x1 x2 x3 x4 x5 S kk36 Q) : x_X p l e r_X8_inspect s m args below meth c gg 7 0 0 (MQ below (va_Qi Q (fun S1 t => s_Rep gg S1 t.heap) (s_A gg)) args s 0 0 (s_A gg)) 91 [(0, .ref x0), (1, .int x1), (2, .int x2), (3, .ref x3), (4, .int x4), (5, .int x5)] [] S := by
  unfold w_X8_inspect_b91 at h
  obtain ⟨hx, hb, -⟩ := id C
  intro H locs ls hR hS hl
  obtain ⟨x101, ex101⟩ : ∃ z : Int32, z = x5 + 1 := ⟨_, rfl⟩
  replace h := h x101 ex101
  refine lv_iinc (v := x101) (lv' := [(5, .int x101), (0, .ref x0), (1, .int x1), (2, .int x2), (3, .ref x3), (4, .int x4)]) hx hb dX8_inspect_91 hl (k := 5) rfl (by rw [ex101]; rfl) (by decide) rfl (fun ls hl => ?_)
  refine lv_goto (tgt := 36) hx hb dX8_inspect_94 (by decide) ?_
  exact hk36 x0 x1 x2 x3 x4 x101 S h H locs ls hR hS (lv_sub (l' := [(0, .ref x0), (1, .int x1), (2, .int x2), (3, .ref x3), (4, .int x4), (5, .int x101)]) hl [1, 2, 3, 4, 5, 0] rfl)
set_option maxHeartbeats 4000000 in
theorem t_X8_inspect_b36 {Q : Int32 → sT → Prop} (C : x_C p s m args c cX8_inspect RX8 gg) (hml : c.maxLocals = 7) (hr : meth.sig.returnType = (some .int)) (hlocks : meth.locks = false)   : ∀ (n : Nat) (x0 : Nat) (x1 : Int32) (x2 : Int32) (x3 : Nat) (x4 : Int32) (x5 : Int32) (S : sT), w_X8_inspect_b36  Q n x0 x1 x2 x3 x4 x5 S → x_X p l e r_X8_inspect s m args below meth c gg 7 0 0 (MQ below (va_Qi Q (fun S1 t => s_Rep gg S1 t.heap) (s_A gg)) args s 0 0 (s_A gg)) 36 [(0, .ref x0), (1, .int x1), (2, .int x2), (3, .ref x3), (4, .int x4), (5, .int x5)] [] S := by
  obtain ⟨hx, hb, -⟩ := id C
  intro n
  induction n with
  | zero => intro x0 x1 x2 x3 x4 x5 S h; exact absurd h id
  | succ n ih =>
    intro x0 x1 x2 x3 x4 x5 S h H locs ls hR hS hl
    unfold w_X8_inspect_b36 at h
    refine lv_iload hx hb dX8_inspect_36 (lv_at hl 5 rfl) ?_
    refine lv_iload hx hb dX8_inspect_38 (lv_at hl 4 rfl) ?_
    refine lv_icmp_ge (tgt := 97) hx hb dX8_inspect_40 (by decide) (fun hc101 => ?_) (fun hc101 => ?_)
    · replace h := h.1 hc101
      refine lv_aload_n hx hb dX8_inspect_97 rfl (lv_at hl 0 rfl) ?_
      obtain ⟨hK_x0, h⟩ := h
      refine x_g_289 C hR hK_x0 q_3_8 dX8_inspect_98 ?_
      obtain ⟨a102, ea102, h⟩ := h
      refine x_some ea102 ?_
      obtain ⟨hK_a102, h⟩ := h
      refine x_gN_256 C hR hK_a102 (xn_2 C) dX8_inspect_101 ?_
      obtain ⟨a103, ea103, h⟩ := h
      refine x_some ea103 ?_
      refine lv_iload_n hx hb dX8_inspect_104 rfl (lv_at hl 1 rfl) ?_
      obtain ⟨hK_a103, h⟩ := h
      obtain ⟨hi104, a105, ea105, h⟩ := h
      refine x_aald13 C hR hK_a103 hi104 dX8_inspect_105 ?_
      refine x_some ea105 ?_
      refine lv_iconst (v := 4) hx hb dX8_inspect_106 (by decide) ?_
      refine lv_dup2_11 hx hb dX8_inspect_107 rfl rfl ?_
      obtain ⟨hK_a105, h⟩ := h
      obtain ⟨hi106, h⟩ := h
      refine x_iald C hR hK_a105 hi106 dX8_inspect_108 ?_
      refine lv_topi (fun x107 ex107 => ?_)
      replace h := h x107 ex107
      refine lv_iload_n hx hb dX8_inspect_109 rfl (lv_at hl 2 rfl) ?_
      refine lv_iadd hx hb dX8_inspect_110 ?_
      refine lv_topi (fun x108 ex108 => ?_)
      replace h := h x108 ex108
      obtain ⟨hi109, h⟩ := h
      refine x_iast C hR hK_a105 hS hi109 dX8_inspect_111 (fun H locs hR hS => ?_)
      obtain ⟨S110, eS110⟩ : ∃ z : sT, z = s_sB S a105 (Int32.toNatClampNeg (4 : Int32)) x108 := ⟨_, rfl⟩
      rw [← eS110] at hR
      replace h := h S110 eS110
      have hK_x0 : s_K S110 x0 = 10 := by rw [eS110]; exact hK_x0
      have hK_a102 : s_K S110 a102 = 9 := by rw [eS110]; exact hK_a102
      have hK_a103 : s_K S110 a103 = 13 := by rw [eS110]; exact hK_a103
      have hK_a105 : s_K S110 a105 = 11 := by rw [eS110]; exact hK_a105
      refine lv_iload_n hx hb dX8_inspect_112 rfl (lv_at hl 2 rfl) ?_
      exact W.iret (v := x2) hx hb hr (fun t ht hW => ⟨⟨x2, S110, rfl, h, x_rt ht hR⟩, hS.F ht⟩) hS.2.2 dX8_inspect_113
    · replace h := h.2 hc101
      refine lv_aload_n hx hb dX8_inspect_43 rfl (lv_at hl 3 rfl) ?_
      refine lv_iload hx hb dX8_inspect_44 (lv_at hl 5 rfl) ?_
      obtain ⟨hK_x3, h⟩ := h
      obtain ⟨hi111, a112, ea112, h⟩ := h
      refine x_aald13 C hR hK_x3 hi111 dX8_inspect_46 ?_
      refine x_some ea112 ?_
      refine lv_astore (lv' := [(6, .ref a112), (0, .ref x0), (1, .int x1), (2, .int x2), (3, .ref x3), (4, .int x4), (5, .int x5)]) hx hb dX8_inspect_47 hl (by decide) rfl (fun ls hl => ?_)
      refine lv_aload hx hb dX8_inspect_49 (lv_at hl 0 rfl) ?_
      refine lv_iconst (v := 0) hx hb dX8_inspect_51 (by decide) ?_
      obtain ⟨hK_a112, h⟩ := h
      obtain ⟨hi113, h⟩ := h
      refine x_iald C hR hK_a112 hi113 dX8_inspect_52 ?_
      refine lv_topi (fun x114 ex114 => ?_)
      replace h := h x114 ex114
      refine lv_iload_n hx hb dX8_inspect_53 rfl (lv_at hl 2 rfl) ?_
      refine lv_icmp_eq (tgt := 60) hx hb dX8_inspect_54 (by decide) (fun hc115 => ?_) (fun hc115 => ?_)
      · replace h := h.1 hc115
        refine lv_aload hx hb dX8_inspect_60 (lv_at hl 0 rfl) ?_
        refine lv_bipush (v := 17) hx hb dX8_inspect_62 (by decide) ?_
        refine lv_dup2_11 hx hb dX8_inspect_64 rfl rfl ?_
        obtain ⟨hi116, h⟩ := h
        refine x_iald C hR hK_a112 hi116 dX8_inspect_65 ?_
        refine lv_topi (fun x117 ex117 => ?_)
        replace h := h x117 ex117
        refine lv_iconst (v := 5) hx hb dX8_inspect_66 (by decide) ?_
        refine lv_aload hx hb dX8_inspect_67 (lv_at hl 0 rfl) ?_
        refine lv_bipush (v := 15) hx hb dX8_inspect_69 (by decide) ?_
        obtain ⟨hi118, h⟩ := h
        refine x_iald C hR hK_a112 hi118 dX8_inspect_71 ?_
        refine lv_topi (fun x119 ex119 => ?_)
        replace h := h x119 ex119
        refine lv_imul hx hb dX8_inspect_72 ?_
        refine lv_topi (fun x120 ex120 => ?_)
        replace h := h x120 ex120
        refine lv_isub hx hb dX8_inspect_73 ?_
        refine lv_topi (fun x121 ex121 => ?_)
        replace h := h x121 ex121
        obtain ⟨hi122, h⟩ := h
        refine x_iast C hR hK_a112 hS hi122 dX8_inspect_74 (fun H locs hR hS => ?_)
        obtain ⟨S123, eS123⟩ : ∃ z : sT, z = s_sB S a112 (Int32.toNatClampNeg (17 : Int32)) x121 := ⟨_, rfl⟩
        rw [← eS123] at hR
        replace h := h S123 eS123
        have hK_x3 : s_K S123 x3 = 13 := by rw [eS123]; exact hK_x3
        have hK_a112 : s_K S123 a112 = 11 := by rw [eS123]; exact hK_a112
        refine lv_iload_n hx hb dX8_inspect_75 rfl (lv_at hl 3 rfl) ?_
        refine lv_iconst (v := 5) hx hb dX8_inspect_76 (by decide) ?_
        refine lv_aload hx hb dX8_inspect_77 (lv_at hl 0 rfl) ?_
        refine lv_bipush (v := 15) hx hb dX8_inspect_79 (by decide) ?_
        obtain ⟨hi124, h⟩ := h
        refine x_iald C hR hK_a112 hi124 dX8_inspect_81 ?_
        refine lv_topi (fun x125 ex125 => ?_)
        replace h := h x125 ex125
        refine lv_imul hx hb dX8_inspect_82 ?_
        refine lv_topi (fun x126 ex126 => ?_)
        replace h := h x126 ex126
        refine lv_iadd hx hb dX8_inspect_83 ?_
        refine lv_topi (fun x127 ex127 => ?_)
        replace h := h x127 ex127
        refine lv_istore_n (lv' := [(2, .int x127), (6, .ref a112), (0, .ref x0), (1, .int x1), (3, .ref x3), (4, .int x4), (5, .int x5)]) hx hb dX8_inspect_84 rfl hl (by decide) rfl (fun ls hl => ?_)
        refine lv_aload hx hb dX8_inspect_85 (lv_at hl 1 rfl) ?_
        refine lv_bipush (v := 15) hx hb dX8_inspect_87 (by decide) ?_
        refine lv_iconst (v := 0) hx hb dX8_inspect_89 (by decide) ?_
        obtain ⟨hi128, h⟩ := h
        refine x_iast C hR hK_a112 hS hi128 dX8_inspect_90 (fun H locs hR hS => ?_)
        obtain ⟨S129, eS129⟩ : ∃ z : sT, z = s_sB S123 a112 (Int32.toNatClampNeg (15 : Int32)) (0 : Int32) := ⟨_, rfl⟩
        rw [← eS129] at hR
        replace h := h S129 eS129
        have hK_x3 : s_K S129 x3 = 13 := by rw [eS129]; exact hK_x3
        have hK_a112 : s_K S129 a112 = 11 := by rw [eS129]; exact hK_a112
        exact t_X8_inspect_b91 C hml hr hlocks (fun x0 x1 x2 x3 x4 x5 S h => ih x0 x1 x2 x3 x4 x5 S h) h H locs ls hR hS (lv_sub (l' := [(0, .ref x0), (1, .int x1), (2, .int x127), (3, .ref x3), (4, .int x4), (5, .int x5)]) hl [2, 3, 0, 4, 5, 6] rfl)
      · replace h := h.2 hc115
        refine lv_goto (tgt := 91) hx hb dX8_inspect_57 (by decide) ?_
        exact t_X8_inspect_b91 C hml hr hlocks (fun x0 x1 x2 x3 x4 x5 S h => ih x0 x1 x2 x3 x4 x5 S h) h H locs ls hR hS (lv_sub (l' := [(0, .ref x0), (1, .int x1), (2, .int x2), (3, .ref x3), (4, .int x4), (5, .int x5)]) hl [1, 2, 3, 4, 5, 6] rfl)
set_option maxHeartbeats 4000000 in
theorem t_X8_inspect_b0 {Q : Int32 → sT → Prop} (C : x_C p s m args c cX8_inspect RX8 gg) (hml : c.maxLocals = 7) (hr : meth.sig.returnType = (some .int)) (hlocks : meth.locks = false) {x0 : Nat} {x1 : Int32}  {S : sT}  (h : w_X8_inspect_b0 x0 x1 S  Q) : x_X p l e r_X8_inspect s m args below meth c gg 7 0 0 (MQ below (va_Qi Q (fun S1 t => s_Rep gg S1 t.heap) (s_A gg)) args s 0 0 (s_A gg)) 0 [(0, .ref x0), (1, .int x1)] [] S := by
  unfold w_X8_inspect_b0 at h
  obtain ⟨hx, hb, -⟩ := id C
  intro H locs ls hR hS hl
  refine lv_aload_n hx hb dX8_inspect_0 rfl (lv_at hl 0 rfl) ?_
  refine lv_iconst (v := 0) hx hb dX8_inspect_1 (by decide) ?_
  obtain ⟨hK_x0, h⟩ := h
  refine x_p_288 (v := (0 : Int32)) C hR hK_x0 hS q_8_1 dX8_inspect_2 (fun H locs hR hS => ?_)
  obtain ⟨S101, eS101⟩ : ∃ z : sT, z = s_sI S 288 x0 (0 : Int32) := ⟨_, rfl⟩
  rw [← eS101] at hR
  replace h := h S101 eS101
  have hK_x0 : s_K S101 x0 = 10 := by rw [eS101]; exact hK_x0
  refine lv_aload_n hx hb dX8_inspect_5 rfl (lv_at hl 0 rfl) ?_
  refine lv_iload_n hx hb dX8_inspect_6 rfl (lv_at hl 1 rfl) ?_
  refine x_ki (x_runV (As := [.int x1]) (rest := []) C hml hR hS (m_X8_isSociety l gg x0 x1 S101 h) b_X8_isSociety q_12_10 (by rw [hK_x0]; decide) (s_E_9 hK_x0) rfl rfl rfl rfl ⟨Nat.le_of_ble_eq_true rfl, Nat.le_of_ble_eq_true rfl⟩ rfl hl.1 (Nat.le_of_ble_eq_true rfl) dX8_inspect_7 ⟨Nat.le_refl _, Nat.le_refl _⟩) hS (fun x103 S102 H locs hn hR hS => ?_)
  replace h := hn
  clear hn
  refine lv_if_ne (tgt := 19) hx hb dX8_inspect_10 (by decide) (fun hc104 => ?_) (fun hc104 => ?_)
  · replace h := h.1 hc104
    refine lv_iconst (v := 0) hx hb dX8_inspect_19 (by decide) ?_
    refine lv_istore_n (lv' := [(2, .int (0 : Int32)), (0, .ref x0), (1, .int x1)]) hx hb dX8_inspect_20 rfl hl (by decide) rfl (fun ls hl => ?_)
    refine lv_aload_n hx hb dX8_inspect_21 rfl (lv_at hl 1 rfl) ?_
    obtain ⟨hK_x0, h⟩ := h
    refine x_g_289 C hR hK_x0 q_3_8 dX8_inspect_22 ?_
    obtain ⟨a105, ea105, h⟩ := h
    refine x_some ea105 ?_
    obtain ⟨hK_a105, h⟩ := h
    refine x_gN_257 C hR hK_a105 (xn_1 C) dX8_inspect_25 ?_
    obtain ⟨a106, ea106, h⟩ := h
    refine x_some ea106 ?_
    refine lv_astore_n (lv' := [(3, .ref a106), (2, .int (0 : Int32)), (0, .ref x0), (1, .int x1)]) hx hb dX8_inspect_28 rfl hl (by decide) rfl (fun ls hl => ?_)
    refine lv_aload_n hx hb dX8_inspect_29 rfl (lv_at hl 0 rfl) ?_
    obtain ⟨hK_a106, h⟩ := h
    refine x_alen13 C hR hK_a106 dX8_inspect_30 ?_
    refine lv_topi (fun x107 ex107 => ?_)
    replace h := h x107 ex107
    refine lv_istore (lv' := [(4, .int x107), (3, .ref a106), (2, .int (0 : Int32)), (0, .ref x0), (1, .int x1)]) hx hb dX8_inspect_31 hl (by decide) rfl (fun ls hl => ?_)
    refine lv_iconst (v := 0) hx hb dX8_inspect_33 (by decide) ?_
    refine lv_istore (lv' := [(5, .int (0 : Int32)), (4, .int x107), (3, .ref a106), (2, .int (0 : Int32)), (0, .ref x0), (1, .int x1)]) hx hb dX8_inspect_34 hl (by decide) rfl (fun ls hl => ?_)
    obtain ⟨n9, h⟩ := h
    exact t_X8_inspect_b36 C hml hr hlocks  n9 x0 x1 (0 : Int32) a106 x107 (0 : Int32) S102 h H locs ls hR hS (lv_sub (l' := [(0, .ref x0), (1, .int x1), (2, .int (0 : Int32)), (3, .ref a106), (4, .int x107), (5, .int (0 : Int32))]) hl [4, 5, 3, 2, 1, 0] rfl)
  · replace h := h.2 hc104
    refine lv_aload_n hx hb dX8_inspect_13 rfl (lv_at hl 0 rfl) ?_
    refine lv_iconst (v := 1) hx hb dX8_inspect_14 (by decide) ?_
    obtain ⟨hK_x0, h⟩ := h
    refine x_ki (x_runV (As := [.int (1 : Int32)]) (rest := []) C hml hR hS (m_X8_refuse l gg x0 (1 : Int32) S102 h) b_X8_refuse q_8_5 (by rw [hK_x0]; decide) (s_E_9 hK_x0) rfl rfl rfl rfl ⟨Nat.le_of_ble_eq_true rfl, Nat.le_of_ble_eq_true rfl⟩ rfl hl.1 (Nat.le_of_ble_eq_true rfl) dX8_inspect_15 ⟨Nat.le_refl _, Nat.le_refl _⟩) hS (fun x109 S108 H locs hn hR hS => ?_)
    replace h := hn
    clear hn
    exact W.iret (v := x109) hx hb hr (fun t ht hW => ⟨⟨x109, S108, rfl, h, x_rt ht hR⟩, hS.F ht⟩) hS.2.2 dX8_inspect_18
theorem m_X8_inspect (l : Launch) (gg : sG) (x0 : Nat) (x1 : Int32) (S : sT) {Q : Int32 → sT → Prop} (h : w_X8_inspect x0 x1 S Q) : x_Mi l gg yX8_inspect (x_ws yX8_inspect cX8_inspect 7 (some .int)) r_X8_inspect [.ref x0, .int x1] S Q 0 0 := by
  refine x_ofW (cc := cX8_inspect) (own := RX8) (by decide +kernel) rfl (Nat.le_of_ble_eq_true rfl) ?_
  intro p e s m args below meth c C hml hr hlocks hin ht H locs ls hR hS hl
  exact t_X8_inspect_b0 C hml hr hlocks h H locs ls hR hS (lv_sub (l' := [(0, .ref x0), (1, .int x1)]) hl [0, 1] rfl)
def w_X8_sell_b0 (x0 : Nat) (x1 : Int32) (x2 : Int32) (S : sT)  (Q : Int32 → sT → Prop) : Prop :=
s_K S x0 = 10 ∧
    ∀ S101 : sT, S101 = s_sI S 288 x0 (0 : Int32) →
    w_X8_isField x0 x1 S101 (fun x103 S102 =>
    ((¬ x103 = 0 → (((1 : Int32) ≤ x2 → s_K S102 x0 = 10 ∧
    ∃ a106 : Nat, s_R S102 289 x0 = some a106 ∧
    s_K S102 a106 = 9 ∧
    ∃ a107 : Nat, s_R S102 257 a106 = some a107 ∧
    s_K S102 a107 = 13 ∧
    vp_in x1 (s_N S102 a107) ∧
    ∃ a109 : Nat, s_P S102 a107 (Int32.toNatClampNeg x1) = some a109 ∧
    s_K S102 a109 = 11 ∧
    vp_in (19 : Int32) (s_N S102 a109) ∧
    ∀ x111 : Int32, x111 = s_B S102 a109 (Int32.toNatClampNeg (19 : Int32)) →
    ((x2 ≤ x111 → vp_in (19 : Int32) (s_N S102 a109) ∧
    ∀ x114 : Int32, x114 = s_B S102 a109 (Int32.toNatClampNeg (19 : Int32)) →
    ∀ x115 : Int32, x115 = x114 - x2 →
    vp_in (19 : Int32) (s_N S102 a109) ∧
    ∀ S117 : sT, S117 = s_sB S102 a109 (Int32.toNatClampNeg (19 : Int32)) x115 →
    vp_in (17 : Int32) (s_N S117 a109) ∧
    ∀ x119 : Int32, x119 = s_B S117 a109 (Int32.toNatClampNeg (17 : Int32)) →
    ∀ x120 : Int32, x120 = x119 + x2 →
    vp_in (17 : Int32) (s_N S117 a109) ∧
    ∀ S122 : sT, S122 = s_sB S117 a109 (Int32.toNatClampNeg (17 : Int32)) x120 →
    vp_in (17 : Int32) (s_N S122 a109) ∧
    ∀ x124 : Int32, x124 = s_B S122 a109 (Int32.toNatClampNeg (17 : Int32)) →
    Q x124 S122) ∧
    (¬ x2 ≤ x111 → w_X8_refuse x0 (3 : Int32) S102 (fun x126 S125 =>
    Q x126 S125)))) ∧
    (¬ (1 : Int32) ≤ x2 → s_K S102 x0 = 10 ∧
    w_X8_refuse x0 (2 : Int32) S102 (fun x128 S127 =>
    Q x128 S127)))) ∧
    (x103 = 0 → s_K S102 x0 = 10 ∧
    w_X8_refuse x0 (1 : Int32) S102 (fun x130 S129 =>
    Q x130 S129))))
def w_X8_sell (x0 : Nat) (x1 : Int32) (x2 : Int32) (S : sT) (Q : Int32 → sT → Prop) : Prop := w_X8_sell_b0 x0 x1 x2 S Q
def r_X8_sell : Room := x_rm 2 43 0 0
theorem b_X8_sell : x_BV yX8_sell cX8_sell 4 (some .int) 2 := ⟨q_29_5, q_29_3, q_29_4, q_1_5, by decide +kernel⟩
set_option maxHeartbeats 4000000 in
theorem t_X8_sell_b0 {Q : Int32 → sT → Prop} (C : x_C p s m args c cX8_sell RX8 gg) (hml : c.maxLocals = 4) (hr : meth.sig.returnType = (some .int)) (hlocks : meth.locks = false) {x0 : Nat} {x1 : Int32} {x2 : Int32}  {S : sT}  (h : w_X8_sell_b0 x0 x1 x2 S  Q) : x_X p l e r_X8_sell s m args below meth c gg 4 0 0 (MQ below (va_Qi Q (fun S1 t => s_Rep gg S1 t.heap) (s_A gg)) args s 0 0 (s_A gg)) 0 [(0, .ref x0), (1, .int x1), (2, .int x2)] [] S := by
  unfold w_X8_sell_b0 at h
  obtain ⟨hx, hb, -⟩ := id C
  intro H locs ls hR hS hl
  refine lv_aload_n hx hb dX8_sell_0 rfl (lv_at hl 0 rfl) ?_
  refine lv_iconst (v := 0) hx hb dX8_sell_1 (by decide) ?_
  obtain ⟨hK_x0, h⟩ := h
  refine x_p_288 (v := (0 : Int32)) C hR hK_x0 hS q_8_1 dX8_sell_2 (fun H locs hR hS => ?_)
  obtain ⟨S101, eS101⟩ : ∃ z : sT, z = s_sI S 288 x0 (0 : Int32) := ⟨_, rfl⟩
  rw [← eS101] at hR
  replace h := h S101 eS101
  have hK_x0 : s_K S101 x0 = 10 := by rw [eS101]; exact hK_x0
  refine lv_aload_n hx hb dX8_sell_5 rfl (lv_at hl 0 rfl) ?_
  refine lv_iload_n hx hb dX8_sell_6 rfl (lv_at hl 1 rfl) ?_
  refine x_ki (x_runV (As := [.int x1]) (rest := []) C hml hR hS (m_X8_isField l gg x0 x1 S101 h) b_X8_isField q_13_7 (by rw [hK_x0]; decide) (s_E_9 hK_x0) rfl rfl rfl rfl ⟨Nat.le_of_ble_eq_true rfl, Nat.le_of_ble_eq_true rfl⟩ rfl hl.1 (Nat.le_of_ble_eq_true rfl) dX8_sell_7 ⟨Nat.le_refl _, Nat.le_refl _⟩) hS (fun x103 S102 H locs hn hR hS => ?_)
  replace h := hn
  clear hn
  refine lv_if_ne (tgt := 19) hx hb dX8_sell_10 (by decide) (fun hc104 => ?_) (fun hc104 => ?_)
  · replace h := h.1 hc104
    refine lv_iload_n hx hb dX8_sell_19 rfl (lv_at hl 2 rfl) ?_
    refine lv_iconst (v := 1) hx hb dX8_sell_20 (by decide) ?_
    refine lv_icmp_ge (tgt := 30) hx hb dX8_sell_21 (by decide) (fun hc105 => ?_) (fun hc105 => ?_)
    · replace h := h.1 hc105
      refine lv_aload_n hx hb dX8_sell_30 rfl (lv_at hl 0 rfl) ?_
      obtain ⟨hK_x0, h⟩ := h
      refine x_g_289 C hR hK_x0 q_3_8 dX8_sell_31 ?_
      obtain ⟨a106, ea106, h⟩ := h
      refine x_some ea106 ?_
      obtain ⟨hK_a106, h⟩ := h
      refine x_gN_257 C hR hK_a106 (xn_1 C) dX8_sell_34 ?_
      obtain ⟨a107, ea107, h⟩ := h
      refine x_some ea107 ?_
      refine lv_iload_n hx hb dX8_sell_37 rfl (lv_at hl 1 rfl) ?_
      obtain ⟨hK_a107, h⟩ := h
      obtain ⟨hi108, a109, ea109, h⟩ := h
      refine x_aald13 C hR hK_a107 hi108 dX8_sell_38 ?_
      refine x_some ea109 ?_
      refine lv_astore_n (lv' := [(3, .ref a109), (0, .ref x0), (1, .int x1), (2, .int x2)]) hx hb dX8_sell_39 rfl hl (by decide) rfl (fun ls hl => ?_)
      refine lv_aload_n hx hb dX8_sell_40 rfl (lv_at hl 0 rfl) ?_
      refine lv_bipush (v := 19) hx hb dX8_sell_41 (by decide) ?_
      obtain ⟨hK_a109, h⟩ := h
      obtain ⟨hi110, h⟩ := h
      refine x_iald C hR hK_a109 hi110 dX8_sell_43 ?_
      refine lv_topi (fun x111 ex111 => ?_)
      replace h := h x111 ex111
      refine lv_iload_n hx hb dX8_sell_44 rfl (lv_at hl 3 rfl) ?_
      refine lv_icmp_ge (tgt := 54) hx hb dX8_sell_45 (by decide) (fun hc112 => ?_) (fun hc112 => ?_)
      · replace h := h.1 hc112
        refine lv_aload_n hx hb dX8_sell_54 rfl (lv_at hl 0 rfl) ?_
        refine lv_bipush (v := 19) hx hb dX8_sell_55 (by decide) ?_
        refine lv_dup2_11 hx hb dX8_sell_57 rfl rfl ?_
        obtain ⟨hi113, h⟩ := h
        refine x_iald C hR hK_a109 hi113 dX8_sell_58 ?_
        refine lv_topi (fun x114 ex114 => ?_)
        replace h := h x114 ex114
        refine lv_iload_n hx hb dX8_sell_59 rfl (lv_at hl 3 rfl) ?_
        refine lv_isub hx hb dX8_sell_60 ?_
        refine lv_topi (fun x115 ex115 => ?_)
        replace h := h x115 ex115
        obtain ⟨hi116, h⟩ := h
        refine x_iast C hR hK_a109 hS hi116 dX8_sell_61 (fun H locs hR hS => ?_)
        obtain ⟨S117, eS117⟩ : ∃ z : sT, z = s_sB S102 a109 (Int32.toNatClampNeg (19 : Int32)) x115 := ⟨_, rfl⟩
        rw [← eS117] at hR
        replace h := h S117 eS117
        have hK_x0 : s_K S117 x0 = 10 := by rw [eS117]; exact hK_x0
        have hK_a106 : s_K S117 a106 = 9 := by rw [eS117]; exact hK_a106
        have hK_a107 : s_K S117 a107 = 13 := by rw [eS117]; exact hK_a107
        have hK_a109 : s_K S117 a109 = 11 := by rw [eS117]; exact hK_a109
        refine lv_aload_n hx hb dX8_sell_62 rfl (lv_at hl 0 rfl) ?_
        refine lv_bipush (v := 17) hx hb dX8_sell_63 (by decide) ?_
        refine lv_dup2_11 hx hb dX8_sell_65 rfl rfl ?_
        obtain ⟨hi118, h⟩ := h
        refine x_iald C hR hK_a109 hi118 dX8_sell_66 ?_
        refine lv_topi (fun x119 ex119 => ?_)
        replace h := h x119 ex119
        refine lv_iload_n hx hb dX8_sell_67 rfl (lv_at hl 3 rfl) ?_
        refine lv_iadd hx hb dX8_sell_68 ?_
        refine lv_topi (fun x120 ex120 => ?_)
        replace h := h x120 ex120
        obtain ⟨hi121, h⟩ := h
        refine x_iast C hR hK_a109 hS hi121 dX8_sell_69 (fun H locs hR hS => ?_)
        obtain ⟨S122, eS122⟩ : ∃ z : sT, z = s_sB S117 a109 (Int32.toNatClampNeg (17 : Int32)) x120 := ⟨_, rfl⟩
        rw [← eS122] at hR
        replace h := h S122 eS122
        have hK_x0 : s_K S122 x0 = 10 := by rw [eS122]; exact hK_x0
        have hK_a106 : s_K S122 a106 = 9 := by rw [eS122]; exact hK_a106
        have hK_a107 : s_K S122 a107 = 13 := by rw [eS122]; exact hK_a107
        have hK_a109 : s_K S122 a109 = 11 := by rw [eS122]; exact hK_a109
        refine lv_aload_n hx hb dX8_sell_70 rfl (lv_at hl 0 rfl) ?_
        refine lv_bipush (v := 17) hx hb dX8_sell_71 (by decide) ?_
        obtain ⟨hi123, h⟩ := h
        refine x_iald C hR hK_a109 hi123 dX8_sell_73 ?_
        refine lv_topi (fun x124 ex124 => ?_)
        replace h := h x124 ex124
        exact W.iret (v := x124) hx hb hr (fun t ht hW => ⟨⟨x124, S122, rfl, h, x_rt ht hR⟩, hS.F ht⟩) hS.2.2 dX8_sell_74
      · replace h := h.2 hc112
        refine lv_aload_n hx hb dX8_sell_48 rfl (lv_at hl 1 rfl) ?_
        refine lv_iconst (v := 3) hx hb dX8_sell_49 (by decide) ?_
        refine x_ki (x_runV (As := [.int (3 : Int32)]) (rest := []) C hml hR hS (m_X8_refuse l gg x0 (3 : Int32) S102 h) b_X8_refuse q_8_5 (by rw [hK_x0]; decide) (s_E_9 hK_x0) rfl rfl rfl rfl ⟨Nat.le_of_ble_eq_true rfl, Nat.le_of_ble_eq_true rfl⟩ rfl hl.1 (Nat.le_of_ble_eq_true rfl) dX8_sell_50 ⟨Nat.le_refl _, Nat.le_refl _⟩) hS (fun x126 S125 H locs hn hR hS => ?_)
        replace h := hn
        clear hn
        exact W.iret (v := x126) hx hb hr (fun t ht hW => ⟨⟨x126, S125, rfl, h, x_rt ht hR⟩, hS.F ht⟩) hS.2.2 dX8_sell_53
    · replace h := h.2 hc105
      refine lv_aload_n hx hb dX8_sell_24 rfl (lv_at hl 0 rfl) ?_
      refine lv_iconst (v := 2) hx hb dX8_sell_25 (by decide) ?_
      obtain ⟨hK_x0, h⟩ := h
      refine x_ki (x_runV (As := [.int (2 : Int32)]) (rest := []) C hml hR hS (m_X8_refuse l gg x0 (2 : Int32) S102 h) b_X8_refuse q_8_5 (by rw [hK_x0]; decide) (s_E_9 hK_x0) rfl rfl rfl rfl ⟨Nat.le_of_ble_eq_true rfl, Nat.le_of_ble_eq_true rfl⟩ rfl hl.1 (Nat.le_of_ble_eq_true rfl) dX8_sell_26 ⟨Nat.le_refl _, Nat.le_refl _⟩) hS (fun x128 S127 H locs hn hR hS => ?_)
      replace h := hn
      clear hn
      exact W.iret (v := x128) hx hb hr (fun t ht hW => ⟨⟨x128, S127, rfl, h, x_rt ht hR⟩, hS.F ht⟩) hS.2.2 dX8_sell_29
  · replace h := h.2 hc104
    refine lv_aload_n hx hb dX8_sell_13 rfl (lv_at hl 0 rfl) ?_
    refine lv_iconst (v := 1) hx hb dX8_sell_14 (by decide) ?_
    obtain ⟨hK_x0, h⟩ := h
    refine x_ki (x_runV (As := [.int (1 : Int32)]) (rest := []) C hml hR hS (m_X8_refuse l gg x0 (1 : Int32) S102 h) b_X8_refuse q_8_5 (by rw [hK_x0]; decide) (s_E_9 hK_x0) rfl rfl rfl rfl ⟨Nat.le_of_ble_eq_true rfl, Nat.le_of_ble_eq_true rfl⟩ rfl hl.1 (Nat.le_of_ble_eq_true rfl) dX8_sell_15 ⟨Nat.le_refl _, Nat.le_refl _⟩) hS (fun x130 S129 H locs hn hR hS => ?_)
    replace h := hn
    clear hn
    exact W.iret (v := x130) hx hb hr (fun t ht hW => ⟨⟨x130, S129, rfl, h, x_rt ht hR⟩, hS.F ht⟩) hS.2.2 dX8_sell_18
theorem m_X8_sell (l : Launch) (gg : sG) (x0 : Nat) (x1 : Int32) (x2 : Int32) (S : sT) {Q : Int32 → sT → Prop} (h : w_X8_sell x0 x1 x2 S Q) : x_Mi l gg yX8_sell (x_ws yX8_sell cX8_sell 4 (some .int)) r_X8_sell [.ref x0, .int x1, .int x2] S Q 0 0 := by
  refine x_ofW (cc := cX8_sell) (own := RX8) (by decide +kernel) rfl (Nat.le_of_ble_eq_true rfl) ?_
  intro p e s m args below meth c C hml hr hlocks hin ht H locs ls hR hS hl
  exact t_X8_sell_b0 C hml hr hlocks h H locs ls hR hS (lv_sub (l' := [(0, .ref x0), (1, .int x1), (2, .int x2)]) hl [0, 1, 2] rfl)
def w_X8_thought_b42 (y0 : Int32) (S : sT)  (Q : Int32 → sT → Prop) : Prop :=
Q y0 S
def w_X8_thought_b33 (y0 : Int32) (y1 : Nat) (S : sT)  (Q : Int32 → sT → Prop) : Prop :=
s_K S y1 = 11 ∧
    vp_in y0 (s_N S y1) ∧
    ∀ x102 : Int32, x102 = s_B S y1 (Int32.toNatClampNeg y0) →
    w_X8_thought_b42 x102 S  Q
def w_X8_thought_b0 (x0 : Nat) (x1 : Int32) (x2 : Int32) (S : sT)  (Q : Int32 → sT → Prop) : Prop :=
s_K S x0 = 10 ∧
    ∀ S101 : sT, S101 = s_sI S 288 x0 (0 : Int32) →
    w_X8_isField x0 x1 S101 (fun x103 S102 =>
    ((x103 = 0 → s_K S102 x0 = 10 ∧
    w_X8_refuse x0 (1 : Int32) S102 (fun x106 S105 =>
    w_X8_thought_b42 x106 S105  Q)) ∧
    (¬ x103 = 0 → s_K S102 x0 = 10 ∧
    ∃ a107 : Nat, s_R S102 289 x0 = some a107 ∧
    s_K S102 a107 = 9 ∧
    ∃ a108 : Nat, s_R S102 257 a107 = some a108 ∧
    s_K S102 a108 = 13 ∧
    vp_in x1 (s_N S102 a108) ∧
    ∃ a110 : Nat, s_P S102 a108 (Int32.toNatClampNeg x1) = some a110 ∧
    ((x2 = 0 → w_X8_thought_b33 (20 : Int32) a110 S102  Q) ∧
    (¬ x2 = 0 → w_X8_thought_b33 (21 : Int32) a110 S102  Q)))))
def w_X8_thought (x0 : Nat) (x1 : Int32) (x2 : Int32) (S : sT) (Q : Int32 → sT → Prop) : Prop := w_X8_thought_b0 x0 x1 x2 S Q
def r_X8_thought : Room := x_rm 2 43 0 0
theorem b_X8_thought : x_BV yX8_thought cX8_thought 3 (some .int) 2 := ⟨q_36_10, q_36_8, q_36_9, q_1_5, by decide +kernel⟩
set_option maxHeartbeats 4000000 in
theorem t_X8_thought_b42 {Q : Int32 → sT → Prop} (C : x_C p s m args c cX8_thought RX8 gg) (hml : c.maxLocals = 3) (hr : meth.sig.returnType = (some .int)) (hlocks : meth.locks = false) {y0 : Int32}  {S : sT}  (h : w_X8_thought_b42 y0 S  Q) : x_X p l e r_X8_thought s m args below meth c gg 3 0 0 (MQ below (va_Qi Q (fun S1 t => s_Rep gg S1 t.heap) (s_A gg)) args s 0 0 (s_A gg)) 42 [] [.int y0] S := by
  unfold w_X8_thought_b42 at h
  obtain ⟨hx, hb, -⟩ := id C
  intro H locs ls hR hS hl
  exact W.iret (v := y0) hx hb hr (fun t ht hW => ⟨⟨y0, S, rfl, h, x_rt ht hR⟩, hS.F ht⟩) hS.2.2 dX8_thought_42
set_option maxHeartbeats 4000000 in
theorem t_X8_thought_b33 {Q : Int32 → sT → Prop} (C : x_C p s m args c cX8_thought RX8 gg) (hml : c.maxLocals = 3) (hr : meth.sig.returnType = (some .int)) (hlocks : meth.locks = false) {y0 : Int32} {y1 : Nat}  {S : sT}  (h : w_X8_thought_b33 y0 y1 S  Q) : x_X p l e r_X8_thought s m args below meth c gg 3 0 0 (MQ below (va_Qi Q (fun S1 t => s_Rep gg S1 t.heap) (s_A gg)) args s 0 0 (s_A gg)) 33 [] [.int y0, .ref y1] S := by
  unfold w_X8_thought_b33 at h
  obtain ⟨hx, hb, -⟩ := id C
  intro H locs ls hR hS hl
  obtain ⟨hK_y1, h⟩ := h
  obtain ⟨hi101, h⟩ := h
  refine x_iald C hR hK_y1 hi101 dX8_thought_33 ?_
  refine lv_topi (fun x102 ex102 => ?_)
  replace h := h x102 ex102
  refine lv_goto (tgt := 42) hx hb dX8_thought_34 (by decide) ?_
  exact t_X8_thought_b42 C hml hr hlocks  h H locs ls hR hS (lv_sub (l' := []) hl [] rfl)
set_option maxHeartbeats 4000000 in
theorem t_X8_thought_b0 {Q : Int32 → sT → Prop} (C : x_C p s m args c cX8_thought RX8 gg) (hml : c.maxLocals = 3) (hr : meth.sig.returnType = (some .int)) (hlocks : meth.locks = false) {x0 : Nat} {x1 : Int32} {x2 : Int32}  {S : sT}  (h : w_X8_thought_b0 x0 x1 x2 S  Q) : x_X p l e r_X8_thought s m args below meth c gg 3 0 0 (MQ below (va_Qi Q (fun S1 t => s_Rep gg S1 t.heap) (s_A gg)) args s 0 0 (s_A gg)) 0 [(0, .ref x0), (1, .int x1), (2, .int x2)] [] S := by
  unfold w_X8_thought_b0 at h
  obtain ⟨hx, hb, -⟩ := id C
  intro H locs ls hR hS hl
  refine lv_aload_n hx hb dX8_thought_0 rfl (lv_at hl 0 rfl) ?_
  refine lv_iconst (v := 0) hx hb dX8_thought_1 (by decide) ?_
  obtain ⟨hK_x0, h⟩ := h
  refine x_p_288 (v := (0 : Int32)) C hR hK_x0 hS q_8_1 dX8_thought_2 (fun H locs hR hS => ?_)
  obtain ⟨S101, eS101⟩ : ∃ z : sT, z = s_sI S 288 x0 (0 : Int32) := ⟨_, rfl⟩
  rw [← eS101] at hR
  replace h := h S101 eS101
  have hK_x0 : s_K S101 x0 = 10 := by rw [eS101]; exact hK_x0
  refine lv_aload_n hx hb dX8_thought_5 rfl (lv_at hl 0 rfl) ?_
  refine lv_iload_n hx hb dX8_thought_6 rfl (lv_at hl 1 rfl) ?_
  refine x_ki (x_runV (As := [.int x1]) (rest := []) C hml hR hS (m_X8_isField l gg x0 x1 S101 h) b_X8_isField q_13_7 (by rw [hK_x0]; decide) (s_E_9 hK_x0) rfl rfl rfl rfl ⟨Nat.le_of_ble_eq_true rfl, Nat.le_of_ble_eq_true rfl⟩ rfl hl.1 (Nat.le_of_ble_eq_true rfl) dX8_thought_7 ⟨Nat.le_refl _, Nat.le_refl _⟩) hS (fun x103 S102 H locs hn hR hS => ?_)
  replace h := hn
  clear hn
  refine lv_if_eq (tgt := 37) hx hb dX8_thought_10 (by decide) (fun hc104 => ?_) (fun hc104 => ?_)
  · replace h := h.1 hc104
    refine lv_aload_n hx hb dX8_thought_37 rfl (lv_at hl 0 rfl) ?_
    refine lv_iconst (v := 1) hx hb dX8_thought_38 (by decide) ?_
    obtain ⟨hK_x0, h⟩ := h
    refine x_ki (x_runV (As := [.int (1 : Int32)]) (rest := []) C hml hR hS (m_X8_refuse l gg x0 (1 : Int32) S102 h) b_X8_refuse q_8_5 (by rw [hK_x0]; decide) (s_E_9 hK_x0) rfl rfl rfl rfl ⟨Nat.le_of_ble_eq_true rfl, Nat.le_of_ble_eq_true rfl⟩ rfl hl.1 (Nat.le_of_ble_eq_true rfl) dX8_thought_39 ⟨Nat.le_refl _, Nat.le_refl _⟩) hS (fun x106 S105 H locs hn hR hS => ?_)
    replace h := hn
    clear hn
    exact t_X8_thought_b42 C hml hr hlocks  h H locs ls hR hS (lv_sub (l' := []) hl [] rfl)
  · replace h := h.2 hc104
    refine lv_aload_n hx hb dX8_thought_13 rfl (lv_at hl 0 rfl) ?_
    obtain ⟨hK_x0, h⟩ := h
    refine x_g_289 C hR hK_x0 q_3_8 dX8_thought_14 ?_
    obtain ⟨a107, ea107, h⟩ := h
    refine x_some ea107 ?_
    obtain ⟨hK_a107, h⟩ := h
    refine x_gN_257 C hR hK_a107 (xn_1 C) dX8_thought_17 ?_
    obtain ⟨a108, ea108, h⟩ := h
    refine x_some ea108 ?_
    refine lv_iload_n hx hb dX8_thought_20 rfl (lv_at hl 1 rfl) ?_
    obtain ⟨hK_a108, h⟩ := h
    obtain ⟨hi109, a110, ea110, h⟩ := h
    refine x_aald13 C hR hK_a108 hi109 dX8_thought_21 ?_
    refine x_some ea110 ?_
    refine lv_iload_n hx hb dX8_thought_22 rfl (lv_at hl 2 rfl) ?_
    refine lv_if_eq (tgt := 31) hx hb dX8_thought_23 (by decide) (fun hc111 => ?_) (fun hc111 => ?_)
    · replace h := h.1 hc111
      refine lv_bipush (v := 20) hx hb dX8_thought_31 (by decide) ?_
      exact t_X8_thought_b33 C hml hr hlocks  h H locs ls hR hS (lv_sub (l' := []) hl [] rfl)
    · replace h := h.2 hc111
      refine lv_bipush (v := 21) hx hb dX8_thought_26 (by decide) ?_
      refine lv_goto (tgt := 33) hx hb dX8_thought_28 (by decide) ?_
      exact t_X8_thought_b33 C hml hr hlocks  h H locs ls hR hS (lv_sub (l' := []) hl [] rfl)
theorem m_X8_thought (l : Launch) (gg : sG) (x0 : Nat) (x1 : Int32) (x2 : Int32) (S : sT) {Q : Int32 → sT → Prop} (h : w_X8_thought x0 x1 x2 S Q) : x_Mi l gg yX8_thought (x_ws yX8_thought cX8_thought 3 (some .int)) r_X8_thought [.ref x0, .int x1, .int x2] S Q 0 0 := by
  refine x_ofW (cc := cX8_thought) (own := RX8) (by decide +kernel) rfl (Nat.le_of_ble_eq_true rfl) ?_
  intro p e s m args below meth c C hml hr hlocks hin ht H locs ls hR hS hl
  exact t_X8_thought_b0 C hml hr hlocks h H locs ls hR hS (lv_sub (l' := [(0, .ref x0), (1, .int x1), (2, .int x2)]) hl [0, 1, 2] rfl)
end
