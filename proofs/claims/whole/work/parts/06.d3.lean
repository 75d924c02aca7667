section
variable {p : Program} {l : Launch} {e : Env} {s : State} {m : MethodId} {args : Array Value} {below : List Frame} {meth : Method} {c : Code} {gg : sG}
def w_X8_suspectNow_b164 (x0 : Nat) (x1 : Int32) (x2 : Int32) (x3 : Int32) (x4 : Int32) (x5 : Int32) (x6 : Int32) (S : sT) (kk85 : Nat → Int32 → Int32 → Int32 → Int32 → Int32 → Int32 → sT → Prop) (Q : Int32 → sT → Prop) : Prop :=
∀ x101 : Int32, x101 = x6 + 1 →
    kk85 x0 x1 x2 x3 x4 x5 x101 S
def w_X8_suspectNow_b85  (Q : Int32 → sT → Prop) : Nat → Nat → Int32 → Int32 → Int32 → Int32 → Int32 → Int32 → sT → Prop
  | 0 => fun _ _ _ _ _ _ _ _ => False
  | n + 1 => fun x0 x1 x2 x3 x4 x5 x6 S =>
s_K S x0 = 10 ∧
    ∃ a101 : Nat, s_R S 289 x0 = some a101 ∧
    s_K S a101 = 9 ∧
    ∃ a102 : Nat, s_R S 257 a101 = some a102 ∧
    s_K S a102 = 13 ∧
    ∀ x103 : Int32, x103 = nI (s_N S a102) →
    ((x103 ≤ x6 → Q x4 S) ∧
    (¬ x103 ≤ x6 → ∃ a105 : Nat, s_R S 289 x0 = some a105 ∧
    s_K S a105 = 9 ∧
    ∃ a106 : Nat, s_R S 257 a105 = some a106 ∧
    s_K S a106 = 13 ∧
    vp_in x6 (s_N S a106) ∧
    ∃ a108 : Nat, s_P S a106 (Int32.toNatClampNeg x6) = some a108 ∧
    s_K S a108 = 11 ∧
    vp_in (0 : Int32) (s_N S a108) ∧
    ∀ x110 : Int32, x110 = s_B S a108 (Int32.toNatClampNeg (0 : Int32)) →
    ((¬ x110 = x1 → w_X8_suspectNow_b164 x0 x1 x2 x3 x4 x5 x6 S (fun x0 x1 x2 x3 x4 x5 x6 S => w_X8_suspectNow_b85  Q n x0 x1 x2 x3 x4 x5 x6 S) Q) ∧
    (x110 = x1 → vp_in (11 : Int32) (s_N S a108) ∧
    ∀ x113 : Int32, x113 = s_B S a108 (Int32.toNatClampNeg (11 : Int32)) →
    ((¬ x113 = 0 → vp_in (11 : Int32) (s_N S a108) ∧
    ∀ x116 : Int32, x116 = s_B S a108 (Int32.toNatClampNeg (11 : Int32)) →
    vp_in (13 : Int32) (s_N S a108) ∧
    ∀ x118 : Int32, x118 = s_B S a108 (Int32.toNatClampNeg (13 : Int32)) →
    ∀ x119 : Int32, x119 = x2 * x118 →
    ¬ x3 = 0 ∧
    ∀ x121 : Int32, x121 = x119 / x3 →
    ∀ x122 : Int32, x122 = x116 - x121 →
    ((x5 < x122 → w_X8_suspectNow_b164 x0 x1 x2 x3 x6 x122 x6 S (fun x0 x1 x2 x3 x4 x5 x6 S => w_X8_suspectNow_b85  Q n x0 x1 x2 x3 x4 x5 x6 S) Q) ∧
    (¬ x5 < x122 → w_X8_suspectNow_b164 x0 x1 x2 x3 x4 x5 x6 S (fun x0 x1 x2 x3 x4 x5 x6 S => w_X8_suspectNow_b85  Q n x0 x1 x2 x3 x4 x5 x6 S) Q))) ∧
    (x113 = 0 → w_X8_suspectNow_b164 x0 x1 x2 x3 x4 x5 x6 S (fun x0 x1 x2 x3 x4 x5 x6 S => w_X8_suspectNow_b85  Q n x0 x1 x2 x3 x4 x5 x6 S) Q))))))
def w_X8_suspectNow_b70 (x0 : Nat) (x1 : Int32) (x2 : Int32) (x3 : Int32) (x4 : Nat) (x5 : Int32) (x6 : Int32) (S : sT) (kk21 : Nat → Int32 → Int32 → Int32 → Nat → Int32 → Int32 → sT → Prop) (Q : Int32 → sT → Prop) : Prop :=
∀ x101 : Int32, x101 = x6 + 1 →
    kk21 x0 x1 x2 x3 x4 x5 x101 S
def w_X8_suspectNow_b21  (Q : Int32 → sT → Prop) : Nat → Nat → Int32 → Int32 → Int32 → Nat → Int32 → Int32 → sT → Prop
  | 0 => fun _ _ _ _ _ _ _ _ => False
  | n + 1 => fun x0 x1 x2 x3 x4 x5 x6 S =>
((x5 ≤ x6 → ∃ n9 : Nat, w_X8_suspectNow_b85  Q n9 x0 x1 x2 x3 (-1 : Int32) (0 : Int32) (0 : Int32) S) ∧
    (¬ x5 ≤ x6 → s_K S x4 = 13 ∧
    vp_in x6 (s_N S x4) ∧
    ∃ a103 : Nat, s_P S x4 (Int32.toNatClampNeg x6) = some a103 ∧
    s_K S a103 = 11 ∧
    vp_in (0 : Int32) (s_N S a103) ∧
    ∀ x105 : Int32, x105 = s_B S a103 (Int32.toNatClampNeg (0 : Int32)) →
    ((¬ x105 = x1 → w_X8_suspectNow_b70 x0 x1 x2 x3 x4 x5 x6 S (fun x0 x1 x2 x3 x4 x5 x6 S => w_X8_suspectNow_b21  Q n x0 x1 x2 x3 x4 x5 x6 S) Q) ∧
    (x105 = x1 → vp_in (11 : Int32) (s_N S a103) ∧
    ∀ x108 : Int32, x108 = s_B S a103 (Int32.toNatClampNeg (11 : Int32)) →
    ((¬ x108 = 0 → vp_in (11 : Int32) (s_N S a103) ∧
    ∀ x111 : Int32, x111 = s_B S a103 (Int32.toNatClampNeg (11 : Int32)) →
    ∀ x112 : Int32, x112 = x2 + x111 →
    vp_in (13 : Int32) (s_N S a103) ∧
    ∀ x114 : Int32, x114 = s_B S a103 (Int32.toNatClampNeg (13 : Int32)) →
    ∀ x115 : Int32, x115 = x3 + x114 →
    w_X8_suspectNow_b70 x0 x1 x112 x115 x4 x5 x6 S (fun x0 x1 x2 x3 x4 x5 x6 S => w_X8_suspectNow_b21  Q n x0 x1 x2 x3 x4 x5 x6 S) Q) ∧
    (x108 = 0 → w_X8_suspectNow_b70 x0 x1 x2 x3 x4 x5 x6 S (fun x0 x1 x2 x3 x4 x5 x6 S => w_X8_suspectNow_b21  Q n x0 x1 x2 x3 x4 x5 x6 S) Q))))))
def w_X8_suspectNow_b0 (x0 : Nat) (x1 : Int32) (S : sT)  (Q : Int32 → sT → Prop) : Prop :=
s_K S x0 = 10 ∧
    ∃ a101 : Nat, s_R S 289 x0 = some a101 ∧
    s_K S a101 = 9 ∧
    ∃ a102 : Nat, s_R S 257 a101 = some a102 ∧
    s_K S a102 = 13 ∧
    ∀ x103 : Int32, x103 = nI (s_N S a102) →
    ∃ n9 : Nat, w_X8_suspectNow_b21  Q n9 x0 x1 (0 : Int32) (0 : Int32) a102 x103 (0 : Int32) S
def w_X8_suspectNow (x0 : Nat) (x1 : Int32) (S : sT) (Q : Int32 → sT → Prop) : Prop := w_X8_suspectNow_b0 x0 x1 S Q
def r_X8_suspectNow : Room := x_rm 0 0 0 0
theorem b_X8_suspectNow : x_BV yX8_suspectNow cX8_suspectNow 9 (some .int) 1 := ⟨q_38_22, q_38_20, q_38_21, q_1_5, by decide +kernel⟩
set_option maxHeartbeats 4000000 in
theorem t_X8_suspectNow_b164 {Q : Int32 → sT → Prop} (C : x_C p s m args c cX8_suspectNow RX8 gg) (hml : c.maxLocals = 9) (hr : meth.sig.returnType = (some .int)) (hlocks : meth.locks = false) {x0 : Nat} {x1 : Int32} {x2 : Int32} {x3 : Int32} {x4 : Int32} {x5 : Int32} {x6 : Int32} {kk85 : Nat → Int32 → Int32 → Int32 → Int32 → Int32 → Int32 → sT → Prop} {S : sT} (hk85 : ∀ (x0 : Nat) (x1 : Int32) (x2 : Int32) (x3 : Int32) (x4 : Int32) (x5 : Int32) (x6 : Int32) (S : sT), kk85 x0 x1 x2 x3 x4 x5 x6 S → x_X p l e r_X8_suspectNow s m args below meth c gg 9 0 0 (MQ below (va_Qi Q (fun S1 t => s_Rep gg S1 t.heap) (s_A gg)) args s 0 0 (s_A gg)) 85 [(0, .ref x0), (1, .int x1), (2, .int x2), (3, .int x3), (4, .int x4), (5, .int x5), (6, .int x6)] [] S) (h : w_X8_suspectNow_b164 x0 x1 x2 x3 x4 x5 x6 S kk85 Q) : x_X p l e r_X8_suspectNow s m args below meth c gg 9 0 0 (MQ below (va_Qi Q (fun S1 t => s_Rep gg S1 t.heap) (s_A gg)) args s 0 0 (s_A gg)) 164 [(0, .ref x0), (1, .int x1), (2, .int x2), (3, .int x3), (4, .int x4), (5, .int x5), (6, .int x6)] [] S := by
  unfold w_X8_suspectNow_b164 at h
  obtain ⟨hx, hb, -⟩ := id C
  intro H locs ls hR hS hl
  obtain ⟨x101, ex101⟩ : ∃ z : Int32, z = x6 + 1 := ⟨_, rfl⟩
  replace h := h x101 ex101
  refine lv_iinc (v := x101) (lv' := [(6, .int x101), (0, .ref x0), (1, .int x1), (2, .int x2), (3, .int x3), (4, .int x4), (5, .int x5)]) hx hb dX8_suspectNow_164 hl (k := 6) rfl (by rw [ex101]; rfl) (by decide) rfl (fun ls hl => ?_)
  refine lv_goto (tgt := 85) hx hb dX8_suspectNow_167 (by decide) ?_
  exact hk85 x0 x1 x2 x3 x4 x5 x101 S h H locs ls hR hS (lv_sub (l' := [(0, .ref x0), (1, .int x1), (2, .int x2), (3, .int x3), (4, .int x4), (5, .int x5), (6, .int x101)]) hl [1, 2, 3, 4, 5, 6, 0] rfl)
set_option maxHeartbeats 4000000 in
theorem t_X8_suspectNow_b85 {Q : Int32 → sT → Prop} (C : x_C p s m args c cX8_suspectNow RX8 gg) (hml : c.maxLocals = 9) (hr : meth.sig.returnType = (some .int)) (hlocks : meth.locks = false)   : ∀ (n : Nat) (x0 : Nat) (x1 : Int32) (x2 : Int32) (x3 : Int32) (x4 : Int32) (x5 : Int32) (x6 : Int32) (S : sT), w_X8_suspectNow_b85  Q n x0 x1 x2 x3 x4 x5 x6 S → x_X p l e r_X8_suspectNow s m args below meth c gg 9 0 0 (MQ below (va_Qi Q (fun S1 t => s_Rep gg S1 t.heap) (s_A gg)) args s 0 0 (s_A gg)) 85 [(0, .ref x0), (1, .int x1), (2, .int x2), (3, .int x3), (4, .int x4), (5, .int x5), (6, .int x6)] [] S := by
  obtain ⟨hx, hb, -⟩ := id C
  intro n
  induction n with
  | zero => intro x0 x1 x2 x3 x4 x5 x6 S h; exact absurd h id
  | succ n ih =>
    intro x0 x1 x2 x3 x4 x5 x6 S h H locs ls hR hS hl
    unfold w_X8_suspectNow_b85 at h
    refine lv_iload hx hb dX8_suspectNow_85 (lv_at hl 6 rfl) ?_
    refine lv_aload_n hx hb dX8_suspectNow_87 rfl (lv_at hl 0 rfl) ?_
    obtain ⟨hK_x0, h⟩ := h
    refine x_g_289 C hR hK_x0 q_3_8 dX8_suspectNow_88 ?_
    obtain ⟨a101, ea101, h⟩ := h
    refine x_some ea101 ?_
    obtain ⟨hK_a101, h⟩ := h
    refine x_gN_257 C hR hK_a101 (xn_1 C) dX8_suspectNow_91 ?_
    obtain ⟨a102, ea102, h⟩ := h
    refine x_some ea102 ?_
    obtain ⟨hK_a102, h⟩ := h
    refine x_alen13 C hR hK_a102 dX8_suspectNow_94 ?_
    refine lv_topi (fun x103 ex103 => ?_)
    replace h := h x103 ex103
    refine lv_icmp_ge (tgt := 170) hx hb dX8_suspectNow_95 (by decide) (fun hc104 => ?_) (fun hc104 => ?_)
    · replace h := h.1 hc104
      refine lv_iload hx hb dX8_suspectNow_170 (lv_at hl 4 rfl) ?_
      exact W.iret (v := x4) hx hb hr (fun t ht hW => ⟨⟨x4, S, rfl, h, x_rt ht hR⟩, hS.F ht⟩) hS.2.2 dX8_suspectNow_172
    · replace h := h.2 hc104
      refine lv_aload_n hx hb dX8_suspectNow_98 rfl (lv_at hl 0 rfl) ?_
      refine x_g_289 C hR hK_x0 q_3_8 dX8_suspectNow_99 ?_
      obtain ⟨a105, ea105, h⟩ := h
      refine x_some ea105 ?_
      obtain ⟨hK_a105, h⟩ := h
      refine x_gN_257 C hR hK_a105 (xn_1 C) dX8_suspectNow_102 ?_
      obtain ⟨a106, ea106, h⟩ := h
      refine x_some ea106 ?_
      refine lv_iload hx hb dX8_suspectNow_105 (lv_at hl 6 rfl) ?_
      obtain ⟨hK_a106, h⟩ := h
      obtain ⟨hi107, a108, ea108, h⟩ := h
      refine x_aald13 C hR hK_a106 hi107 dX8_suspectNow_107 ?_
      refine x_some ea108 ?_
      refine lv_astore (lv' := [(7, .ref a108), (0, .ref x0), (1, .int x1), (2, .int x2), (3, .int x3), (4, .int x4), (5, .int x5), (6, .int x6)]) hx hb dX8_suspectNow_108 hl (by decide) rfl (fun ls hl => ?_)
      refine lv_aload hx hb dX8_suspectNow_110 (lv_at hl 0 rfl) ?_
      refine lv_iconst (v := 0) hx hb dX8_suspectNow_112 (by decide) ?_
      obtain ⟨hK_a108, h⟩ := h
      obtain ⟨hi109, h⟩ := h
      refine x_iald C hR hK_a108 hi109 dX8_suspectNow_113 ?_
      refine lv_topi (fun x110 ex110 => ?_)
      replace h := h x110 ex110
      refine lv_iload_n hx hb dX8_suspectNow_114 rfl (lv_at hl 2 rfl) ?_
      refine lv_icmp_ne (tgt := 164) hx hb dX8_suspectNow_115 (by decide) (fun hc111 => ?_) (fun hc111 => ?_)
      · replace h := h.1 hc111
        exact t_X8_suspectNow_b164 C hml hr hlocks (fun x0 x1 x2 x3 x4 x5 x6 S h => ih x0 x1 x2 x3 x4 x5 x6 S h) h H locs ls hR hS (lv_sub (l' := [(0, .ref x0), (1, .int x1), (2, .int x2), (3, .int x3), (4, .int x4), (5, .int x5), (6, .int x6)]) hl [1, 2, 3, 4, 5, 6, 7] rfl)
      · replace h := h.2 hc111
        refine lv_aload hx hb dX8_suspectNow_118 (lv_at hl 0 rfl) ?_
        refine lv_bipush (v := 11) hx hb dX8_suspectNow_120 (by decide) ?_
        obtain ⟨hi112, h⟩ := h
        refine x_iald C hR hK_a108 hi112 dX8_suspectNow_122 ?_
        refine lv_topi (fun x113 ex113 => ?_)
        replace h := h x113 ex113
        refine lv_if_ne (tgt := 129) hx hb dX8_suspectNow_123 (by decide) (fun hc114 => ?_) (fun hc114 => ?_)
        · replace h := h.1 hc114
          refine lv_aload hx hb dX8_suspectNow_129 (lv_at hl 0 rfl) ?_
          refine lv_bipush (v := 11) hx hb dX8_suspectNow_131 (by decide) ?_
          obtain ⟨hi115, h⟩ := h
          refine x_iald C hR hK_a108 hi115 dX8_suspectNow_133 ?_
          refine lv_topi (fun x116 ex116 => ?_)
          replace h := h x116 ex116
          refine lv_iload_n hx hb dX8_suspectNow_134 rfl (lv_at hl 3 rfl) ?_
          refine lv_aload hx hb dX8_suspectNow_135 (lv_at hl 0 rfl) ?_
          refine lv_bipush (v := 13) hx hb dX8_suspectNow_137 (by decide) ?_
          obtain ⟨hi117, h⟩ := h
          refine x_iald C hR hK_a108 hi117 dX8_suspectNow_139 ?_
          refine lv_topi (fun x118 ex118 => ?_)
          replace h := h x118 ex118
          refine lv_imul hx hb dX8_suspectNow_140 ?_
          refine lv_topi (fun x119 ex119 => ?_)
          replace h := h x119 ex119
          refine lv_iload_n hx hb dX8_suspectNow_141 rfl (lv_at hl 4 rfl) ?_
          obtain ⟨hd120, h⟩ := h
          refine lv_idiv hx hb dX8_suspectNow_142 hd120 ?_
          refine lv_topi (fun x121 ex121 => ?_)
          replace h := h x121 ex121
          refine lv_isub hx hb dX8_suspectNow_143 ?_
          refine lv_topi (fun x122 ex122 => ?_)
          replace h := h x122 ex122
          refine lv_istore (lv' := [(8, .int x122), (7, .ref a108), (0, .ref x0), (1, .int x1), (2, .int x2), (3, .int x3), (4, .int x4), (5, .int x5), (6, .int x6)]) hx hb dX8_suspectNow_144 hl (by decide) rfl (fun ls hl => ?_)
          refine lv_iload hx hb dX8_suspectNow_146 (lv_at hl 0 rfl) ?_
          refine lv_iload hx hb dX8_suspectNow_148 (lv_at hl 7 rfl) ?_
          refine lv_icmp_gt (tgt := 156) hx hb dX8_suspectNow_150 (by decide) (fun hc123 => ?_) (fun hc123 => ?_)
          · replace h := h.1 hc123
            refine lv_iload hx hb dX8_suspectNow_156 (lv_at hl 8 rfl) ?_
            refine lv_istore (lv' := [(4, .int x6), (8, .int x122), (7, .ref a108), (0, .ref x0), (1, .int x1), (2, .int x2), (3, .int x3), (5, .int x5), (6, .int x6)]) hx hb dX8_suspectNow_158 hl (by decide) rfl (fun ls hl => ?_)
            refine lv_iload hx hb dX8_suspectNow_160 (lv_at hl 1 rfl) ?_
            refine lv_istore (lv' := [(5, .int x122), (4, .int x6), (8, .int x122), (7, .ref a108), (0, .ref x0), (1, .int x1), (2, .int x2), (3, .int x3), (6, .int x6)]) hx hb dX8_suspectNow_162 hl (by decide) rfl (fun ls hl => ?_)
            exact t_X8_suspectNow_b164 C hml hr hlocks (fun x0 x1 x2 x3 x4 x5 x6 S h => ih x0 x1 x2 x3 x4 x5 x6 S h) h H locs ls hR hS (lv_sub (l' := [(0, .ref x0), (1, .int x1), (2, .int x2), (3, .int x3), (4, .int x6), (5, .int x122), (6, .int x6)]) hl [4, 5, 6, 7, 1, 0, 8] rfl)
          · replace h := h.2 hc123
            refine lv_goto (tgt := 164) hx hb dX8_suspectNow_153 (by decide) ?_
            exact t_X8_suspectNow_b164 C hml hr hlocks (fun x0 x1 x2 x3 x4 x5 x6 S h => ih x0 x1 x2 x3 x4 x5 x6 S h) h H locs ls hR hS (lv_sub (l' := [(0, .ref x0), (1, .int x1), (2, .int x2), (3, .int x3), (4, .int x4), (5, .int x5), (6, .int x6)]) hl [2, 3, 4, 5, 6, 7, 8] rfl)
        · replace h := h.2 hc114
          refine lv_goto (tgt := 164) hx hb dX8_suspectNow_126 (by decide) ?_
          exact t_X8_suspectNow_b164 C hml hr hlocks (fun x0 x1 x2 x3 x4 x5 x6 S h => ih x0 x1 x2 x3 x4 x5 x6 S h) h H locs ls hR hS (lv_sub (l' := [(0, .ref x0), (1, .int x1), (2, .int x2), (3, .int x3), (4, .int x4), (5, .int x5), (6, .int x6)]) hl [1, 2, 3, 4, 5, 6, 7] rfl)
set_option maxHeartbeats 4000000 in
theorem t_X8_suspectNow_b70 {Q : Int32 → sT → Prop} (C : x_C p s m args c cX8_suspectNow RX8 gg) (hml : c.maxLocals = 9) (hr : meth.sig.returnType = (some .int)) (hlocks : meth.locks = false) {x0 : Nat} {x1 : Int32} {x2 : Int32} {x3 : Int32} {x4 : Nat} {x5 : Int32} {x6 : Int32} {kk21 : Nat → Int32 → Int32 → Int32 → Nat → Int32 → Int32 → sT → Prop} {S : sT} (hk21 : ∀ (x0 : Nat) (x1 : Int32) (x2 : Int32) (x3 : Int32) (x4 : Nat) (x5 : Int32) (x6 : Int32) (S : sT), kk21 x0 x1 x2 x3 x4 x5 x6 S → x_X p l e r_X8_suspectNow s m args below meth c gg 9 0 0 (MQ below (va_Qi Q (fun S1 t => s_Rep gg S1 t.heap) (s_A gg)) args s 0 0 (s_A gg)) 21 [(0, .ref x0), (1, .int x1), (2, .int x2), (3, .int x3), (4, .ref x4), (5, .int x5), (6, .int x6)] [] S) (h : w_X8_suspectNow_b70 x0 x1 x2 x3 x4 x5 x6 S kk21 Q) : x_X p l e r_X8_suspectNow s m args below meth c gg 9 0 0 (MQ below (va_Qi Q (fun S1 t => s_Rep gg S1 t.heap) (s_A gg)) args s 0 0 (s_A gg)) 70 [(0, .ref x0), (1, .int x1), (2, .int x2), (3, .int x3), (4, .ref x4), (5, .int x5), (6, .int x6)] [] S := by
  unfold w_X8_suspectNow_b70 at h
  obtain ⟨hx, hb, -⟩ := id C
  intro H locs ls hR hS hl
  obtain ⟨x101, ex101⟩ : ∃ z : Int32, z = x6 + 1 := ⟨_, rfl⟩
  replace h := h x101 ex101
  refine lv_iinc (v := x101) (lv' := [(6, .int x101), (0, .ref x0), (1, .int x1), (2, .int x2), (3, .int x3), (4, .ref x4), (5, .int x5)]) hx hb dX8_suspectNow_70 hl (k := 6) rfl (by rw [ex101]; rfl) (by decide) rfl (fun ls hl => ?_)
  refine lv_goto (tgt := 21) hx hb dX8_suspectNow_73 (by decide) ?_
  exact hk21 x0 x1 x2 x3 x4 x5 x101 S h H locs ls hR hS (lv_sub (l' := [(0, .ref x0), (1, .int x1), (2, .int x2), (3, .int x3), (4, .ref x4), (5, .int x5), (6, .int x101)]) hl [1, 2, 3, 4, 5, 6, 0] rfl)
set_option maxHeartbeats 4000000 in
theorem t_X8_suspectNow_b21 {Q : Int32 → sT → Prop} (C : x_C p s m args c cX8_suspectNow RX8 gg) (hml : c.maxLocals = 9) (hr : meth.sig.returnType = (some .int)) (hlocks : meth.locks = false)   : ∀ (n : Nat) (x0 : Nat) (x1 : Int32) (x2 : Int32) (x3 : Int32) (x4 : Nat) (x5 : Int32) (x6 : Int32) (S : sT), w_X8_suspectNow_b21  Q n x0 x1 x2 x3 x4 x5 x6 S → x_X p l e r_X8_suspectNow s m args below meth c gg 9 0 0 (MQ below (va_Qi Q (fun S1 t => s_Rep gg S1 t.heap) (s_A gg)) args s 0 0 (s_A gg)) 21 [(0, .ref x0), (1, .int x1), (2, .int x2), (3, .int x3), (4, .ref x4), (5, .int x5), (6, .int x6)] [] S := by
  obtain ⟨hx, hb, -⟩ := id C
  intro n
  induction n with
  | zero => intro x0 x1 x2 x3 x4 x5 x6 S h; exact absurd h id
  | succ n ih =>
    intro x0 x1 x2 x3 x4 x5 x6 S h H locs ls hR hS hl
    unfold w_X8_suspectNow_b21 at h
    refine lv_iload hx hb dX8_suspectNow_21 (lv_at hl 6 rfl) ?_
    refine lv_iload hx hb dX8_suspectNow_23 (lv_at hl 5 rfl) ?_
    refine lv_icmp_ge (tgt := 76) hx hb dX8_suspectNow_25 (by decide) (fun hc101 => ?_) (fun hc101 => ?_)
    · replace h := h.1 hc101
      refine lv_iconst (v := (-1)) hx hb dX8_suspectNow_76 (by decide) ?_
      refine lv_istore (lv' := [(4, .int (-1 : Int32)), (0, .ref x0), (1, .int x1), (2, .int x2), (3, .int x3), (5, .int x5), (6, .int x6)]) hx hb dX8_suspectNow_77 hl (by decide) rfl (fun ls hl => ?_)
      refine lv_iconst (v := 0) hx hb dX8_suspectNow_79 (by decide) ?_
      refine lv_istore (lv' := [(5, .int (0 : Int32)), (4, .int (-1 : Int32)), (0, .ref x0), (1, .int x1), (2, .int x2), (3, .int x3), (6, .int x6)]) hx hb dX8_suspectNow_80 hl (by decide) rfl (fun ls hl => ?_)
      refine lv_iconst (v := 0) hx hb dX8_suspectNow_82 (by decide) ?_
      refine lv_istore (lv' := [(6, .int (0 : Int32)), (5, .int (0 : Int32)), (4, .int (-1 : Int32)), (0, .ref x0), (1, .int x1), (2, .int x2), (3, .int x3)]) hx hb dX8_suspectNow_83 hl (by decide) rfl (fun ls hl => ?_)
      obtain ⟨n9, h⟩ := h
      exact t_X8_suspectNow_b85 C hml hr hlocks  n9 x0 x1 x2 x3 (-1 : Int32) (0 : Int32) (0 : Int32) S h H locs ls hR hS (lv_sub (l' := [(0, .ref x0), (1, .int x1), (2, .int x2), (3, .int x3), (4, .int (-1 : Int32)), (5, .int (0 : Int32)), (6, .int (0 : Int32))]) hl [3, 4, 5, 6, 2, 1, 0] rfl)
    · replace h := h.2 hc101
      refine lv_aload hx hb dX8_suspectNow_28 (lv_at hl 4 rfl) ?_
      refine lv_iload hx hb dX8_suspectNow_30 (lv_at hl 6 rfl) ?_
      obtain ⟨hK_x4, h⟩ := h
      obtain ⟨hi102, a103, ea103, h⟩ := h
      refine x_aald13 C hR hK_x4 hi102 dX8_suspectNow_32 ?_
      refine x_some ea103 ?_
      refine lv_astore (lv' := [(7, .ref a103), (0, .ref x0), (1, .int x1), (2, .int x2), (3, .int x3), (4, .ref x4), (5, .int x5), (6, .int x6)]) hx hb dX8_suspectNow_33 hl (by decide) rfl (fun ls hl => ?_)
      refine lv_aload hx hb dX8_suspectNow_35 (lv_at hl 0 rfl) ?_
      refine lv_iconst (v := 0) hx hb dX8_suspectNow_37 (by decide) ?_
      obtain ⟨hK_a103, h⟩ := h
      obtain ⟨hi104, h⟩ := h
      refine x_iald C hR hK_a103 hi104 dX8_suspectNow_38 ?_
      refine lv_topi (fun x105 ex105 => ?_)
      replace h := h x105 ex105
      refine lv_iload_n hx hb dX8_suspectNow_39 rfl (lv_at hl 2 rfl) ?_
      refine lv_icmp_ne (tgt := 70) hx hb dX8_suspectNow_40 (by decide) (fun hc106 => ?_) (fun hc106 => ?_)
      · replace h := h.1 hc106
        exact t_X8_suspectNow_b70 C hml hr hlocks (fun x0 x1 x2 x3 x4 x5 x6 S h => ih x0 x1 x2 x3 x4 x5 x6 S h) h H locs ls hR hS (lv_sub (l' := [(0, .ref x0), (1, .int x1), (2, .int x2), (3, .int x3), (4, .ref x4), (5, .int x5), (6, .int x6)]) hl [1, 2, 3, 4, 5, 6, 7] rfl)
      · replace h := h.2 hc106
        refine lv_aload hx hb dX8_suspectNow_43 (lv_at hl 0 rfl) ?_
        refine lv_bipush (v := 11) hx hb dX8_suspectNow_45 (by decide) ?_
        obtain ⟨hi107, h⟩ := h
        refine x_iald C hR hK_a103 hi107 dX8_suspectNow_47 ?_
        refine lv_topi (fun x108 ex108 => ?_)
        replace h := h x108 ex108
        refine lv_if_ne (tgt := 54) hx hb dX8_suspectNow_48 (by decide) (fun hc109 => ?_) (fun hc109 => ?_)
        · replace h := h.1 hc109
          refine lv_iload_n hx hb dX8_suspectNow_54 rfl (lv_at hl 3 rfl) ?_
          refine lv_aload hx hb dX8_suspectNow_55 (lv_at hl 0 rfl) ?_
          refine lv_bipush (v := 11) hx hb dX8_suspectNow_57 (by decide) ?_
          obtain ⟨hi110, h⟩ := h
          refine x_iald C hR hK_a103 hi110 dX8_suspectNow_59 ?_
          refine lv_topi (fun x111 ex111 => ?_)
          replace h := h x111 ex111
          refine lv_iadd hx hb dX8_suspectNow_60 ?_
          refine lv_topi (fun x112 ex112 => ?_)
          replace h := h x112 ex112
          refine lv_istore_n (lv' := [(2, .int x112), (7, .ref a103), (0, .ref x0), (1, .int x1), (3, .int x3), (4, .ref x4), (5, .int x5), (6, .int x6)]) hx hb dX8_suspectNow_61 rfl hl (by decide) rfl (fun ls hl => ?_)
          refine lv_iload_n hx hb dX8_suspectNow_62 rfl (lv_at hl 4 rfl) ?_
          refine lv_aload hx hb dX8_suspectNow_63 (lv_at hl 1 rfl) ?_
          refine lv_bipush (v := 13) hx hb dX8_suspectNow_65 (by decide) ?_
          obtain ⟨hi113, h⟩ := h
          refine x_iald C hR hK_a103 hi113 dX8_suspectNow_67 ?_
          refine lv_topi (fun x114 ex114 => ?_)
          replace h := h x114 ex114
          refine lv_iadd hx hb dX8_suspectNow_68 ?_
          refine lv_topi (fun x115 ex115 => ?_)
          replace h := h x115 ex115
          refine lv_istore_n (lv' := [(3, .int x115), (2, .int x112), (7, .ref a103), (0, .ref x0), (1, .int x1), (4, .ref x4), (5, .int x5), (6, .int x6)]) hx hb dX8_suspectNow_69 rfl hl (by decide) rfl (fun ls hl => ?_)
          exact t_X8_suspectNow_b70 C hml hr hlocks (fun x0 x1 x2 x3 x4 x5 x6 S h => ih x0 x1 x2 x3 x4 x5 x6 S h) h H locs ls hR hS (lv_sub (l' := [(0, .ref x0), (1, .int x1), (2, .int x112), (3, .int x115), (4, .ref x4), (5, .int x5), (6, .int x6)]) hl [3, 4, 1, 0, 5, 6, 7] rfl)
        · replace h := h.2 hc109
          refine lv_goto (tgt := 70) hx hb dX8_suspectNow_51 (by decide) ?_
          exact t_X8_suspectNow_b70 C hml hr hlocks (fun x0 x1 x2 x3 x4 x5 x6 S h => ih x0 x1 x2 x3 x4 x5 x6 S h) h H locs ls hR hS (lv_sub (l' := [(0, .ref x0), (1, .int x1), (2, .int x2), (3, .int x3), (4, .ref x4), (5, .int x5), (6, .int x6)]) hl [1, 2, 3, 4, 5, 6, 7] rfl)
set_option maxHeartbeats 4000000 in
theorem t_X8_suspectNow_b0 {Q : Int32 → sT → Prop} (C : x_C p s m args c cX8_suspectNow RX8 gg) (hml : c.maxLocals = 9) (hr : meth.sig.returnType = (some .int)) (hlocks : meth.locks = false) {x0 : Nat} {x1 : Int32}  {S : sT}  (h : w_X8_suspectNow_b0 x0 x1 S  Q) : x_X p l e r_X8_suspectNow s m args below meth c gg 9 0 0 (MQ below (va_Qi Q (fun S1 t => s_Rep gg S1 t.heap) (s_A gg)) args s 0 0 (s_A gg)) 0 [(0, .ref x0), (1, .int x1)] [] S := by
  unfold w_X8_suspectNow_b0 at h
  obtain ⟨hx, hb, -⟩ := id C
  intro H locs ls hR hS hl
  refine lv_iconst (v := 0) hx hb dX8_suspectNow_0 (by decide) ?_
  refine lv_istore_n (lv' := [(2, .int (0 : Int32)), (0, .ref x0), (1, .int x1)]) hx hb dX8_suspectNow_1 rfl hl (by decide) rfl (fun ls hl => ?_)
  refine lv_iconst (v := 0) hx hb dX8_suspectNow_2 (by decide) ?_
  refine lv_istore_n (lv' := [(3, .int (0 : Int32)), (2, .int (0 : Int32)), (0, .ref x0), (1, .int x1)]) hx hb dX8_suspectNow_3 rfl hl (by decide) rfl (fun ls hl => ?_)
  refine lv_aload_n hx hb dX8_suspectNow_4 rfl (lv_at hl 2 rfl) ?_
  obtain ⟨hK_x0, h⟩ := h
  refine x_g_289 C hR hK_x0 q_3_8 dX8_suspectNow_5 ?_
  obtain ⟨a101, ea101, h⟩ := h
  refine x_some ea101 ?_
  obtain ⟨hK_a101, h⟩ := h
  refine x_gN_257 C hR hK_a101 (xn_1 C) dX8_suspectNow_8 ?_
  obtain ⟨a102, ea102, h⟩ := h
  refine x_some ea102 ?_
  refine lv_astore (lv' := [(4, .ref a102), (3, .int (0 : Int32)), (2, .int (0 : Int32)), (0, .ref x0), (1, .int x1)]) hx hb dX8_suspectNow_11 hl (by decide) rfl (fun ls hl => ?_)
  refine lv_aload hx hb dX8_suspectNow_13 (lv_at hl 0 rfl) ?_
  obtain ⟨hK_a102, h⟩ := h
  refine x_alen13 C hR hK_a102 dX8_suspectNow_15 ?_
  refine lv_topi (fun x103 ex103 => ?_)
  replace h := h x103 ex103
  refine lv_istore (lv' := [(5, .int x103), (4, .ref a102), (3, .int (0 : Int32)), (2, .int (0 : Int32)), (0, .ref x0), (1, .int x1)]) hx hb dX8_suspectNow_16 hl (by decide) rfl (fun ls hl => ?_)
  refine lv_iconst (v := 0) hx hb dX8_suspectNow_18 (by decide) ?_
  refine lv_istore (lv' := [(6, .int (0 : Int32)), (5, .int x103), (4, .ref a102), (3, .int (0 : Int32)), (2, .int (0 : Int32)), (0, .ref x0), (1, .int x1)]) hx hb dX8_suspectNow_19 hl (by decide) rfl (fun ls hl => ?_)
  obtain ⟨n9, h⟩ := h
  exact t_X8_suspectNow_b21 C hml hr hlocks  n9 x0 x1 (0 : Int32) (0 : Int32) a102 x103 (0 : Int32) S h H locs ls hR hS (lv_sub (l' := [(0, .ref x0), (1, .int x1), (2, .int (0 : Int32)), (3, .int (0 : Int32)), (4, .ref a102), (5, .int x103), (6, .int (0 : Int32))]) hl [5, 6, 4, 3, 2, 1, 0] rfl)
theorem m_X8_suspectNow (l : Launch) (gg : sG) (x0 : Nat) (x1 : Int32) (S : sT) {Q : Int32 → sT → Prop} (h : w_X8_suspectNow x0 x1 S Q) : x_Mi l gg yX8_suspectNow (x_ws yX8_suspectNow cX8_suspectNow 9 (some .int)) r_X8_suspectNow [.ref x0, .int x1] S Q 0 0 := by
  refine x_ofW (cc := cX8_suspectNow) (own := RX8) (by decide +kernel) rfl (Nat.le_of_ble_eq_true rfl) ?_
  intro p e s m args below meth c C hml hr hlocks hin ht H locs ls hR hS hl
  exact t_X8_suspectNow_b0 C hml hr hlocks h H locs ls hR hS (lv_sub (l' := [(0, .ref x0), (1, .int x1)]) hl [0, 1] rfl)
def w_X8_suspect_b26 (y0 : Int32) (S : sT)  (Q : Int32 → sT → Prop) : Prop :=
Q y0 S
def w_X8_suspect_b0 (x0 : Nat) (x1 : Int32) (S : sT)  (Q : Int32 → sT → Prop) : Prop :=
s_K S x0 = 10 ∧
    ∀ S101 : sT, S101 = s_sI S 288 x0 (0 : Int32) →
    w_X8_isSociety x0 x1 S101 (fun x103 S102 =>
    ((x103 = 0 → s_K S102 x0 = 10 ∧
    w_X8_refuse x0 (1 : Int32) S102 (fun x106 S105 =>
    w_X8_suspect_b26 x106 S105  Q)) ∧
    (¬ x103 = 0 → s_K S102 x0 = 10 ∧
    w_X8_suspectNow x0 x1 S102 (fun x108 S107 =>
    w_X8_suspect_b26 x108 S107  Q))))
def w_X8_suspect (x0 : Nat) (x1 : Int32) (S : sT) (Q : Int32 → sT → Prop) : Prop := w_X8_suspect_b0 x0 x1 S Q
def r_X8_suspect : Room := x_rm 2 43 0 0
theorem b_X8_suspect : x_BV yX8_suspect cX8_suspect 2 (some .int) 1 := ⟨q_38_18, q_38_16, q_38_17, q_1_5, by decide +kernel⟩
set_option maxHeartbeats 4000000 in
theorem t_X8_suspect_b26 {Q : Int32 → sT → Prop} (C : x_C p s m args c cX8_suspect RX8 gg) (hml : c.maxLocals = 2) (hr : meth.sig.returnType = (some .int)) (hlocks : meth.locks = false) {y0 : Int32}  {S : sT}  (h : w_X8_suspect_b26 y0 S  Q) : x_X p l e r_X8_suspect s m args below meth c gg 2 0 0 (MQ below (va_Qi Q (fun S1 t => s_Rep gg S1 t.heap) (s_A gg)) args s 0 0 (s_A gg)) 26 [] [.int y0] S := by
  unfold w_X8_suspect_b26 at h
  obtain ⟨hx, hb, -⟩ := id C
  intro H locs ls hR hS hl
  exact W.iret (v := y0) hx hb hr (fun t ht hW => ⟨⟨y0, S, rfl, h, x_rt ht hR⟩, hS.F ht⟩) hS.2.2 dX8_suspect_26
set_option maxHeartbeats 4000000 in
theorem t_X8_suspect_b0 {Q : Int32 → sT → Prop} (C : x_C p s m args c cX8_suspect RX8 gg) (hml : c.maxLocals = 2) (hr : meth.sig.returnType = (some .int)) (hlocks : meth.locks = false) {x0 : Nat} {x1 : Int32}  {S : sT}  (h : w_X8_suspect_b0 x0 x1 S  Q) : x_X p l e r_X8_suspect s m args below meth c gg 2 0 0 (MQ below (va_Qi Q (fun S1 t => s_Rep gg S1 t.heap) (s_A gg)) args s 0 0 (s_A gg)) 0 [(0, .ref x0), (1, .int x1)] [] S := by
  unfold w_X8_suspect_b0 at h
  obtain ⟨hx, hb, -⟩ := id C
  intro H locs ls hR hS hl
  refine lv_aload_n hx hb dX8_suspect_0 rfl (lv_at hl 0 rfl) ?_
  refine lv_iconst (v := 0) hx hb dX8_suspect_1 (by decide) ?_
  obtain ⟨hK_x0, h⟩ := h
  refine x_p_288 (v := (0 : Int32)) C hR hK_x0 hS q_8_1 dX8_suspect_2 (fun H locs hR hS => ?_)
  obtain ⟨S101, eS101⟩ : ∃ z : sT, z = s_sI S 288 x0 (0 : Int32) := ⟨_, rfl⟩
  rw [← eS101] at hR
  replace h := h S101 eS101
  have hK_x0 : s_K S101 x0 = 10 := by rw [eS101]; exact hK_x0
  refine lv_aload_n hx hb dX8_suspect_5 rfl (lv_at hl 0 rfl) ?_
  refine lv_iload_n hx hb dX8_suspect_6 rfl (lv_at hl 1 rfl) ?_
  refine x_ki (x_runV (As := [.int x1]) (rest := []) C hml hR hS (m_X8_isSociety l gg x0 x1 S101 h) b_X8_isSociety q_12_10 (by rw [hK_x0]; decide) (s_E_9 hK_x0) rfl rfl rfl rfl ⟨Nat.le_of_ble_eq_true rfl, Nat.le_of_ble_eq_true rfl⟩ rfl hl.1 (Nat.le_of_ble_eq_true rfl) dX8_suspect_7 ⟨Nat.le_refl _, Nat.le_refl _⟩) hS (fun x103 S102 H locs hn hR hS => ?_)
  replace h := hn
  clear hn
  refine lv_if_eq (tgt := 21) hx hb dX8_suspect_10 (by decide) (fun hc104 => ?_) (fun hc104 => ?_)
  · replace h := h.1 hc104
    refine lv_aload_n hx hb dX8_suspect_21 rfl (lv_at hl 0 rfl) ?_
    refine lv_iconst (v := 1) hx hb dX8_suspect_22 (by decide) ?_
    obtain ⟨hK_x0, h⟩ := h
    refine x_ki (x_runV (As := [.int (1 : Int32)]) (rest := []) C hml hR hS (m_X8_refuse l gg x0 (1 : Int32) S102 h) b_X8_refuse q_8_5 (by rw [hK_x0]; decide) (s_E_9 hK_x0) rfl rfl rfl rfl ⟨Nat.le_of_ble_eq_true rfl, Nat.le_of_ble_eq_true rfl⟩ rfl hl.1 (Nat.le_of_ble_eq_true rfl) dX8_suspect_23 ⟨Nat.le_refl _, Nat.le_refl _⟩) hS (fun x106 S105 H locs hn hR hS => ?_)
    replace h := hn
    clear hn
    exact t_X8_suspect_b26 C hml hr hlocks  h H locs ls hR hS (lv_sub (l' := []) hl [] rfl)
  · replace h := h.2 hc104
    refine lv_aload_n hx hb dX8_suspect_13 rfl (lv_at hl 0 rfl) ?_
    refine lv_iload_n hx hb dX8_suspect_14 rfl (lv_at hl 1 rfl) ?_
    obtain ⟨hK_x0, h⟩ := h
    refine x_ki (x_runV (As := [.int x1]) (rest := []) C hml hR hS (m_X8_suspectNow l gg x0 x1 S102 h) b_X8_suspectNow q_38_19 (by rw [hK_x0]; decide) (s_E_9 hK_x0) rfl rfl rfl rfl ⟨Nat.le_of_ble_eq_true rfl, Nat.le_of_ble_eq_true rfl⟩ rfl hl.1 (Nat.le_of_ble_eq_true rfl) dX8_suspect_15 ⟨Nat.le_refl _, Nat.le_refl _⟩) hS (fun x108 S107 H locs hn hR hS => ?_)
    replace h := hn
    clear hn
    refine lv_goto (tgt := 26) hx hb dX8_suspect_18 (by decide) ?_
    exact t_X8_suspect_b26 C hml hr hlocks  h H locs ls hR hS (lv_sub (l' := []) hl [] rfl)
theorem m_X8_suspect (l : Launch) (gg : sG) (x0 : Nat) (x1 : Int32) (S : sT) {Q : Int32 → sT → Prop} (h : w_X8_suspect x0 x1 S Q) : x_Mi l gg yX8_suspect (x_ws yX8_suspect cX8_suspect 2 (some .int)) r_X8_suspect [.ref x0, .int x1] S Q 0 0 := by
  refine x_ofW (cc := cX8_suspect) (own := RX8) (by decide +kernel) rfl (Nat.le_of_ble_eq_true rfl) ?_
  intro p e s m args below meth c C hml hr hlocks hin ht H locs ls hR hS hl
  exact t_X8_suspect_b0 C hml hr hlocks h H locs ls hR hS (lv_sub (l' := [(0, .ref x0), (1, .int x1)]) hl [0, 1] rfl)
def w_X8_isLong_b0 (x0 : Int32) (S : sT)  (Q : Int32 → sT → Prop) : Prop :=
w_X8_is x0 (1 : Int32) (40 : Int32) S (fun x102 S101 =>
    (x102 = 0 ∨ x102 = 1) ∧
    Q x102 S101)
def w_X8_isLong (x0 : Int32) (S : sT) (Q : Int32 → sT → Prop) : Prop := w_X8_isLong_b0 x0 S Q
def r_X8_isLong : Room := x_rm 1 22 0 0
theorem b_X8_isLong : x_BS yX8_isLong cX8_isLong 1 (some .boolean) 1 := ⟨q_40_19, q_40_18, q_1_5, by decide +kernel⟩
set_option maxHeartbeats 4000000 in
theorem t_X8_isLong_b0 {Q : Int32 → sT → Prop} (C : x_C p s m args c cX8_isLong RX8 gg) (hml : c.maxLocals = 1) (hr : meth.sig.returnType = (some .boolean)) (hlocks : meth.locks = false) {x0 : Int32}  {S : sT}  (h : w_X8_isLong_b0 x0 S  Q) : x_X p l e r_X8_isLong s m args below meth c gg 1 0 0 (MQ below (va_Qi Q (fun S1 t => s_Rep gg S1 t.heap) (s_A gg)) args s 0 0 (s_A gg)) 0 [(0, .int x0)] [] S := by
  unfold w_X8_isLong_b0 at h
  obtain ⟨hx, hb, -⟩ := id C
  intro H locs ls hR hS hl
  refine lv_iload_n hx hb dX8_isLong_0 rfl (lv_at hl 0 rfl) ?_
  refine lv_iconst (v := 1) hx hb dX8_isLong_1 (by decide) ?_
  refine lv_bipush (v := 40) hx hb dX8_isLong_2 (by decide) ?_
  refine x_ki (x_runS (As := [.int x0, .int (1 : Int32), .int (40 : Int32)]) (rest := []) C hml hR hS (m_X8_is l gg x0 (1 : Int32) (40 : Int32) S h) b_X8_is q_8_2 rfl rfl ⟨Nat.le_of_ble_eq_true rfl, Nat.le_of_ble_eq_true rfl⟩ rfl hl.1 (Nat.le_of_ble_eq_true rfl) dX8_isLong_4 ⟨Nat.le_refl _, Nat.le_refl _⟩) hS (fun x102 S101 H locs hn hR hS => ?_)
  replace h := hn
  clear hn
  obtain ⟨hz103, h⟩ := h
  exact W.zret (v := x102) hx hb hr (zb_n hz103) (fun t ht hW => ⟨⟨x102, S101, rfl, h, x_rt ht hR⟩, hS.F ht⟩) hS.2.2 dX8_isLong_7
theorem m_X8_isLong (l : Launch) (gg : sG) (x0 : Int32) (S : sT) {Q : Int32 → sT → Prop} (h : w_X8_isLong x0 S Q) : x_Mi l gg yX8_isLong (x_ws yX8_isLong cX8_isLong 1 (some .boolean)) r_X8_isLong [.int x0] S Q 0 0 := by
  refine x_ofW (cc := cX8_isLong) (own := RX8) (by decide +kernel) rfl (Nat.le_of_ble_eq_true rfl) ?_
  intro p e s m args below meth c C hml hr hlocks hin ht H locs ls hR hS hl
  exact t_X8_isLong_b0 C hml hr hlocks h H locs ls hR hS (lv_sub (l' := [(0, .int x0)]) hl [0] rfl)
def w_X8_plantAll_b49 (x0 : Nat) (x1 : Int32) (x2 : Int32) (x3 : Int32) (S : sT) (kk2 : Nat → Int32 → Int32 → Int32 → sT → Prop) (Q : sT → Prop) : Prop :=
∀ x101 : Int32, x101 = x3 + 1 →
    kk2 x0 x1 x2 x101 S
def w_X8_plantAll_b2  (Q : sT → Prop) : Nat → Nat → Int32 → Int32 → Int32 → sT → Prop
  | 0 => fun _ _ _ _ _ => False
  | n + 1 => fun x0 x1 x2 x3 S =>
s_K S x0 = 9 ∧
    ∃ a101 : Nat, s_R S 257 x0 = some a101 ∧
    s_K S a101 = 13 ∧
    ∀ x102 : Int32, x102 = nI (s_N S a101) →
    ((x102 ≤ x3 → Q S) ∧
    (¬ x102 ≤ x3 → ∃ a104 : Nat, s_R S 257 x0 = some a104 ∧
    s_K S a104 = 13 ∧
    vp_in x3 (s_N S a104) ∧
    ∃ a106 : Nat, s_P S a104 (Int32.toNatClampNeg x3) = some a106 ∧
    s_K S a106 = 11 ∧
    vp_in (0 : Int32) (s_N S a106) ∧
    ∀ x108 : Int32, x108 = s_B S a106 (Int32.toNatClampNeg (0 : Int32)) →
    ((¬ x108 = x1 → w_X8_plantAll_b49 x0 x1 x2 x3 S (fun x0 x1 x2 x3 S => w_X8_plantAll_b2  Q n x0 x1 x2 x3 S) Q) ∧
    (x108 = x1 → vp_in (4 : Int32) (s_N S a106) ∧
    ∀ x111 : Int32, x111 = s_B S a106 (Int32.toNatClampNeg (4 : Int32)) →
    ((x111 ≤ (1 : Int32) → w_X7_plant x0 x3 x2 S (fun S113 =>
    s_K S113 a106 = 11 ∧
    vp_in (2 : Int32) (s_N S113 a106) ∧
    ∀ S115 : sT, S115 = s_sB S113 a106 (Int32.toNatClampNeg (2 : Int32)) (0 : Int32) →
    w_X8_plantAll_b49 x0 x1 x2 x3 S115 (fun x0 x1 x2 x3 S => w_X8_plantAll_b2  Q n x0 x1 x2 x3 S) Q)) ∧
    (¬ x111 ≤ (1 : Int32) → w_X8_plantAll_b49 x0 x1 x2 x3 S (fun x0 x1 x2 x3 S => w_X8_plantAll_b2  Q n x0 x1 x2 x3 S) Q))))))
def w_X8_plantAll_b0 (x0 : Nat) (x1 : Int32) (x2 : Int32) (S : sT)  (Q : sT → Prop) : Prop :=
∃ n9 : Nat, w_X8_plantAll_b2  Q n9 x0 x1 x2 (0 : Int32) S
def w_X8_plantAll (x0 : Nat) (x1 : Int32) (x2 : Int32) (S : sT) (Q : sT → Prop) : Prop := w_X8_plantAll_b0 x0 x1 x2 S Q
def r_X8_plantAll : Room := x_rm 1 23 0 0
theorem b_X8_plantAll : x_BS yX8_plantAll cX8_plantAll 5 none 3 := ⟨q_43_16, q_43_15, q_1_5, by decide +kernel⟩
set_option maxHeartbeats 4000000 in
theorem t_X8_plantAll_b49 {Q : sT → Prop} (C : x_C p s m args c cX8_plantAll RX8 gg) (hml : c.maxLocals = 5) (hr : meth.sig.returnType = none) (hlocks : meth.locks = false) {x0 : Nat} {x1 : Int32} {x2 : Int32} {x3 : Int32} {kk2 : Nat → Int32 → Int32 → Int32 → sT → Prop} {S : sT} (hk2 : ∀ (x0 : Nat) (x1 : Int32) (x2 : Int32) (x3 : Int32) (S : sT), kk2 x0 x1 x2 x3 S → x_X p l e r_X8_plantAll s m args below meth c gg 5 0 0 (MQ below (va_Qv Q (fun S1 t => s_Rep gg S1 t.heap) (s_A gg)) args s 0 0 (s_A gg)) 2 [(0, .ref x0), (1, .int x1), (2, .int x2), (3, .int x3)] [] S) (h : w_X8_plantAll_b49 x0 x1 x2 x3 S kk2 Q) : x_X p l e r_X8_plantAll s m args below meth c gg 5 0 0 (MQ below (va_Qv Q (fun S1 t => s_Rep gg S1 t.heap) (s_A gg)) args s 0 0 (s_A gg)) 49 [(0, .ref x0), (1, .int x1), (2, .int x2), (3, .int x3)] [] S := by
  unfold w_X8_plantAll_b49 at h
  obtain ⟨hx, hb, -⟩ := id C
  intro H locs ls hR hS hl
  obtain ⟨x101, ex101⟩ : ∃ z : Int32, z = x3 + 1 := ⟨_, rfl⟩
  replace h := h x101 ex101
  refine lv_iinc (v := x101) (lv' := [(3, .int x101), (0, .ref x0), (1, .int x1), (2, .int x2)]) hx hb dX8_plantAll_49 hl (k := 3) rfl (by rw [ex101]; rfl) (by decide) rfl (fun ls hl => ?_)
  refine lv_goto (tgt := 2) hx hb dX8_plantAll_52 (by decide) ?_
  exact hk2 x0 x1 x2 x101 S h H locs ls hR hS (lv_sub (l' := [(0, .ref x0), (1, .int x1), (2, .int x2), (3, .int x101)]) hl [1, 2, 3, 0] rfl)
set_option maxHeartbeats 4000000 in
theorem t_X8_plantAll_b2 {Q : sT → Prop} (C : x_C p s m args c cX8_plantAll RX8 gg) (hml : c.maxLocals = 5) (hr : meth.sig.returnType = none) (hlocks : meth.locks = false)   : ∀ (n : Nat) (x0 : Nat) (x1 : Int32) (x2 : Int32) (x3 : Int32) (S : sT), w_X8_plantAll_b2  Q n x0 x1 x2 x3 S → x_X p l e r_X8_plantAll s m args below meth c gg 5 0 0 (MQ below (va_Qv Q (fun S1 t => s_Rep gg S1 t.heap) (s_A gg)) args s 0 0 (s_A gg)) 2 [(0, .ref x0), (1, .int x1), (2, .int x2), (3, .int x3)] [] S := by
  obtain ⟨hx, hb, -⟩ := id C
  intro n
  induction n with
  | zero => intro x0 x1 x2 x3 S h; exact absurd h id
  | succ n ih =>
    intro x0 x1 x2 x3 S h H locs ls hR hS hl
    unfold w_X8_plantAll_b2 at h
    refine lv_iload_n hx hb dX8_plantAll_2 rfl (lv_at hl 3 rfl) ?_
    refine lv_aload_n hx hb dX8_plantAll_3 rfl (lv_at hl 0 rfl) ?_
    obtain ⟨hK_x0, h⟩ := h
    refine x_gN_257 C hR hK_x0 (xn_1 C) dX8_plantAll_4 ?_
    obtain ⟨a101, ea101, h⟩ := h
    refine x_some ea101 ?_
    obtain ⟨hK_a101, h⟩ := h
    refine x_alen13 C hR hK_a101 dX8_plantAll_7 ?_
    refine lv_topi (fun x102 ex102 => ?_)
    replace h := h x102 ex102
    refine lv_icmp_ge (tgt := 55) hx hb dX8_plantAll_8 (by decide) (fun hc103 => ?_) (fun hc103 => ?_)
    · replace h := h.1 hc103
      exact W.vret hx hb hr (fun t ht hW => ⟨⟨S, rfl, h, x_rt ht hR⟩, hS.F ht⟩) hS.2.2 dX8_plantAll_55
    · replace h := h.2 hc103
      refine lv_aload_n hx hb dX8_plantAll_11 rfl (lv_at hl 0 rfl) ?_
      refine x_gN_257 C hR hK_x0 (xn_1 C) dX8_plantAll_12 ?_
      obtain ⟨a104, ea104, h⟩ := h
      refine x_some ea104 ?_
      refine lv_iload_n hx hb dX8_plantAll_15 rfl (lv_at hl 3 rfl) ?_
      obtain ⟨hK_a104, h⟩ := h
      obtain ⟨hi105, a106, ea106, h⟩ := h
      refine x_aald13 C hR hK_a104 hi105 dX8_plantAll_16 ?_
      refine x_some ea106 ?_
      refine lv_astore (lv' := [(4, .ref a106), (0, .ref x0), (1, .int x1), (2, .int x2), (3, .int x3)]) hx hb dX8_plantAll_17 hl (by decide) rfl (fun ls hl => ?_)
      refine lv_aload hx hb dX8_plantAll_19 (lv_at hl 0 rfl) ?_
      refine lv_iconst (v := 0) hx hb dX8_plantAll_21 (by decide) ?_
      obtain ⟨hK_a106, h⟩ := h
      obtain ⟨hi107, h⟩ := h
      refine x_iald C hR hK_a106 hi107 dX8_plantAll_22 ?_
      refine lv_topi (fun x108 ex108 => ?_)
      replace h := h x108 ex108
      refine lv_iload_n hx hb dX8_plantAll_23 rfl (lv_at hl 2 rfl) ?_
      refine lv_icmp_ne (tgt := 49) hx hb dX8_plantAll_24 (by decide) (fun hc109 => ?_) (fun hc109 => ?_)
      · replace h := h.1 hc109
        exact t_X8_plantAll_b49 C hml hr hlocks (fun x0 x1 x2 x3 S h => ih x0 x1 x2 x3 S h) h H locs ls hR hS (lv_sub (l' := [(0, .ref x0), (1, .int x1), (2, .int x2), (3, .int x3)]) hl [1, 2, 3, 4] rfl)
      · replace h := h.2 hc109
        refine lv_aload hx hb dX8_plantAll_27 (lv_at hl 0 rfl) ?_
        refine lv_iconst (v := 4) hx hb dX8_plantAll_29 (by decide) ?_
        obtain ⟨hi110, h⟩ := h
        refine x_iald C hR hK_a106 hi110 dX8_plantAll_30 ?_
        refine lv_topi (fun x111 ex111 => ?_)
        replace h := h x111 ex111
        refine lv_iconst (v := 1) hx hb dX8_plantAll_31 (by decide) ?_
        refine lv_icmp_le (tgt := 38) hx hb dX8_plantAll_32 (by decide) (fun hc112 => ?_) (fun hc112 => ?_)
        · replace h := h.1 hc112
          refine lv_aload_n hx hb dX8_plantAll_38 rfl (lv_at hl 1 rfl) ?_
          refine lv_iload_n hx hb dX8_plantAll_39 rfl (lv_at hl 4 rfl) ?_
          refine lv_iload_n hx hb dX8_plantAll_40 rfl (lv_at hl 3 rfl) ?_
          refine x_kv (x_runV (As := [.int x3, .int x2]) (rest := []) C hml hR hS (m_X7_plant l gg x0 x3 x2 S h) b_X7_plant q_16_10 (by rw [hK_x0]; decide) (s_E_8 hK_x0) rfl rfl rfl rfl ⟨Nat.le_of_ble_eq_true rfl, Nat.le_of_ble_eq_true rfl⟩ rfl hl.1 (Nat.le_of_ble_eq_true rfl) dX8_plantAll_41 ⟨Nat.le_refl _, Nat.le_refl _⟩) hS (fun S113 H locs hn hR hS => ?_)
          replace h := hn
          clear hn
          refine lv_aload hx hb dX8_plantAll_44 (lv_at hl 0 rfl) ?_
          refine lv_iconst (v := 2) hx hb dX8_plantAll_46 (by decide) ?_
          refine lv_iconst (v := 0) hx hb dX8_plantAll_47 (by decide) ?_
          obtain ⟨hK_a106, h⟩ := h
          obtain ⟨hi114, h⟩ := h
          refine x_iast C hR hK_a106 hS hi114 dX8_plantAll_48 (fun H locs hR hS => ?_)
          obtain ⟨S115, eS115⟩ : ∃ z : sT, z = s_sB S113 a106 (Int32.toNatClampNeg (2 : Int32)) (0 : Int32) := ⟨_, rfl⟩
          rw [← eS115] at hR
          replace h := h S115 eS115
          have hK_a106 : s_K S115 a106 = 11 := by rw [eS115]; exact hK_a106
          exact t_X8_plantAll_b49 C hml hr hlocks (fun x0 x1 x2 x3 S h => ih x0 x1 x2 x3 S h) h H locs ls hR hS (lv_sub (l' := [(0, .ref x0), (1, .int x1), (2, .int x2), (3, .int x3)]) hl [1, 2, 3, 4] rfl)
        · replace h := h.2 hc112
          refine lv_goto (tgt := 49) hx hb dX8_plantAll_35 (by decide) ?_
          exact t_X8_plantAll_b49 C hml hr hlocks (fun x0 x1 x2 x3 S h => ih x0 x1 x2 x3 S h) h H locs ls hR hS (lv_sub (l' := [(0, .ref x0), (1, .int x1), (2, .int x2), (3, .int x3)]) hl [1, 2, 3, 4] rfl)
set_option maxHeartbeats 4000000 in
theorem t_X8_plantAll_b0 {Q : sT → Prop} (C : x_C p s m args c cX8_plantAll RX8 gg) (hml : c.maxLocals = 5) (hr : meth.sig.returnType = none) (hlocks : meth.locks = false) {x0 : Nat} {x1 : Int32} {x2 : Int32}  {S : sT}  (h : w_X8_plantAll_b0 x0 x1 x2 S  Q) : x_X p l e r_X8_plantAll s m args below meth c gg 5 0 0 (MQ below (va_Qv Q (fun S1 t => s_Rep gg S1 t.heap) (s_A gg)) args s 0 0 (s_A gg)) 0 [(0, .ref x0), (1, .int x1), (2, .int x2)] [] S := by
  unfold w_X8_plantAll_b0 at h
  obtain ⟨hx, hb, -⟩ := id C
  intro H locs ls hR hS hl
  refine lv_iconst (v := 0) hx hb dX8_plantAll_0 (by decide) ?_
  refine lv_istore_n (lv' := [(3, .int (0 : Int32)), (0, .ref x0), (1, .int x1), (2, .int x2)]) hx hb dX8_plantAll_1 rfl hl (by decide) rfl (fun ls hl => ?_)
  obtain ⟨n9, h⟩ := h
  exact t_X8_plantAll_b2 C hml hr hlocks  n9 x0 x1 x2 (0 : Int32) S h H locs ls hR hS (lv_sub (l' := [(0, .ref x0), (1, .int x1), (2, .int x2), (3, .int (0 : Int32))]) hl [1, 2, 3, 0] rfl)
theorem m_X8_plantAll (l : Launch) (gg : sG) (x0 : Nat) (x1 : Int32) (x2 : Int32) (S : sT) {Q : sT → Prop} (h : w_X8_plantAll x0 x1 x2 S Q) : x_Mv l gg yX8_plantAll (x_ws yX8_plantAll cX8_plantAll 5 none) r_X8_plantAll [.ref x0, .int x1, .int x2] S Q 0 0 := by
  refine x_ofW (cc := cX8_plantAll) (own := RX8) (by decide +kernel) rfl (Nat.le_of_ble_eq_true rfl) ?_
  intro p e s m args below meth c C hml hr hlocks hin ht H locs ls hR hS hl
  exact t_X8_plantAll_b0 C hml hr hlocks h H locs ls hR hS (lv_sub (l' := [(0, .ref x0), (1, .int x1), (2, .int x2)]) hl [0, 1, 2] rfl)
def w_X8_add_b0 (x0 : Nat) (x1 : Int32) (S : sT)  (Q : sT → Prop) : Prop :=
s_K S x0 = 10 ∧
    ∀ j101 : Int64, j101 = s_J S x0 →
    ∀ j102 : Int64, j102 = j101 * (31 : Int64) →
    ∀ j103 : Int64, j103 = Int32.toInt64 x1 →
    ∀ j104 : Int64, j104 = j102 + j103 →
    ∀ S105 : sT, S105 = s_sJ S x0 j104 →
    Q S105
def w_X8_add (x0 : Nat) (x1 : Int32) (S : sT) (Q : sT → Prop) : Prop := w_X8_add_b0 x0 x1 S Q
def r_X8_add : Room := x_rm 0 0 0 0
theorem b_X8_add : x_BV yX8_add cX8_add 2 none 1 := ⟨q_45_2, q_45_0, q_45_1, q_1_5, by decide +kernel⟩
set_option maxHeartbeats 4000000 in
theorem t_X8_add_b0 {Q : sT → Prop} (C : x_C p s m args c cX8_add RX8 gg) (hml : c.maxLocals = 2) (hr : meth.sig.returnType = none) (hlocks : meth.locks = false) {x0 : Nat} {x1 : Int32}  {S : sT}  (h : w_X8_add_b0 x0 x1 S  Q) : x_X p l e r_X8_add s m args below meth c gg 2 0 0 (MQ below (va_Qv Q (fun S1 t => s_Rep gg S1 t.heap) (s_A gg)) args s 0 0 (s_A gg)) 0 [(0, .ref x0), (1, .int x1)] [] S := by
  unfold w_X8_add_b0 at h
  obtain ⟨hx, hb, -⟩ := id C
  intro H locs ls hR hS hl
  refine lv_aload_n hx hb dX8_add_0 rfl (lv_at hl 0 rfl) ?_
  refine lv_aload_n hx hb dX8_add_1 rfl (lv_at hl 0 rfl) ?_
  obtain ⟨hK_x0, h⟩ := h
  refine x_g_290 C hR hK_x0 q_44_22 dX8_add_2 ?_
  refine lv_topl (fun j101 ej101 => ?_)
  replace h := h j101 ej101
  refine lv_ldc2 hx hb C.2.2.2.1 (C.2.2.1 _ q_45_3) dX8_add_5 ?_
  refine lv_lmul hx hb dX8_add_8 ?_
  refine lv_topl (fun j102 ej102 => ?_)
  replace h := h j102 ej102
  refine lv_iload_n hx hb dX8_add_9 rfl (lv_at hl 1 rfl) ?_
  refine lv_i2l hx hb dX8_add_10 rfl ?_
  refine lv_topl (fun j103 ej103 => ?_)
  replace h := h j103 ej103
  refine lv_ladd hx hb dX8_add_11 ?_
  refine lv_topl (fun j104 ej104 => ?_)
  replace h := h j104 ej104
  refine x_p_290 (v := j104) C hR hK_x0 hS q_44_22 dX8_add_12 (fun H locs hR hS => ?_)
  obtain ⟨S105, eS105⟩ : ∃ z : sT, z = s_sJ S x0 j104 := ⟨_, rfl⟩
  rw [← eS105] at hR
  replace h := h S105 eS105
  have hK_x0 : s_K S105 x0 = 10 := by rw [eS105]; exact hK_x0
  exact W.vret hx hb hr (fun t ht hW => ⟨⟨S105, rfl, h, x_rt ht hR⟩, hS.F ht⟩) hS.2.2 dX8_add_15
theorem m_X8_add (l : Launch) (gg : sG) (x0 : Nat) (x1 : Int32) (S : sT) {Q : sT → Prop} (h : w_X8_add x0 x1 S Q) : x_Mv l gg yX8_add (x_ws yX8_add cX8_add 2 none) r_X8_add [.ref x0, .int x1] S Q 0 0 := by
  refine x_ofW (cc := cX8_add) (own := RX8) (by decide +kernel) rfl (Nat.le_of_ble_eq_true rfl) ?_
  intro p e s m args below meth c C hml hr hlocks hin ht H locs ls hR hS hl
  exact t_X8_add_b0 C hml hr hlocks h H locs ls hR hS (lv_sub (l' := [(0, .ref x0), (1, .int x1)]) hl [0, 1] rfl)
end
