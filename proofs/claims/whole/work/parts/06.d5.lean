section
variable {p : Program} {l : Launch} {e : Env} {s : State} {m : MethodId} {args : Array Value} {below : List Frame} {meth : Method} {c : Code} {gg : sG}
def w_X8_ofFieldNow_b141 (x2 : Int32) (x3 : Nat) (S : sT)  (Q : Int32 → sT → Prop) : Prop :=
s_K S x3 = 11 ∧
    vp_in x2 (s_N S x3) ∧
    ∀ x102 : Int32, x102 = s_B S x3 (Int32.toNatClampNeg x2) →
    Q x102 S
def w_X8_ofFieldNow_b88 (y0 : Int32) (S : sT)  (Q : Int32 → sT → Prop) : Prop :=
Q y0 S
def w_X8_ofFieldNow_b102 (y0 : Int32) (S : sT)  (Q : Int32 → sT → Prop) : Prop :=
Q y0 S
def w_X8_ofFieldNow_b116 (y0 : Int32) (S : sT)  (Q : Int32 → sT → Prop) : Prop :=
Q y0 S
def w_X8_ofFieldNow_b22 (x0 : Nat) (x2 : Int32) (x3 : Nat) (y0 : Int32) (S : sT)  (Q : Int32 → sT → Prop) : Prop :=
((x2 = 5 → ((y0 = 0 → s_K S x3 = 11 ∧
    vp_in (5 : Int32) (s_N S x3) ∧
    ∀ x104 : Int32, x104 = s_B S x3 (Int32.toNatClampNeg (5 : Int32)) →
    w_X8_ofFieldNow_b88 x104 S  Q) ∧
    (¬ y0 = 0 → w_X8_ofFieldNow_b88 (-1 : Int32) S  Q))) ∧
    (x2 = 6 → ((y0 = 0 → s_K S x3 = 11 ∧
    vp_in (6 : Int32) (s_N S x3) ∧
    ∀ x108 : Int32, x108 = s_B S x3 (Int32.toNatClampNeg (6 : Int32)) →
    w_X8_ofFieldNow_b102 x108 S  Q) ∧
    (¬ y0 = 0 → w_X8_ofFieldNow_b102 (0 : Int32) S  Q))) ∧
    (x2 = 7 → ((y0 = 0 → s_K S x3 = 11 ∧
    vp_in (7 : Int32) (s_N S x3) ∧
    ∀ x112 : Int32, x112 = s_B S x3 (Int32.toNatClampNeg (7 : Int32)) →
    w_X8_ofFieldNow_b116 x112 S  Q) ∧
    (¬ y0 = 0 → w_X8_ofFieldNow_b116 (0 : Int32) S  Q))) ∧
    (x2 = 8 → w_X8_ofFieldNow_b141 x2 x3 S  Q) ∧
    (x2 = 9 → w_X8_ofFieldNow_b141 x2 x3 S  Q) ∧
    (x2 = 10 → s_K S x0 = 10 ∧
    ∃ a116 : Nat, s_R S 289 x0 = some a116 ∧
    s_K S a116 = 9 ∧
    w_X7_yield a116 x3 S (fun x118 S117 =>
    Q x118 S117)) ∧
    (x2 = 11 → s_K S x3 = 11 ∧
    vp_in (10 : Int32) (s_N S x3) ∧
    ∀ x121 : Int32, x121 = s_B S x3 (Int32.toNatClampNeg (10 : Int32)) →
    Q x121 S) ∧
    (x2 = 12 → s_K S x3 = 11 ∧
    vp_in (11 : Int32) (s_N S x3) ∧
    ∀ x124 : Int32, x124 = s_B S x3 (Int32.toNatClampNeg (11 : Int32)) →
    Q x124 S) ∧
    (x2 = 13 → s_K S x3 = 11 ∧
    vp_in (12 : Int32) (s_N S x3) ∧
    ∀ x127 : Int32, x127 = s_B S x3 (Int32.toNatClampNeg (12 : Int32)) →
    Q x127 S) ∧
    ((¬ x2 = 5 ∧ ¬ x2 = 6 ∧ ¬ x2 = 7 ∧ ¬ x2 = 8 ∧ ¬ x2 = 9 ∧ ¬ x2 = 10 ∧ ¬ x2 = 11 ∧ ¬ x2 = 12 ∧ ¬ x2 = 13) → w_X8_ofFieldNow_b141 x2 x3 S  Q))
def w_X8_ofFieldNow_b0 (x0 : Nat) (x1 : Int32) (x2 : Int32) (S : sT)  (Q : Int32 → sT → Prop) : Prop :=
s_K S x0 = 10 ∧
    ∃ a101 : Nat, s_R S 289 x0 = some a101 ∧
    s_K S a101 = 9 ∧
    ∃ a102 : Nat, s_R S 257 a101 = some a102 ∧
    s_K S a102 = 13 ∧
    vp_in x1 (s_N S a102) ∧
    ∃ a104 : Nat, s_P S a102 (Int32.toNatClampNeg x1) = some a104 ∧
    s_K S a104 = 11 ∧
    vp_in (4 : Int32) (s_N S a104) ∧
    ∀ x106 : Int32, x106 = s_B S a104 (Int32.toNatClampNeg (4 : Int32)) →
    (((2 : Int32) ≤ x106 → w_X8_ofFieldNow_b22 x0 x2 a104 (0 : Int32) S  Q) ∧
    (¬ (2 : Int32) ≤ x106 → w_X8_ofFieldNow_b22 x0 x2 a104 (1 : Int32) S  Q))
def w_X8_ofFieldNow (x0 : Nat) (x1 : Int32) (x2 : Int32) (S : sT) (Q : Int32 → sT → Prop) : Prop := w_X8_ofFieldNow_b0 x0 x1 x2 S Q
def r_X8_ofFieldNow : Room := x_rm 1 22 0 0
theorem b_X8_ofFieldNow : x_BV yX8_ofFieldNow cX8_ofFieldNow 5 (some .int) 2 := ⟨q_31_23, q_31_21, q_31_22, q_1_5, by decide +kernel⟩
set_option maxHeartbeats 4000000 in
theorem t_X8_ofFieldNow_b141 {Q : Int32 → sT → Prop} (C : x_C p s m args c cX8_ofFieldNow RX8 gg) (hml : c.maxLocals = 5) (hr : meth.sig.returnType = (some .int)) (hlocks : meth.locks = false) {x2 : Int32} {x3 : Nat}  {S : sT}  (h : w_X8_ofFieldNow_b141 x2 x3 S  Q) : x_X p l e r_X8_ofFieldNow s m args below meth c gg 5 0 0 (MQ below (va_Qi Q (fun S1 t => s_Rep gg S1 t.heap) (s_A gg)) args s 0 0 (s_A gg)) 141 [(2, .int x2), (3, .ref x3)] [] S := by
  unfold w_X8_ofFieldNow_b141 at h
  obtain ⟨hx, hb, -⟩ := id C
  intro H locs ls hR hS hl
  refine lv_aload_n hx hb dX8_ofFieldNow_141 rfl (lv_at hl 1 rfl) ?_
  refine lv_iload_n hx hb dX8_ofFieldNow_142 rfl (lv_at hl 0 rfl) ?_
  obtain ⟨hK_x3, h⟩ := h
  obtain ⟨hi101, h⟩ := h
  refine x_iald C hR hK_x3 hi101 dX8_ofFieldNow_143 ?_
  refine lv_topi (fun x102 ex102 => ?_)
  replace h := h x102 ex102
  exact W.iret (v := x102) hx hb hr (fun t ht hW => ⟨⟨x102, S, rfl, h, x_rt ht hR⟩, hS.F ht⟩) hS.2.2 dX8_ofFieldNow_144
set_option maxHeartbeats 4000000 in
theorem t_X8_ofFieldNow_b88 {Q : Int32 → sT → Prop} (C : x_C p s m args c cX8_ofFieldNow RX8 gg) (hml : c.maxLocals = 5) (hr : meth.sig.returnType = (some .int)) (hlocks : meth.locks = false) {y0 : Int32}  {S : sT}  (h : w_X8_ofFieldNow_b88 y0 S  Q) : x_X p l e r_X8_ofFieldNow s m args below meth c gg 5 0 0 (MQ below (va_Qi Q (fun S1 t => s_Rep gg S1 t.heap) (s_A gg)) args s 0 0 (s_A gg)) 88 [] [.int y0] S := by
  unfold w_X8_ofFieldNow_b88 at h
  obtain ⟨hx, hb, -⟩ := id C
  intro H locs ls hR hS hl
  exact W.iret (v := y0) hx hb hr (fun t ht hW => ⟨⟨y0, S, rfl, h, x_rt ht hR⟩, hS.F ht⟩) hS.2.2 dX8_ofFieldNow_88
set_option maxHeartbeats 4000000 in
theorem t_X8_ofFieldNow_b102 {Q : Int32 → sT → Prop} (C : x_C p s m args c cX8_ofFieldNow RX8 gg) (hml : c.maxLocals = 5) (hr : meth.sig.returnType = (some .int)) (hlocks : meth.locks = false) {y0 : Int32}  {S : sT}  (h : w_X8_ofFieldNow_b102 y0 S  Q) : x_X p l e r_X8_ofFieldNow s m args below meth c gg 5 0 0 (MQ below (va_Qi Q (fun S1 t => s_Rep gg S1 t.heap) (s_A gg)) args s 0 0 (s_A gg)) 102 [] [.int y0] S := by
  unfold w_X8_ofFieldNow_b102 at h
  obtain ⟨hx, hb, -⟩ := id C
  intro H locs ls hR hS hl
  exact W.iret (v := y0) hx hb hr (fun t ht hW => ⟨⟨y0, S, rfl, h, x_rt ht hR⟩, hS.F ht⟩) hS.2.2 dX8_ofFieldNow_102
set_option maxHeartbeats 4000000 in
theorem t_X8_ofFieldNow_b116 {Q : Int32 → sT → Prop} (C : x_C p s m args c cX8_ofFieldNow RX8 gg) (hml : c.maxLocals = 5) (hr : meth.sig.returnType = (some .int)) (hlocks : meth.locks = false) {y0 : Int32}  {S : sT}  (h : w_X8_ofFieldNow_b116 y0 S  Q) : x_X p l e r_X8_ofFieldNow s m args below meth c gg 5 0 0 (MQ below (va_Qi Q (fun S1 t => s_Rep gg S1 t.heap) (s_A gg)) args s 0 0 (s_A gg)) 116 [] [.int y0] S := by
  unfold w_X8_ofFieldNow_b116 at h
  obtain ⟨hx, hb, -⟩ := id C
  intro H locs ls hR hS hl
  exact W.iret (v := y0) hx hb hr (fun t ht hW => ⟨⟨y0, S, rfl, h, x_rt ht hR⟩, hS.F ht⟩) hS.2.2 dX8_ofFieldNow_116
set_option maxHeartbeats 4000000 in
theorem t_X8_ofFieldNow_b22 {Q : Int32 → sT → Prop} (C : x_C p s m args c cX8_ofFieldNow RX8 gg) (hml : c.maxLocals = 5) (hr : meth.sig.returnType = (some .int)) (hlocks : meth.locks = false) {x0 : Nat} {x2 : Int32} {x3 : Nat} {y0 : Int32}  {S : sT}  (h : w_X8_ofFieldNow_b22 x0 x2 x3 y0 S  Q) : x_X p l e r_X8_ofFieldNow s m args below meth c gg 5 0 0 (MQ below (va_Qi Q (fun S1 t => s_Rep gg S1 t.heap) (s_A gg)) args s 0 0 (s_A gg)) 22 [(0, .ref x0), (2, .int x2), (3, .ref x3)] [.int y0] S := by
  unfold w_X8_ofFieldNow_b22 at h
  obtain ⟨hx, hb, -⟩ := id C
  intro H locs ls hR hS hl
  refine lv_istore (lv' := [(4, .int y0), (0, .ref x0), (2, .int x2), (3, .ref x3)]) hx hb dX8_ofFieldNow_22 hl (by decide) rfl (fun ls hl => ?_)
  refine lv_iload_n hx hb dX8_ofFieldNow_24 rfl (lv_at hl 2 rfl) ?_
  by_cases hc101 : x2 = 5
  · have h := h.1 hc101
    refine lv_tableIn (off := 51) (tgt := 76) hx hb dX8_ofFieldNow_25 (by rw [hc101]; decide) (by rw [hc101]; decide) (by rw [hc101]; rfl) (by decide) ?_
    refine lv_iload hx hb dX8_ofFieldNow_76 (lv_at hl 0 rfl) ?_
    refine lv_if_eq (tgt := 85) hx hb dX8_ofFieldNow_78 (by decide) (fun hc102 => ?_) (fun hc102 => ?_)
    · replace h := h.1 hc102
      refine lv_aload_n hx hb dX8_ofFieldNow_85 rfl (lv_at hl 3 rfl) ?_
      refine lv_iconst (v := 5) hx hb dX8_ofFieldNow_86 (by decide) ?_
      obtain ⟨hK_x3, h⟩ := h
      obtain ⟨hi103, h⟩ := h
      refine x_iald C hR hK_x3 hi103 dX8_ofFieldNow_87 ?_
      refine lv_topi (fun x104 ex104 => ?_)
      replace h := h x104 ex104
      exact t_X8_ofFieldNow_b88 C hml hr hlocks  h H locs ls hR hS (lv_sub (l' := []) hl [] rfl)
    · replace h := h.2 hc102
      refine lv_iconst (v := (-1)) hx hb dX8_ofFieldNow_81 (by decide) ?_
      refine lv_goto (tgt := 88) hx hb dX8_ofFieldNow_82 (by decide) ?_
      exact t_X8_ofFieldNow_b88 C hml hr hlocks  h H locs ls hR hS (lv_sub (l' := []) hl [] rfl)
  · by_cases hc105 : x2 = 6
    · have h := h.2.1 hc105
      refine lv_tableIn (off := 64) (tgt := 89) hx hb dX8_ofFieldNow_25 (by rw [hc105]; decide) (by rw [hc105]; decide) (by rw [hc105]; rfl) (by decide) ?_
      refine lv_iload hx hb dX8_ofFieldNow_89 (lv_at hl 0 rfl) ?_
      refine lv_if_eq (tgt := 98) hx hb dX8_ofFieldNow_91 (by decide) (fun hc106 => ?_) (fun hc106 => ?_)
      · replace h := h.1 hc106
        refine lv_aload_n hx hb dX8_ofFieldNow_98 rfl (lv_at hl 3 rfl) ?_
        refine lv_bipush (v := 6) hx hb dX8_ofFieldNow_99 (by decide) ?_
        obtain ⟨hK_x3, h⟩ := h
        obtain ⟨hi107, h⟩ := h
        refine x_iald C hR hK_x3 hi107 dX8_ofFieldNow_101 ?_
        refine lv_topi (fun x108 ex108 => ?_)
        replace h := h x108 ex108
        exact t_X8_ofFieldNow_b102 C hml hr hlocks  h H locs ls hR hS (lv_sub (l' := []) hl [] rfl)
      · replace h := h.2 hc106
        refine lv_iconst (v := 0) hx hb dX8_ofFieldNow_94 (by decide) ?_
        refine lv_goto (tgt := 102) hx hb dX8_ofFieldNow_95 (by decide) ?_
        exact t_X8_ofFieldNow_b102 C hml hr hlocks  h H locs ls hR hS (lv_sub (l' := []) hl [] rfl)
    · by_cases hc109 : x2 = 7
      · have h := h.2.2.1 hc109
        refine lv_tableIn (off := 78) (tgt := 103) hx hb dX8_ofFieldNow_25 (by rw [hc109]; decide) (by rw [hc109]; decide) (by rw [hc109]; rfl) (by decide) ?_
        refine lv_iload hx hb dX8_ofFieldNow_103 (lv_at hl 0 rfl) ?_
        refine lv_if_eq (tgt := 112) hx hb dX8_ofFieldNow_105 (by decide) (fun hc110 => ?_) (fun hc110 => ?_)
        · replace h := h.1 hc110
          refine lv_aload_n hx hb dX8_ofFieldNow_112 rfl (lv_at hl 3 rfl) ?_
          refine lv_bipush (v := 7) hx hb dX8_ofFieldNow_113 (by decide) ?_
          obtain ⟨hK_x3, h⟩ := h
          obtain ⟨hi111, h⟩ := h
          refine x_iald C hR hK_x3 hi111 dX8_ofFieldNow_115 ?_
          refine lv_topi (fun x112 ex112 => ?_)
          replace h := h x112 ex112
          exact t_X8_ofFieldNow_b116 C hml hr hlocks  h H locs ls hR hS (lv_sub (l' := []) hl [] rfl)
        · replace h := h.2 hc110
          refine lv_iconst (v := 0) hx hb dX8_ofFieldNow_108 (by decide) ?_
          refine lv_goto (tgt := 116) hx hb dX8_ofFieldNow_109 (by decide) ?_
          exact t_X8_ofFieldNow_b116 C hml hr hlocks  h H locs ls hR hS (lv_sub (l' := []) hl [] rfl)
      · by_cases hc113 : x2 = 8
        · have h := h.2.2.2.1 hc113
          refine lv_tableIn (off := 116) (tgt := 141) hx hb dX8_ofFieldNow_25 (by rw [hc113]; decide) (by rw [hc113]; decide) (by rw [hc113]; rfl) (by decide) ?_
          exact t_X8_ofFieldNow_b141 C hml hr hlocks  h H locs ls hR hS (lv_sub (l' := [(2, .int x2), (3, .ref x3)]) hl [2, 3] rfl)
        · by_cases hc114 : x2 = 9
          · have h := h.2.2.2.2.1 hc114
            refine lv_tableIn (off := 116) (tgt := 141) hx hb dX8_ofFieldNow_25 (by rw [hc114]; decide) (by rw [hc114]; decide) (by rw [hc114]; rfl) (by decide) ?_
            exact t_X8_ofFieldNow_b141 C hml hr hlocks  h H locs ls hR hS (lv_sub (l' := [(2, .int x2), (3, .ref x3)]) hl [2, 3] rfl)
          · by_cases hc115 : x2 = 10
            · have h := h.2.2.2.2.2.1 hc115
              refine lv_tableIn (off := 92) (tgt := 117) hx hb dX8_ofFieldNow_25 (by rw [hc115]; decide) (by rw [hc115]; decide) (by rw [hc115]; rfl) (by decide) ?_
              refine lv_aload_n hx hb dX8_ofFieldNow_117 rfl (lv_at hl 1 rfl) ?_
              obtain ⟨hK_x0, h⟩ := h
              refine x_g_289 C hR hK_x0 q_3_8 dX8_ofFieldNow_118 ?_
              obtain ⟨a116, ea116, h⟩ := h
              refine x_some ea116 ?_
              refine lv_aload_n hx hb dX8_ofFieldNow_121 rfl (lv_at hl 3 rfl) ?_
              obtain ⟨hK_a116, h⟩ := h
              refine x_ki (x_runV (As := [.ref x3]) (rest := []) C hml hR hS (m_X7_yield l gg a116 x3 S h) b_X7_yield q_19_6 (by rw [hK_a116]; decide) (s_E_8 hK_a116) rfl rfl rfl rfl ⟨Nat.le_of_ble_eq_true rfl, Nat.le_of_ble_eq_true rfl⟩ rfl hl.1 (Nat.le_of_ble_eq_true rfl) dX8_ofFieldNow_122 ⟨Nat.le_refl _, Nat.le_refl _⟩) hS (fun x118 S117 H locs hn hR hS => ?_)
              replace h := hn
              clear hn
              exact W.iret (v := x118) hx hb hr (fun t ht hW => ⟨⟨x118, S117, rfl, h, x_rt ht hR⟩, hS.F ht⟩) hS.2.2 dX8_ofFieldNow_125
            · by_cases hc119 : x2 = 11
              · have h := h.2.2.2.2.2.2.1 hc119
                refine lv_tableIn (off := 101) (tgt := 126) hx hb dX8_ofFieldNow_25 (by rw [hc119]; decide) (by rw [hc119]; decide) (by rw [hc119]; rfl) (by decide) ?_
                refine lv_aload_n hx hb dX8_ofFieldNow_126 rfl (lv_at hl 3 rfl) ?_
                refine lv_bipush (v := 10) hx hb dX8_ofFieldNow_127 (by decide) ?_
                obtain ⟨hK_x3, h⟩ := h
                obtain ⟨hi120, h⟩ := h
                refine x_iald C hR hK_x3 hi120 dX8_ofFieldNow_129 ?_
                refine lv_topi (fun x121 ex121 => ?_)
                replace h := h x121 ex121
                exact W.iret (v := x121) hx hb hr (fun t ht hW => ⟨⟨x121, S, rfl, h, x_rt ht hR⟩, hS.F ht⟩) hS.2.2 dX8_ofFieldNow_130
              · by_cases hc122 : x2 = 12
                · have h := h.2.2.2.2.2.2.2.1 hc122
                  refine lv_tableIn (off := 106) (tgt := 131) hx hb dX8_ofFieldNow_25 (by rw [hc122]; decide) (by rw [hc122]; decide) (by rw [hc122]; rfl) (by decide) ?_
                  refine lv_aload_n hx hb dX8_ofFieldNow_131 rfl (lv_at hl 3 rfl) ?_
                  refine lv_bipush (v := 11) hx hb dX8_ofFieldNow_132 (by decide) ?_
                  obtain ⟨hK_x3, h⟩ := h
                  obtain ⟨hi123, h⟩ := h
                  refine x_iald C hR hK_x3 hi123 dX8_ofFieldNow_134 ?_
                  refine lv_topi (fun x124 ex124 => ?_)
                  replace h := h x124 ex124
                  exact W.iret (v := x124) hx hb hr (fun t ht hW => ⟨⟨x124, S, rfl, h, x_rt ht hR⟩, hS.F ht⟩) hS.2.2 dX8_ofFieldNow_135
                · by_cases hc125 : x2 = 13
                  · have h := h.2.2.2.2.2.2.2.2.1 hc125
                    refine lv_tableIn (off := 111) (tgt := 136) hx hb dX8_ofFieldNow_25 (by rw [hc125]; decide) (by rw [hc125]; decide) (by rw [hc125]; rfl) (by decide) ?_
                    refine lv_aload_n hx hb dX8_ofFieldNow_136 rfl (lv_at hl 3 rfl) ?_
                    refine lv_bipush (v := 12) hx hb dX8_ofFieldNow_137 (by decide) ?_
                    obtain ⟨hK_x3, h⟩ := h
                    obtain ⟨hi126, h⟩ := h
                    refine x_iald C hR hK_x3 hi126 dX8_ofFieldNow_139 ?_
                    refine lv_topi (fun x127 ex127 => ?_)
                    replace h := h x127 ex127
                    exact W.iret (v := x127) hx hb hr (fun t ht hW => ⟨⟨x127, S, rfl, h, x_rt ht hR⟩, hS.F ht⟩) hS.2.2 dX8_ofFieldNow_140
                  · have h := h.2.2.2.2.2.2.2.2.2 ⟨hc101, hc105, hc109, hc113, hc114, hc115, hc119, hc122, hc125⟩
                    refine lv_tableOut (tgt := 141) hx hb dX8_ofFieldNow_25 (x_tout 5 13 (fun q1 q2 => ?_)) (by decide) ?_
                    · rcases (show x2.toInt = 5 ∨ x2.toInt = 6 ∨ x2.toInt = 7 ∨ x2.toInt = 8 ∨ x2.toInt = 9 ∨ x2.toInt = 10 ∨ x2.toInt = 11 ∨ x2.toInt = 12 ∨ x2.toInt = 13 by omega) with z | z | z | z | z | z | z | z | z
                      · exact hc101 (x_ti z (by decide))
                      · exact hc105 (x_ti z (by decide))
                      · exact hc109 (x_ti z (by decide))
                      · exact hc113 (x_ti z (by decide))
                      · exact hc114 (x_ti z (by decide))
                      · exact hc115 (x_ti z (by decide))
                      · exact hc119 (x_ti z (by decide))
                      · exact hc122 (x_ti z (by decide))
                      · exact hc125 (x_ti z (by decide))
                    exact t_X8_ofFieldNow_b141 C hml hr hlocks  h H locs ls hR hS (lv_sub (l' := [(2, .int x2), (3, .ref x3)]) hl [2, 3] rfl)
set_option maxHeartbeats 4000000 in
theorem t_X8_ofFieldNow_b0 {Q : Int32 → sT → Prop} (C : x_C p s m args c cX8_ofFieldNow RX8 gg) (hml : c.maxLocals = 5) (hr : meth.sig.returnType = (some .int)) (hlocks : meth.locks = false) {x0 : Nat} {x1 : Int32} {x2 : Int32}  {S : sT}  (h : w_X8_ofFieldNow_b0 x0 x1 x2 S  Q) : x_X p l e r_X8_ofFieldNow s m args below meth c gg 5 0 0 (MQ below (va_Qi Q (fun S1 t => s_Rep gg S1 t.heap) (s_A gg)) args s 0 0 (s_A gg)) 0 [(0, .ref x0), (1, .int x1), (2, .int x2)] [] S := by
  unfold w_X8_ofFieldNow_b0 at h
  obtain ⟨hx, hb, -⟩ := id C
  intro H locs ls hR hS hl
  refine lv_aload_n hx hb dX8_ofFieldNow_0 rfl (lv_at hl 0 rfl) ?_
  obtain ⟨hK_x0, h⟩ := h
  refine x_g_289 C hR hK_x0 q_3_8 dX8_ofFieldNow_1 ?_
  obtain ⟨a101, ea101, h⟩ := h
  refine x_some ea101 ?_
  obtain ⟨hK_a101, h⟩ := h
  refine x_gN_257 C hR hK_a101 (xn_1 C) dX8_ofFieldNow_4 ?_
  obtain ⟨a102, ea102, h⟩ := h
  refine x_some ea102 ?_
  refine lv_iload_n hx hb dX8_ofFieldNow_7 rfl (lv_at hl 1 rfl) ?_
  obtain ⟨hK_a102, h⟩ := h
  obtain ⟨hi103, a104, ea104, h⟩ := h
  refine x_aald13 C hR hK_a102 hi103 dX8_ofFieldNow_8 ?_
  refine x_some ea104 ?_
  refine lv_astore_n (lv' := [(3, .ref a104), (0, .ref x0), (1, .int x1), (2, .int x2)]) hx hb dX8_ofFieldNow_9 rfl hl (by decide) rfl (fun ls hl => ?_)
  refine lv_aload_n hx hb dX8_ofFieldNow_10 rfl (lv_at hl 0 rfl) ?_
  refine lv_iconst (v := 4) hx hb dX8_ofFieldNow_11 (by decide) ?_
  obtain ⟨hK_a104, h⟩ := h
  obtain ⟨hi105, h⟩ := h
  refine x_iald C hR hK_a104 hi105 dX8_ofFieldNow_12 ?_
  refine lv_topi (fun x106 ex106 => ?_)
  replace h := h x106 ex106
  refine lv_iconst (v := 2) hx hb dX8_ofFieldNow_13 (by decide) ?_
  refine lv_icmp_ge (tgt := 21) hx hb dX8_ofFieldNow_14 (by decide) (fun hc107 => ?_) (fun hc107 => ?_)
  · replace h := h.1 hc107
    refine lv_iconst (v := 0) hx hb dX8_ofFieldNow_21 (by decide) ?_
    exact t_X8_ofFieldNow_b22 C hml hr hlocks  h H locs ls hR hS (lv_sub (l' := [(0, .ref x0), (2, .int x2), (3, .ref a104)]) hl [1, 3, 0] rfl)
  · replace h := h.2 hc107
    refine lv_iconst (v := 1) hx hb dX8_ofFieldNow_17 (by decide) ?_
    refine lv_goto (tgt := 22) hx hb dX8_ofFieldNow_18 (by decide) ?_
    exact t_X8_ofFieldNow_b22 C hml hr hlocks  h H locs ls hR hS (lv_sub (l' := [(0, .ref x0), (2, .int x2), (3, .ref a104)]) hl [1, 3, 0] rfl)
theorem m_X8_ofFieldNow (l : Launch) (gg : sG) (x0 : Nat) (x1 : Int32) (x2 : Int32) (S : sT) {Q : Int32 → sT → Prop} (h : w_X8_ofFieldNow x0 x1 x2 S Q) : x_Mi l gg yX8_ofFieldNow (x_ws yX8_ofFieldNow cX8_ofFieldNow 5 (some .int)) r_X8_ofFieldNow [.ref x0, .int x1, .int x2] S Q 0 0 := by
  refine x_ofW (cc := cX8_ofFieldNow) (own := RX8) (by decide +kernel) rfl (Nat.le_of_ble_eq_true rfl) ?_
  intro p e s m args below meth c C hml hr hlocks hin ht H locs ls hR hS hl
  exact t_X8_ofFieldNow_b0 C hml hr hlocks h H locs ls hR hS (lv_sub (l' := [(0, .ref x0), (1, .int x1), (2, .int x2)]) hl [0, 1, 2] rfl)
def w_X8_ofField_b43 (y0 : Int32) (S : sT)  (Q : Int32 → sT → Prop) : Prop :=
Q y0 S
def w_X8_ofField_b0 (x0 : Nat) (x1 : Int32) (x2 : Int32) (S : sT)  (Q : Int32 → sT → Prop) : Prop :=
s_K S x0 = 10 ∧
    ∀ S101 : sT, S101 = s_sI S 288 x0 (0 : Int32) →
    w_X8_isField x0 x1 S101 (fun x103 S102 =>
    ((¬ x103 = 0 → w_X8_is x2 (0 : Int32) (13 : Int32) S102 (fun x106 S105 =>
    ((x106 = 0 → s_K S105 x0 = 10 ∧
    w_X8_refuse x0 (2 : Int32) S105 (fun x109 S108 =>
    w_X8_ofField_b43 x109 S108  Q)) ∧
    (¬ x106 = 0 → s_K S105 x0 = 10 ∧
    w_X8_ofFieldNow x0 x1 x2 S105 (fun x111 S110 =>
    w_X8_ofField_b43 x111 S110  Q))))) ∧
    (x103 = 0 → s_K S102 x0 = 10 ∧
    w_X8_refuse x0 (1 : Int32) S102 (fun x113 S112 =>
    Q x113 S112))))
def w_X8_ofField (x0 : Nat) (x1 : Int32) (x2 : Int32) (S : sT) (Q : Int32 → sT → Prop) : Prop := w_X8_ofField_b0 x0 x1 x2 S Q
def r_X8_ofField : Room := x_rm 2 46 0 0
theorem b_X8_ofField : x_BV yX8_ofField cX8_ofField 3 (some .int) 2 := ⟨q_31_19, q_31_17, q_31_18, q_1_5, by decide +kernel⟩
set_option maxHeartbeats 4000000 in
theorem t_X8_ofField_b43 {Q : Int32 → sT → Prop} (C : x_C p s m args c cX8_ofField RX8 gg) (hml : c.maxLocals = 3) (hr : meth.sig.returnType = (some .int)) (hlocks : meth.locks = false) {y0 : Int32}  {S : sT}  (h : w_X8_ofField_b43 y0 S  Q) : x_X p l e r_X8_ofField s m args below meth c gg 3 0 0 (MQ below (va_Qi Q (fun S1 t => s_Rep gg S1 t.heap) (s_A gg)) args s 0 0 (s_A gg)) 43 [] [.int y0] S := by
  unfold w_X8_ofField_b43 at h
  obtain ⟨hx, hb, -⟩ := id C
  intro H locs ls hR hS hl
  exact W.iret (v := y0) hx hb hr (fun t ht hW => ⟨⟨y0, S, rfl, h, x_rt ht hR⟩, hS.F ht⟩) hS.2.2 dX8_ofField_43
set_option maxHeartbeats 4000000 in
theorem t_X8_ofField_b0 {Q : Int32 → sT → Prop} (C : x_C p s m args c cX8_ofField RX8 gg) (hml : c.maxLocals = 3) (hr : meth.sig.returnType = (some .int)) (hlocks : meth.locks = false) {x0 : Nat} {x1 : Int32} {x2 : Int32}  {S : sT}  (h : w_X8_ofField_b0 x0 x1 x2 S  Q) : x_X p l e r_X8_ofField s m args below meth c gg 3 0 0 (MQ below (va_Qi Q (fun S1 t => s_Rep gg S1 t.heap) (s_A gg)) args s 0 0 (s_A gg)) 0 [(0, .ref x0), (1, .int x1), (2, .int x2)] [] S := by
  unfold w_X8_ofField_b0 at h
  obtain ⟨hx, hb, -⟩ := id C
  intro H locs ls hR hS hl
  refine lv_aload_n hx hb dX8_ofField_0 rfl (lv_at hl 0 rfl) ?_
  refine lv_iconst (v := 0) hx hb dX8_ofField_1 (by decide) ?_
  obtain ⟨hK_x0, h⟩ := h
  refine x_p_288 (v := (0 : Int32)) C hR hK_x0 hS q_8_1 dX8_ofField_2 (fun H locs hR hS => ?_)
  obtain ⟨S101, eS101⟩ : ∃ z : sT, z = s_sI S 288 x0 (0 : Int32) := ⟨_, rfl⟩
  rw [← eS101] at hR
  replace h := h S101 eS101
  have hK_x0 : s_K S101 x0 = 10 := by rw [eS101]; exact hK_x0
  refine lv_aload_n hx hb dX8_ofField_5 rfl (lv_at hl 0 rfl) ?_
  refine lv_iload_n hx hb dX8_ofField_6 rfl (lv_at hl 1 rfl) ?_
  refine x_ki (x_runV (As := [.int x1]) (rest := []) C hml hR hS (m_X8_isField l gg x0 x1 S101 h) b_X8_isField q_13_7 (by rw [hK_x0]; decide) (s_E_9 hK_x0) rfl rfl rfl rfl ⟨Nat.le_of_ble_eq_true rfl, Nat.le_of_ble_eq_true rfl⟩ rfl hl.1 (Nat.le_of_ble_eq_true rfl) dX8_ofField_7 ⟨Nat.le_refl _, Nat.le_refl _⟩) hS (fun x103 S102 H locs hn hR hS => ?_)
  replace h := hn
  clear hn
  refine lv_if_ne (tgt := 19) hx hb dX8_ofField_10 (by decide) (fun hc104 => ?_) (fun hc104 => ?_)
  · replace h := h.1 hc104
    refine lv_iload_n hx hb dX8_ofField_19 rfl (lv_at hl 2 rfl) ?_
    refine lv_iconst (v := 0) hx hb dX8_ofField_20 (by decide) ?_
    refine lv_bipush (v := 13) hx hb dX8_ofField_21 (by decide) ?_
    refine x_ki (x_runS (As := [.int x2, .int (0 : Int32), .int (13 : Int32)]) (rest := []) C hml hR hS (m_X8_is l gg x2 (0 : Int32) (13 : Int32) S102 h) b_X8_is q_8_2 rfl rfl ⟨Nat.le_of_ble_eq_true rfl, Nat.le_of_ble_eq_true rfl⟩ rfl hl.1 (Nat.le_of_ble_eq_true rfl) dX8_ofField_23 ⟨Nat.le_refl _, Nat.le_refl _⟩) hS (fun x106 S105 H locs hn hR hS => ?_)
    replace h := hn
    clear hn
    refine lv_if_eq (tgt := 38) hx hb dX8_ofField_26 (by decide) (fun hc107 => ?_) (fun hc107 => ?_)
    · replace h := h.1 hc107
      refine lv_aload_n hx hb dX8_ofField_38 rfl (lv_at hl 0 rfl) ?_
      refine lv_iconst (v := 2) hx hb dX8_ofField_39 (by decide) ?_
      obtain ⟨hK_x0, h⟩ := h
      refine x_ki (x_runV (As := [.int (2 : Int32)]) (rest := []) C hml hR hS (m_X8_refuse l gg x0 (2 : Int32) S105 h) b_X8_refuse q_8_5 (by rw [hK_x0]; decide) (s_E_9 hK_x0) rfl rfl rfl rfl ⟨Nat.le_of_ble_eq_true rfl, Nat.le_of_ble_eq_true rfl⟩ rfl hl.1 (Nat.le_of_ble_eq_true rfl) dX8_ofField_40 ⟨Nat.le_refl _, Nat.le_refl _⟩) hS (fun x109 S108 H locs hn hR hS => ?_)
      replace h := hn
      clear hn
      exact t_X8_ofField_b43 C hml hr hlocks  h H locs ls hR hS (lv_sub (l' := []) hl [] rfl)
    · replace h := h.2 hc107
      refine lv_aload_n hx hb dX8_ofField_29 rfl (lv_at hl 0 rfl) ?_
      refine lv_iload_n hx hb dX8_ofField_30 rfl (lv_at hl 1 rfl) ?_
      refine lv_iload_n hx hb dX8_ofField_31 rfl (lv_at hl 2 rfl) ?_
      obtain ⟨hK_x0, h⟩ := h
      refine x_ki (x_runV (As := [.int x1, .int x2]) (rest := []) C hml hR hS (m_X8_ofFieldNow l gg x0 x1 x2 S105 h) b_X8_ofFieldNow q_31_20 (by rw [hK_x0]; decide) (s_E_9 hK_x0) rfl rfl rfl rfl ⟨Nat.le_of_ble_eq_true rfl, Nat.le_of_ble_eq_true rfl⟩ rfl hl.1 (Nat.le_of_ble_eq_true rfl) dX8_ofField_32 ⟨Nat.le_refl _, Nat.le_refl _⟩) hS (fun x111 S110 H locs hn hR hS => ?_)
      replace h := hn
      clear hn
      refine lv_goto (tgt := 43) hx hb dX8_ofField_35 (by decide) ?_
      exact t_X8_ofField_b43 C hml hr hlocks  h H locs ls hR hS (lv_sub (l' := []) hl [] rfl)
  · replace h := h.2 hc104
    refine lv_aload_n hx hb dX8_ofField_13 rfl (lv_at hl 0 rfl) ?_
    refine lv_iconst (v := 1) hx hb dX8_ofField_14 (by decide) ?_
    obtain ⟨hK_x0, h⟩ := h
    refine x_ki (x_runV (As := [.int (1 : Int32)]) (rest := []) C hml hR hS (m_X8_refuse l gg x0 (1 : Int32) S102 h) b_X8_refuse q_8_5 (by rw [hK_x0]; decide) (s_E_9 hK_x0) rfl rfl rfl rfl ⟨Nat.le_of_ble_eq_true rfl, Nat.le_of_ble_eq_true rfl⟩ rfl hl.1 (Nat.le_of_ble_eq_true rfl) dX8_ofField_15 ⟨Nat.le_refl _, Nat.le_refl _⟩) hS (fun x113 S112 H locs hn hR hS => ?_)
    replace h := hn
    clear hn
    exact W.iret (v := x113) hx hb hr (fun t ht hW => ⟨⟨x113, S112, rfl, h, x_rt ht hR⟩, hS.F ht⟩) hS.2.2 dX8_ofField_18
theorem m_X8_ofField (l : Launch) (gg : sG) (x0 : Nat) (x1 : Int32) (x2 : Int32) (S : sT) {Q : Int32 → sT → Prop} (h : w_X8_ofField x0 x1 x2 S Q) : x_Mi l gg yX8_ofField (x_ws yX8_ofField cX8_ofField 3 (some .int)) r_X8_ofField [.ref x0, .int x1, .int x2] S Q 0 0 := by
  refine x_ofW (cc := cX8_ofField) (own := RX8) (by decide +kernel) rfl (Nat.le_of_ble_eq_true rfl) ?_
  intro p e s m args below meth c C hml hr hlocks hin ht H locs ls hR hS hl
  exact t_X8_ofField_b0 C hml hr hlocks h H locs ls hR hS (lv_sub (l' := [(0, .ref x0), (1, .int x1), (2, .int x2)]) hl [0, 1, 2] rfl)
end
