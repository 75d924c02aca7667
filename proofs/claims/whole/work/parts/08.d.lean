section
variable {p : Program} {l : Launch} {e : Env} {s : State} {m : MethodId} {args : Array Value} {below : List Frame} {meth : Method} {c : Code} {gg : sG}
def wA_X8_ofOwnerNow_b48 (mc ms kc ks : Nat) (x2 : Int32) (y0 : Int32) (y1 : Int32) (y2 : Nat) (y3 : Nat) (S : sT)  (Q : Int32 → sT → Prop) : Prop :=
s_K S y2 = 11 ∧
    vp_in y1 (s_N S y2) ∧
    ∀ S102 : sT, S102 = s_sB S y2 (Int32.toNatClampNeg y1) y0 →
    s_K S102 y3 = 11 ∧
    vp_in x2 (s_N S102 y3) ∧
    ∀ x104 : Int32, x104 = s_B S102 y3 (Int32.toNatClampNeg x2) →
    Q x104 S102
def wA_X8_ofOwnerNow_b0 (mc ms kc ks : Nat) (x0 : Nat) (x1 : Int32) (x2 : Int32) (S : sT)  (Q : Int32 → sT → Prop) : Prop :=
s_K S x0 = 10 ∧
    ∃ a101 : Nat, s_R S 289 x0 = some a101 ∧
    s_K S a101 = 9 ∧
    ∃ a102 : Nat, s_R S 257 a101 = some a102 ∧
    s_K S a102 = 13 ∧
    vp_in x1 (s_N S a102) ∧
    ∃ a104 : Nat, s_P S a102 (Int32.toNatClampNeg x1) = some a104 ∧
    (kc + 1) ≤ mc ∧ (ks + 4) ≤ ms ∧
    ∀ q105 : Nat, s_fr S q105 →
    ∀ S106 : sT, S106 = s_nw S q105 11 4 →
    s_K S106 a104 = 11 ∧
    vp_in (17 : Int32) (s_N S106 a104) ∧
    ∀ x108 : Int32, x108 = s_B S106 a104 (Int32.toNatClampNeg (17 : Int32)) →
    vp_in (0 : Int32) (s_N S106 q105) ∧
    ∀ S110 : sT, S110 = s_sB S106 q105 (Int32.toNatClampNeg (0 : Int32)) x108 →
    vp_in (18 : Int32) (s_N S110 a104) ∧
    ∀ x112 : Int32, x112 = s_B S110 a104 (Int32.toNatClampNeg (18 : Int32)) →
    vp_in (1 : Int32) (s_N S110 q105) ∧
    ∀ S114 : sT, S114 = s_sB S110 q105 (Int32.toNatClampNeg (1 : Int32)) x112 →
    vp_in (19 : Int32) (s_N S114 a104) ∧
    ∀ x116 : Int32, x116 = s_B S114 a104 (Int32.toNatClampNeg (19 : Int32)) →
    vp_in (2 : Int32) (s_N S114 q105) ∧
    ∀ S118 : sT, S118 = s_sB S114 q105 (Int32.toNatClampNeg (2 : Int32)) x116 →
    vp_in (17 : Int32) (s_N S118 a104) ∧
    ∀ x120 : Int32, x120 = s_B S118 a104 (Int32.toNatClampNeg (17 : Int32)) →
    ((0 ≤ x120 → wA_X8_ofOwnerNow_b48 mc ms (kc + 1) (ks + 4) x2 (0 : Int32) (3 : Int32) q105 q105 S118  Q) ∧
    (¬ 0 ≤ x120 → wA_X8_ofOwnerNow_b48 mc ms (kc + 1) (ks + 4) x2 (1 : Int32) (3 : Int32) q105 q105 S118  Q))
def wA_X8_ofOwnerNow (mc ms : Nat) (x0 : Nat) (x1 : Int32) (x2 : Int32) (S : sT) (Q : Int32 → sT → Prop) : Prop := wA_X8_ofOwnerNow_b0 mc ms 0 0 x0 x1 x2 S Q
def rA_X8_ofOwnerNow (mc ms : Nat) : Room := x_rm 0 0 mc ms
theorem b_X8_ofOwnerNow : x_BV yX8_ofOwnerNow cX8_ofOwnerNow 5 (some .int) 2 := ⟨q_32_18, q_32_16, q_32_17, q_1_5, by decide +kernel⟩
set_option maxHeartbeats 4000000 in
theorem tA_X8_ofOwnerNow_b48 {Q : Int32 → sT → Prop} (C : x_C p s m args c cX8_ofOwnerNow RX8 gg) (hml : c.maxLocals = 5) (hr : meth.sig.returnType = (some .int)) (hlocks : meth.locks = false) {mc ms kc ks : Nat} (hk : kc ≤ mc ∧ ks ≤ ms) {x2 : Int32} {y0 : Int32} {y1 : Int32} {y2 : Nat} {y3 : Nat}  {S : sT}  (h : wA_X8_ofOwnerNow_b48 mc ms kc ks x2 y0 y1 y2 y3 S  Q) : x_X p l e (rA_X8_ofOwnerNow mc ms) s m args below meth c gg 5 kc ks (MQ below (va_Qi Q (fun S1 t => s_Rep gg S1 t.heap) (s_A gg)) args s mc ms (s_A gg)) 48 [(2, .int x2)] [.int y0, .int y1, .ref y2, .ref y3] S := by
  unfold wA_X8_ofOwnerNow_b48 at h
  obtain ⟨hx, hb, -⟩ := id C
  intro H locs ls hR hS hl
  obtain ⟨hK_y2, h⟩ := h
  obtain ⟨hi101, h⟩ := h
  refine x_iast C hR hK_y2 hS hi101 dX8_ofOwnerNow_48 (fun H locs hR hS => ?_)
  obtain ⟨S102, eS102⟩ : ∃ z : sT, z = s_sB S y2 (Int32.toNatClampNeg y1) y0 := ⟨_, rfl⟩
  rw [← eS102] at hR
  replace h := h S102 eS102
  have hK_y2 : s_K S102 y2 = 11 := by rw [eS102]; exact hK_y2
  refine lv_astore (lv' := [(4, .ref y3), (2, .int x2)]) hx hb dX8_ofOwnerNow_49 hl (by decide) rfl (fun ls hl => ?_)
  refine lv_aload hx hb dX8_ofOwnerNow_51 (lv_at hl 0 rfl) ?_
  refine lv_iload_n hx hb dX8_ofOwnerNow_53 rfl (lv_at hl 1 rfl) ?_
  obtain ⟨hK_y3, h⟩ := h
  obtain ⟨hi103, h⟩ := h
  refine x_iald C hR hK_y3 hi103 dX8_ofOwnerNow_54 ?_
  refine lv_topi (fun x104 ex104 => ?_)
  replace h := h x104 ex104
  refine W.widen (k := mc) (n := ms) hk.1 hk.2 ?_
  exact W.iret (v := x104) hx hb hr (fun t ht hW => ⟨⟨x104, S102, rfl, h, x_rt ht hR⟩, hS.F ht⟩) hS.2.2 dX8_ofOwnerNow_55
set_option maxHeartbeats 4000000 in
theorem tA_X8_ofOwnerNow_b0 {Q : Int32 → sT → Prop} (C : x_C p s m args c cX8_ofOwnerNow RX8 gg) (hml : c.maxLocals = 5) (hr : meth.sig.returnType = (some .int)) (hlocks : meth.locks = false) {mc ms kc ks : Nat} (hk : kc ≤ mc ∧ ks ≤ ms) {x0 : Nat} {x1 : Int32} {x2 : Int32}  {S : sT}  (h : wA_X8_ofOwnerNow_b0 mc ms kc ks x0 x1 x2 S  Q) : x_X p l e (rA_X8_ofOwnerNow mc ms) s m args below meth c gg 5 kc ks (MQ below (va_Qi Q (fun S1 t => s_Rep gg S1 t.heap) (s_A gg)) args s mc ms (s_A gg)) 0 [(0, .ref x0), (1, .int x1), (2, .int x2)] [] S := by
  unfold wA_X8_ofOwnerNow_b0 at h
  obtain ⟨hx, hb, -⟩ := id C
  intro H locs ls hR hS hl
  refine lv_aload_n hx hb dX8_ofOwnerNow_0 rfl (lv_at hl 0 rfl) ?_
  obtain ⟨hK_x0, h⟩ := h
  refine x_g_289 C hR hK_x0 q_3_8 dX8_ofOwnerNow_1 ?_
  obtain ⟨a101, ea101, h⟩ := h
  refine x_some ea101 ?_
  obtain ⟨hK_a101, h⟩ := h
  refine x_gN_257 C hR hK_a101 (xn_1 C) dX8_ofOwnerNow_4 ?_
  obtain ⟨a102, ea102, h⟩ := h
  refine x_some ea102 ?_
  refine lv_iload_n hx hb dX8_ofOwnerNow_7 rfl (lv_at hl 1 rfl) ?_
  obtain ⟨hK_a102, h⟩ := h
  obtain ⟨hi103, a104, ea104, h⟩ := h
  refine x_aald13 C hR hK_a102 hi103 dX8_ofOwnerNow_8 ?_
  refine x_some ea104 ?_
  refine lv_astore_n (lv' := [(3, .ref a104), (0, .ref x0), (1, .int x1), (2, .int x2)]) hx hb dX8_ofOwnerNow_9 rfl hl (by decide) rfl (fun ls hl => ?_)
  refine lv_iconst (v := 4) hx hb dX8_ofOwnerNow_10 (by decide) ?_
  obtain ⟨hk1, hk2, h⟩ := h
  refine x_newi (N1 := 4) C hR hS q_3_13 (by decide) (by decide) (by decide) hk1 hk2 dX8_ofOwnerNow_11 (fun q105 H hq9 hq hR hS => ?_)
  replace h := h q105 hq
  have hk : (kc + 1) ≤ mc ∧ (ks + 4) ≤ ms := ⟨hk1, hk2⟩
  obtain ⟨S106, eS106⟩ : ∃ z : sT, z = s_nw S q105 11 4 := ⟨_, rfl⟩
  rw [← eS106] at hR
  replace h := h S106 eS106
  have hK_q105 : s_K S106 q105 = 11 := by rw [eS106]; exact s_nw_K
  refine lv_dup hx hb dX8_ofOwnerNow_13 rfl ?_
  refine lv_iconst (v := 0) hx hb dX8_ofOwnerNow_14 (by decide) ?_
  refine lv_aload_n hx hb dX8_ofOwnerNow_15 rfl (lv_at hl 0 rfl) ?_
  refine lv_bipush (v := 17) hx hb dX8_ofOwnerNow_16 (by decide) ?_
  obtain ⟨hK_a104, h⟩ := h
  obtain ⟨hi107, h⟩ := h
  refine x_iald C hR hK_a104 hi107 dX8_ofOwnerNow_18 ?_
  refine lv_topi (fun x108 ex108 => ?_)
  replace h := h x108 ex108
  obtain ⟨hi109, h⟩ := h
  refine x_iast C hR hK_q105 hS hi109 dX8_ofOwnerNow_19 (fun H locs hR hS => ?_)
  obtain ⟨S110, eS110⟩ : ∃ z : sT, z = s_sB S106 q105 (Int32.toNatClampNeg (0 : Int32)) x108 := ⟨_, rfl⟩
  rw [← eS110] at hR
  replace h := h S110 eS110
  have hK_q105 : s_K S110 q105 = 11 := by rw [eS110]; exact hK_q105
  have hK_a104 : s_K S110 a104 = 11 := by rw [eS110]; exact hK_a104
  refine lv_dup hx hb dX8_ofOwnerNow_20 rfl ?_
  refine lv_iconst (v := 1) hx hb dX8_ofOwnerNow_21 (by decide) ?_
  refine lv_aload_n hx hb dX8_ofOwnerNow_22 rfl (lv_at hl 0 rfl) ?_
  refine lv_bipush (v := 18) hx hb dX8_ofOwnerNow_23 (by decide) ?_
  obtain ⟨hi111, h⟩ := h
  refine x_iald C hR hK_a104 hi111 dX8_ofOwnerNow_25 ?_
  refine lv_topi (fun x112 ex112 => ?_)
  replace h := h x112 ex112
  obtain ⟨hi113, h⟩ := h
  refine x_iast C hR hK_q105 hS hi113 dX8_ofOwnerNow_26 (fun H locs hR hS => ?_)
  obtain ⟨S114, eS114⟩ : ∃ z : sT, z = s_sB S110 q105 (Int32.toNatClampNeg (1 : Int32)) x112 := ⟨_, rfl⟩
  rw [← eS114] at hR
  replace h := h S114 eS114
  have hK_q105 : s_K S114 q105 = 11 := by rw [eS114]; exact hK_q105
  have hK_a104 : s_K S114 a104 = 11 := by rw [eS114]; exact hK_a104
  refine lv_dup hx hb dX8_ofOwnerNow_27 rfl ?_
  refine lv_iconst (v := 2) hx hb dX8_ofOwnerNow_28 (by decide) ?_
  refine lv_aload_n hx hb dX8_ofOwnerNow_29 rfl (lv_at hl 0 rfl) ?_
  refine lv_bipush (v := 19) hx hb dX8_ofOwnerNow_30 (by decide) ?_
  obtain ⟨hi115, h⟩ := h
  refine x_iald C hR hK_a104 hi115 dX8_ofOwnerNow_32 ?_
  refine lv_topi (fun x116 ex116 => ?_)
  replace h := h x116 ex116
  obtain ⟨hi117, h⟩ := h
  refine x_iast C hR hK_q105 hS hi117 dX8_ofOwnerNow_33 (fun H locs hR hS => ?_)
  obtain ⟨S118, eS118⟩ : ∃ z : sT, z = s_sB S114 q105 (Int32.toNatClampNeg (2 : Int32)) x116 := ⟨_, rfl⟩
  rw [← eS118] at hR
  replace h := h S118 eS118
  have hK_q105 : s_K S118 q105 = 11 := by rw [eS118]; exact hK_q105
  have hK_a104 : s_K S118 a104 = 11 := by rw [eS118]; exact hK_a104
  refine lv_dup hx hb dX8_ofOwnerNow_34 rfl ?_
  refine lv_iconst (v := 3) hx hb dX8_ofOwnerNow_35 (by decide) ?_
  refine lv_aload_n hx hb dX8_ofOwnerNow_36 rfl (lv_at hl 0 rfl) ?_
  refine lv_bipush (v := 17) hx hb dX8_ofOwnerNow_37 (by decide) ?_
  obtain ⟨hi119, h⟩ := h
  refine x_iald C hR hK_a104 hi119 dX8_ofOwnerNow_39 ?_
  refine lv_topi (fun x120 ex120 => ?_)
  replace h := h x120 ex120
  refine lv_if_ge (tgt := 47) hx hb dX8_ofOwnerNow_40 (by decide) (fun hc121 => ?_) (fun hc121 => ?_)
  · replace h := h.1 hc121
    refine lv_iconst (v := 0) hx hb dX8_ofOwnerNow_47 (by decide) ?_
    exact tA_X8_ofOwnerNow_b48 C hml hr hlocks hk  h H locs ls hR hS (lv_sub (l' := [(2, .int x2)]) hl [3] rfl)
  · replace h := h.2 hc121
    refine lv_iconst (v := 1) hx hb dX8_ofOwnerNow_43 (by decide) ?_
    refine lv_goto (tgt := 48) hx hb dX8_ofOwnerNow_44 (by decide) ?_
    exact tA_X8_ofOwnerNow_b48 C hml hr hlocks hk  h H locs ls hR hS (lv_sub (l' := [(2, .int x2)]) hl [3] rfl)
theorem mA_X8_ofOwnerNow (l : Launch) (gg : sG) (mc ms : Nat) (x0 : Nat) (x1 : Int32) (x2 : Int32) (S : sT) {Q : Int32 → sT → Prop} (h : wA_X8_ofOwnerNow mc ms x0 x1 x2 S Q) : x_Mi l gg yX8_ofOwnerNow (x_ws yX8_ofOwnerNow cX8_ofOwnerNow 5 (some .int)) (rA_X8_ofOwnerNow mc ms) [.ref x0, .int x1, .int x2] S Q mc ms := by
  refine x_ofW (cc := cX8_ofOwnerNow) (own := RX8) (by decide +kernel) rfl (Nat.le_of_ble_eq_true rfl) ?_
  intro p e s m args below meth c C hml hr hlocks hin ht H locs ls hR hS hl
  exact tA_X8_ofOwnerNow_b0 C hml hr hlocks ⟨Nat.zero_le _, Nat.zero_le _⟩ h H locs ls hR hS (lv_sub (l' := [(0, .ref x0), (1, .int x1), (2, .int x2)]) hl [0, 1, 2] rfl)
def wA_X8_ofOwner_b42 (mc ms kc ks : Nat) (y0 : Int32) (S : sT)  (Q : Int32 → sT → Prop) : Prop :=
Q y0 S
def wA_X8_ofOwner_b0 (mc ms kc ks : Nat) (x0 : Nat) (x1 : Int32) (x2 : Int32) (S : sT)  (Q : Int32 → sT → Prop) : Prop :=
s_K S x0 = 10 ∧
    ∀ S101 : sT, S101 = s_sI S 288 x0 (0 : Int32) →
    w_X8_isField x0 x1 S101 (fun x103 S102 =>
    ((¬ x103 = 0 → w_X8_is x2 (0 : Int32) (3 : Int32) S102 (fun x106 S105 =>
    ((x106 = 0 → s_K S105 x0 = 10 ∧
    w_X8_refuse x0 (2 : Int32) S105 (fun x109 S108 =>
    wA_X8_ofOwner_b42 mc ms kc ks x109 S108  Q)) ∧
    (¬ x106 = 0 → s_K S105 x0 = 10 ∧
    ∃ c110 d111 : Nat, kc + c110 ≤ mc ∧ ks + d111 ≤ ms ∧
    wA_X8_ofOwnerNow c110 d111 x0 x1 x2 S105 (fun x113 S112 =>
    wA_X8_ofOwner_b42 mc ms (kc + c110) (ks + d111) x113 S112  Q))))) ∧
    (x103 = 0 → s_K S102 x0 = 10 ∧
    w_X8_refuse x0 (1 : Int32) S102 (fun x115 S114 =>
    Q x115 S114))))
def wA_X8_ofOwner (mc ms : Nat) (x0 : Nat) (x1 : Int32) (x2 : Int32) (S : sT) (Q : Int32 → sT → Prop) : Prop := wA_X8_ofOwner_b0 mc ms 0 0 x0 x1 x2 S Q
def rA_X8_ofOwner (mc ms : Nat) : Room := x_rm 2 43 mc ms
theorem b_X8_ofOwner : x_BV yX8_ofOwner cX8_ofOwner 3 (some .int) 2 := ⟨q_32_14, q_32_12, q_32_13, q_1_5, by decide +kernel⟩
set_option maxHeartbeats 4000000 in
theorem tA_X8_ofOwner_b42 {Q : Int32 → sT → Prop} (C : x_C p s m args c cX8_ofOwner RX8 gg) (hml : c.maxLocals = 3) (hr : meth.sig.returnType = (some .int)) (hlocks : meth.locks = false) {mc ms kc ks : Nat} (hk : kc ≤ mc ∧ ks ≤ ms) {y0 : Int32}  {S : sT}  (h : wA_X8_ofOwner_b42 mc ms kc ks y0 S  Q) : x_X p l e (rA_X8_ofOwner mc ms) s m args below meth c gg 3 kc ks (MQ below (va_Qi Q (fun S1 t => s_Rep gg S1 t.heap) (s_A gg)) args s mc ms (s_A gg)) 42 [] [.int y0] S := by
  unfold wA_X8_ofOwner_b42 at h
  obtain ⟨hx, hb, -⟩ := id C
  intro H locs ls hR hS hl
  refine W.widen (k := mc) (n := ms) hk.1 hk.2 ?_
  exact W.iret (v := y0) hx hb hr (fun t ht hW => ⟨⟨y0, S, rfl, h, x_rt ht hR⟩, hS.F ht⟩) hS.2.2 dX8_ofOwner_42
set_option maxHeartbeats 4000000 in
theorem tA_X8_ofOwner_b0 {Q : Int32 → sT → Prop} (C : x_C p s m args c cX8_ofOwner RX8 gg) (hml : c.maxLocals = 3) (hr : meth.sig.returnType = (some .int)) (hlocks : meth.locks = false) {mc ms kc ks : Nat} (hk : kc ≤ mc ∧ ks ≤ ms) {x0 : Nat} {x1 : Int32} {x2 : Int32}  {S : sT}  (h : wA_X8_ofOwner_b0 mc ms kc ks x0 x1 x2 S  Q) : x_X p l e (rA_X8_ofOwner mc ms) s m args below meth c gg 3 kc ks (MQ below (va_Qi Q (fun S1 t => s_Rep gg S1 t.heap) (s_A gg)) args s mc ms (s_A gg)) 0 [(0, .ref x0), (1, .int x1), (2, .int x2)] [] S := by
  unfold wA_X8_ofOwner_b0 at h
  obtain ⟨hx, hb, -⟩ := id C
  intro H locs ls hR hS hl
  refine lv_aload_n hx hb dX8_ofOwner_0 rfl (lv_at hl 0 rfl) ?_
  refine lv_iconst (v := 0) hx hb dX8_ofOwner_1 (by decide) ?_
  obtain ⟨hK_x0, h⟩ := h
  refine x_p_288 (v := (0 : Int32)) C hR hK_x0 hS q_8_1 dX8_ofOwner_2 (fun H locs hR hS => ?_)
  obtain ⟨S101, eS101⟩ : ∃ z : sT, z = s_sI S 288 x0 (0 : Int32) := ⟨_, rfl⟩
  rw [← eS101] at hR
  replace h := h S101 eS101
  have hK_x0 : s_K S101 x0 = 10 := by rw [eS101]; exact hK_x0
  refine lv_aload_n hx hb dX8_ofOwner_5 rfl (lv_at hl 0 rfl) ?_
  refine lv_iload_n hx hb dX8_ofOwner_6 rfl (lv_at hl 1 rfl) ?_
  refine x_ki (x_runV (As := [.int x1]) (rest := []) C hml hR hS (m_X8_isField l gg x0 x1 S101 h) b_X8_isField q_13_7 (by rw [hK_x0]; decide) (s_E_9 hK_x0) rfl rfl rfl rfl ⟨Nat.le_of_ble_eq_true rfl, Nat.le_of_ble_eq_true rfl⟩ rfl hl.1 (Nat.le_of_ble_eq_true rfl) dX8_ofOwner_7 ⟨hk.1, hk.2⟩) hS (fun x103 S102 H locs hn hR hS => ?_)
  replace h := hn
  clear hn
  refine lv_if_ne (tgt := 19) hx hb dX8_ofOwner_10 (by decide) (fun hc104 => ?_) (fun hc104 => ?_)
  · replace h := h.1 hc104
    refine lv_iload_n hx hb dX8_ofOwner_19 rfl (lv_at hl 2 rfl) ?_
    refine lv_iconst (v := 0) hx hb dX8_ofOwner_20 (by decide) ?_
    refine lv_iconst (v := 3) hx hb dX8_ofOwner_21 (by decide) ?_
    refine x_ki (x_runS (As := [.int x2, .int (0 : Int32), .int (3 : Int32)]) (rest := []) C hml hR hS (m_X8_is l gg x2 (0 : Int32) (3 : Int32) S102 h) b_X8_is q_8_2 rfl rfl ⟨Nat.le_of_ble_eq_true rfl, Nat.le_of_ble_eq_true rfl⟩ rfl hl.1 (Nat.le_of_ble_eq_true rfl) dX8_ofOwner_22 ⟨hk.1, hk.2⟩) hS (fun x106 S105 H locs hn hR hS => ?_)
    replace h := hn
    clear hn
    refine lv_if_eq (tgt := 37) hx hb dX8_ofOwner_25 (by decide) (fun hc107 => ?_) (fun hc107 => ?_)
    · replace h := h.1 hc107
      refine lv_aload_n hx hb dX8_ofOwner_37 rfl (lv_at hl 0 rfl) ?_
      refine lv_iconst (v := 2) hx hb dX8_ofOwner_38 (by decide) ?_
      obtain ⟨hK_x0, h⟩ := h
      refine x_ki (x_runV (As := [.int (2 : Int32)]) (rest := []) C hml hR hS (m_X8_refuse l gg x0 (2 : Int32) S105 h) b_X8_refuse q_8_5 (by rw [hK_x0]; decide) (s_E_9 hK_x0) rfl rfl rfl rfl ⟨Nat.le_of_ble_eq_true rfl, Nat.le_of_ble_eq_true rfl⟩ rfl hl.1 (Nat.le_of_ble_eq_true rfl) dX8_ofOwner_39 ⟨hk.1, hk.2⟩) hS (fun x109 S108 H locs hn hR hS => ?_)
      replace h := hn
      clear hn
      exact tA_X8_ofOwner_b42 C hml hr hlocks hk  h H locs ls hR hS (lv_sub (l' := []) hl [] rfl)
    · replace h := h.2 hc107
      refine lv_aload_n hx hb dX8_ofOwner_28 rfl (lv_at hl 0 rfl) ?_
      refine lv_iload_n hx hb dX8_ofOwner_29 rfl (lv_at hl 1 rfl) ?_
      refine lv_iload_n hx hb dX8_ofOwner_30 rfl (lv_at hl 2 rfl) ?_
      obtain ⟨hK_x0, h⟩ := h
      obtain ⟨c110, d111, hk1, hk2, h⟩ := h
      refine x_ki (x_runV (As := [.int x1, .int x2]) (rest := []) C hml hR hS (mA_X8_ofOwnerNow l gg c110 d111 x0 x1 x2 S105 h) b_X8_ofOwnerNow q_32_15 (by rw [hK_x0]; decide) (s_E_9 hK_x0) rfl rfl rfl rfl ⟨Nat.le_of_ble_eq_true rfl, Nat.le_of_ble_eq_true rfl⟩ rfl hl.1 (Nat.le_of_ble_eq_true rfl) dX8_ofOwner_31 ⟨hk1, hk2⟩) hS (fun x113 S112 H locs hn hR hS => ?_)
      replace h := hn
      clear hn
      have hk : (kc + c110) ≤ mc ∧ (ks + d111) ≤ ms := ⟨hk1, hk2⟩
      refine lv_goto (tgt := 42) hx hb dX8_ofOwner_34 (by decide) ?_
      exact tA_X8_ofOwner_b42 C hml hr hlocks hk  h H locs ls hR hS (lv_sub (l' := []) hl [] rfl)
  · replace h := h.2 hc104
    refine lv_aload_n hx hb dX8_ofOwner_13 rfl (lv_at hl 0 rfl) ?_
    refine lv_iconst (v := 1) hx hb dX8_ofOwner_14 (by decide) ?_
    obtain ⟨hK_x0, h⟩ := h
    refine x_ki (x_runV (As := [.int (1 : Int32)]) (rest := []) C hml hR hS (m_X8_refuse l gg x0 (1 : Int32) S102 h) b_X8_refuse q_8_5 (by rw [hK_x0]; decide) (s_E_9 hK_x0) rfl rfl rfl rfl ⟨Nat.le_of_ble_eq_true rfl, Nat.le_of_ble_eq_true rfl⟩ rfl hl.1 (Nat.le_of_ble_eq_true rfl) dX8_ofOwner_15 ⟨hk.1, hk.2⟩) hS (fun x115 S114 H locs hn hR hS => ?_)
    replace h := hn
    clear hn
    refine W.widen (k := mc) (n := ms) hk.1 hk.2 ?_
    exact W.iret (v := x115) hx hb hr (fun t ht hW => ⟨⟨x115, S114, rfl, h, x_rt ht hR⟩, hS.F ht⟩) hS.2.2 dX8_ofOwner_18
theorem mA_X8_ofOwner (l : Launch) (gg : sG) (mc ms : Nat) (x0 : Nat) (x1 : Int32) (x2 : Int32) (S : sT) {Q : Int32 → sT → Prop} (h : wA_X8_ofOwner mc ms x0 x1 x2 S Q) : x_Mi l gg yX8_ofOwner (x_ws yX8_ofOwner cX8_ofOwner 3 (some .int)) (rA_X8_ofOwner mc ms) [.ref x0, .int x1, .int x2] S Q mc ms := by
  refine x_ofW (cc := cX8_ofOwner) (own := RX8) (by decide +kernel) rfl (Nat.le_of_ble_eq_true rfl) ?_
  intro p e s m args below meth c C hml hr hlocks hin ht H locs ls hR hS hl
  exact tA_X8_ofOwner_b0 C hml hr hlocks ⟨Nat.zero_le _, Nat.zero_le _⟩ h H locs ls hR hS (lv_sub (l' := [(0, .ref x0), (1, .int x1), (2, .int x2)]) hl [0, 1, 2] rfl)
def wA_X8_ofSocietyNow_b56 (mc ms kc ks : Nat) (x0 : Nat) (x1 : Int32) (x2 : Int32) (x3 : Nat) (y0 : Int32) (y1 : Int32) (y2 : Nat) (y3 : Nat) (S : sT)  (Q : Int32 → sT → Prop) : Prop :=
s_K S y2 = 11 ∧
    vp_in y1 (s_N S y2) ∧
    ∀ S102 : sT, S102 = s_sB S y2 (Int32.toNatClampNeg y1) y0 →
    s_K S102 x3 = 11 ∧
    vp_in (8 : Int32) (s_N S102 x3) ∧
    ∀ x104 : Int32, x104 = s_B S102 x3 (Int32.toNatClampNeg (8 : Int32)) →
    s_K S102 y3 = 11 ∧
    vp_in (5 : Int32) (s_N S102 y3) ∧
    ∀ S106 : sT, S106 = s_sB S102 y3 (Int32.toNatClampNeg (5 : Int32)) x104 →
    s_K S106 x0 = 10 ∧
    w_X8_size x0 x1 S106 (fun x108 S107 =>
    s_K S107 y3 = 11 ∧
    vp_in (6 : Int32) (s_N S107 y3) ∧
    ∀ S110 : sT, S110 = s_sB S107 y3 (Int32.toNatClampNeg (6 : Int32)) x108 →
    s_K S110 x3 = 11 ∧
    vp_in (9 : Int32) (s_N S110 x3) ∧
    ∀ x112 : Int32, x112 = s_B S110 x3 (Int32.toNatClampNeg (9 : Int32)) →
    vp_in (7 : Int32) (s_N S110 y3) ∧
    ∀ S114 : sT, S114 = s_sB S110 y3 (Int32.toNatClampNeg (7 : Int32)) x112 →
    s_K S114 x0 = 10 ∧
    ∃ a115 : Nat, s_R S114 289 x0 = some a115 ∧
    s_K S114 a115 = 9 ∧
    w_X7_next a115 x1 S114 (fun x117 S116 =>
    s_K S116 y3 = 11 ∧
    vp_in (8 : Int32) (s_N S116 y3) ∧
    ∀ S119 : sT, S119 = s_sB S116 y3 (Int32.toNatClampNeg (8 : Int32)) x117 →
    vp_in x2 (s_N S119 y3) ∧
    ∀ x121 : Int32, x121 = s_B S119 y3 (Int32.toNatClampNeg x2) →
    Q x121 S119))
def wA_X8_ofSocietyNow_b0 (mc ms kc ks : Nat) (x0 : Nat) (x1 : Int32) (x2 : Int32) (S : sT)  (Q : Int32 → sT → Prop) : Prop :=
s_K S x0 = 10 ∧
    ∃ a101 : Nat, s_R S 289 x0 = some a101 ∧
    s_K S a101 = 9 ∧
    ∃ a102 : Nat, s_R S 256 a101 = some a102 ∧
    s_K S a102 = 13 ∧
    vp_in x1 (s_N S a102) ∧
    ∃ a104 : Nat, s_P S a102 (Int32.toNatClampNeg x1) = some a104 ∧
    (kc + 1) ≤ mc ∧ (ks + 9) ≤ ms ∧
    ∀ q105 : Nat, s_fr S q105 →
    ∀ S106 : sT, S106 = s_nw S q105 11 9 →
    s_K S106 a104 = 11 ∧
    vp_in (2 : Int32) (s_N S106 a104) ∧
    ∀ x108 : Int32, x108 = s_B S106 a104 (Int32.toNatClampNeg (2 : Int32)) →
    vp_in (0 : Int32) (s_N S106 q105) ∧
    ∀ S110 : sT, S110 = s_sB S106 q105 (Int32.toNatClampNeg (0 : Int32)) x108 →
    vp_in (3 : Int32) (s_N S110 a104) ∧
    ∀ x112 : Int32, x112 = s_B S110 a104 (Int32.toNatClampNeg (3 : Int32)) →
    vp_in (1 : Int32) (s_N S110 q105) ∧
    ∀ S114 : sT, S114 = s_sB S110 q105 (Int32.toNatClampNeg (1 : Int32)) x112 →
    vp_in (4 : Int32) (s_N S114 a104) ∧
    ∀ x116 : Int32, x116 = s_B S114 a104 (Int32.toNatClampNeg (4 : Int32)) →
    vp_in (2 : Int32) (s_N S114 q105) ∧
    ∀ S118 : sT, S118 = s_sB S114 q105 (Int32.toNatClampNeg (2 : Int32)) x116 →
    vp_in (5 : Int32) (s_N S118 a104) ∧
    ∀ x120 : Int32, x120 = s_B S118 a104 (Int32.toNatClampNeg (5 : Int32)) →
    vp_in (3 : Int32) (s_N S118 q105) ∧
    ∀ S122 : sT, S122 = s_sB S118 q105 (Int32.toNatClampNeg (3 : Int32)) x120 →
    s_K S122 x0 = 10 ∧
    ∃ a123 : Nat, s_R S122 289 x0 = some a123 ∧
    s_K S122 a123 = 9 ∧
    w_X7_isOpen a123 x1 S122 (fun x125 S124 =>
    ((x125 = 0 → wA_X8_ofSocietyNow_b56 mc ms (kc + 1) (ks + 9) x0 x1 x2 a104 (0 : Int32) (4 : Int32) q105 q105 S124  Q) ∧
    (¬ x125 = 0 → wA_X8_ofSocietyNow_b56 mc ms (kc + 1) (ks + 9) x0 x1 x2 a104 (1 : Int32) (4 : Int32) q105 q105 S124  Q)))
def wA_X8_ofSocietyNow (mc ms : Nat) (x0 : Nat) (x1 : Int32) (x2 : Int32) (S : sT) (Q : Int32 → sT → Prop) : Prop := wA_X8_ofSocietyNow_b0 mc ms 0 0 x0 x1 x2 S Q
def rA_X8_ofSocietyNow (mc ms : Nat) : Room := x_rm 2 46 mc ms
theorem b_X8_ofSocietyNow : x_BV yX8_ofSocietyNow cX8_ofSocietyNow 5 (some .int) 2 := ⟨q_33_17, q_33_15, q_33_16, q_1_5, by decide +kernel⟩
set_option maxHeartbeats 4000000 in
theorem tA_X8_ofSocietyNow_b56 {Q : Int32 → sT → Prop} (C : x_C p s m args c cX8_ofSocietyNow RX8 gg) (hml : c.maxLocals = 5) (hr : meth.sig.returnType = (some .int)) (hlocks : meth.locks = false) {mc ms kc ks : Nat} (hk : kc ≤ mc ∧ ks ≤ ms) {x0 : Nat} {x1 : Int32} {x2 : Int32} {x3 : Nat} {y0 : Int32} {y1 : Int32} {y2 : Nat} {y3 : Nat}  {S : sT}  (h : wA_X8_ofSocietyNow_b56 mc ms kc ks x0 x1 x2 x3 y0 y1 y2 y3 S  Q) : x_X p l e (rA_X8_ofSocietyNow mc ms) s m args below meth c gg 5 kc ks (MQ below (va_Qi Q (fun S1 t => s_Rep gg S1 t.heap) (s_A gg)) args s mc ms (s_A gg)) 56 [(0, .ref x0), (1, .int x1), (2, .int x2), (3, .ref x3)] [.int y0, .int y1, .ref y2, .ref y3] S := by
  unfold wA_X8_ofSocietyNow_b56 at h
  obtain ⟨hx, hb, -⟩ := id C
  intro H locs ls hR hS hl
  obtain ⟨hK_y2, h⟩ := h
  obtain ⟨hi101, h⟩ := h
  refine x_iast C hR hK_y2 hS hi101 dX8_ofSocietyNow_56 (fun H locs hR hS => ?_)
  obtain ⟨S102, eS102⟩ : ∃ z : sT, z = s_sB S y2 (Int32.toNatClampNeg y1) y0 := ⟨_, rfl⟩
  rw [← eS102] at hR
  replace h := h S102 eS102
  have hK_y2 : s_K S102 y2 = 11 := by rw [eS102]; exact hK_y2
  refine lv_dup hx hb dX8_ofSocietyNow_57 rfl ?_
  refine lv_iconst (v := 5) hx hb dX8_ofSocietyNow_58 (by decide) ?_
  refine lv_aload_n hx hb dX8_ofSocietyNow_59 rfl (lv_at hl 3 rfl) ?_
  refine lv_bipush (v := 8) hx hb dX8_ofSocietyNow_60 (by decide) ?_
  obtain ⟨hK_x3, h⟩ := h
  obtain ⟨hi103, h⟩ := h
  refine x_iald C hR hK_x3 hi103 dX8_ofSocietyNow_62 ?_
  refine lv_topi (fun x104 ex104 => ?_)
  replace h := h x104 ex104
  obtain ⟨hK_y3, h⟩ := h
  obtain ⟨hi105, h⟩ := h
  refine x_iast C hR hK_y3 hS hi105 dX8_ofSocietyNow_63 (fun H locs hR hS => ?_)
  obtain ⟨S106, eS106⟩ : ∃ z : sT, z = s_sB S102 y3 (Int32.toNatClampNeg (5 : Int32)) x104 := ⟨_, rfl⟩
  rw [← eS106] at hR
  replace h := h S106 eS106
  have hK_y2 : s_K S106 y2 = 11 := by rw [eS106]; exact hK_y2
  have hK_x3 : s_K S106 x3 = 11 := by rw [eS106]; exact hK_x3
  have hK_y3 : s_K S106 y3 = 11 := by rw [eS106]; exact hK_y3
  refine lv_dup hx hb dX8_ofSocietyNow_64 rfl ?_
  refine lv_bipush (v := 6) hx hb dX8_ofSocietyNow_65 (by decide) ?_
  refine lv_aload_n hx hb dX8_ofSocietyNow_67 rfl (lv_at hl 0 rfl) ?_
  refine lv_iload_n hx hb dX8_ofSocietyNow_68 rfl (lv_at hl 1 rfl) ?_
  obtain ⟨hK_x0, h⟩ := h
  refine x_ki (x_runV (As := [.int x1]) (rest := [.int (6 : Int32), .ref y3, .ref y3]) C hml hR hS (m_X8_size l gg x0 x1 S106 h) b_X8_size q_30_19 (by rw [hK_x0]; decide) (s_E_9 hK_x0) rfl rfl rfl rfl ⟨Nat.le_of_ble_eq_true rfl, Nat.le_of_ble_eq_true rfl⟩ rfl hl.1 (Nat.le_of_ble_eq_true rfl) dX8_ofSocietyNow_69 ⟨hk.1, hk.2⟩) hS (fun x108 S107 H locs hn hR hS => ?_)
  replace h := hn
  clear hn
  obtain ⟨hK_y3, h⟩ := h
  obtain ⟨hi109, h⟩ := h
  refine x_iast C hR hK_y3 hS hi109 dX8_ofSocietyNow_72 (fun H locs hR hS => ?_)
  obtain ⟨S110, eS110⟩ : ∃ z : sT, z = s_sB S107 y3 (Int32.toNatClampNeg (6 : Int32)) x108 := ⟨_, rfl⟩
  rw [← eS110] at hR
  replace h := h S110 eS110
  have hK_y3 : s_K S110 y3 = 11 := by rw [eS110]; exact hK_y3
  refine lv_dup hx hb dX8_ofSocietyNow_73 rfl ?_
  refine lv_bipush (v := 7) hx hb dX8_ofSocietyNow_74 (by decide) ?_
  refine lv_aload_n hx hb dX8_ofSocietyNow_76 rfl (lv_at hl 3 rfl) ?_
  refine lv_bipush (v := 9) hx hb dX8_ofSocietyNow_77 (by decide) ?_
  obtain ⟨hK_x3, h⟩ := h
  obtain ⟨hi111, h⟩ := h
  refine x_iald C hR hK_x3 hi111 dX8_ofSocietyNow_79 ?_
  refine lv_topi (fun x112 ex112 => ?_)
  replace h := h x112 ex112
  obtain ⟨hi113, h⟩ := h
  refine x_iast C hR hK_y3 hS hi113 dX8_ofSocietyNow_80 (fun H locs hR hS => ?_)
  obtain ⟨S114, eS114⟩ : ∃ z : sT, z = s_sB S110 y3 (Int32.toNatClampNeg (7 : Int32)) x112 := ⟨_, rfl⟩
  rw [← eS114] at hR
  replace h := h S114 eS114
  have hK_y3 : s_K S114 y3 = 11 := by rw [eS114]; exact hK_y3
  have hK_x3 : s_K S114 x3 = 11 := by rw [eS114]; exact hK_x3
  refine lv_dup hx hb dX8_ofSocietyNow_81 rfl ?_
  refine lv_bipush (v := 8) hx hb dX8_ofSocietyNow_82 (by decide) ?_
  refine lv_aload_n hx hb dX8_ofSocietyNow_84 rfl (lv_at hl 0 rfl) ?_
  obtain ⟨hK_x0, h⟩ := h
  refine x_g_289 C hR hK_x0 q_3_8 dX8_ofSocietyNow_85 ?_
  obtain ⟨a115, ea115, h⟩ := h
  refine x_some ea115 ?_
  refine lv_iload_n hx hb dX8_ofSocietyNow_88 rfl (lv_at hl 1 rfl) ?_
  obtain ⟨hK_a115, h⟩ := h
  refine x_ki (x_runV (As := [.int x1]) (rest := [.int (8 : Int32), .ref y3, .ref y3]) C hml hR hS (m_X7_next l gg a115 x1 S114 h) b_X7_next q_33_19 (by rw [hK_a115]; decide) (s_E_8 hK_a115) rfl rfl rfl rfl ⟨Nat.le_of_ble_eq_true rfl, Nat.le_of_ble_eq_true rfl⟩ rfl hl.1 (Nat.le_of_ble_eq_true rfl) dX8_ofSocietyNow_89 ⟨hk.1, hk.2⟩) hS (fun x117 S116 H locs hn hR hS => ?_)
  replace h := hn
  clear hn
  obtain ⟨hK_y3, h⟩ := h
  obtain ⟨hi118, h⟩ := h
  refine x_iast C hR hK_y3 hS hi118 dX8_ofSocietyNow_92 (fun H locs hR hS => ?_)
  obtain ⟨S119, eS119⟩ : ∃ z : sT, z = s_sB S116 y3 (Int32.toNatClampNeg (8 : Int32)) x117 := ⟨_, rfl⟩
  rw [← eS119] at hR
  replace h := h S119 eS119
  have hK_y3 : s_K S119 y3 = 11 := by rw [eS119]; exact hK_y3
  refine lv_astore (lv' := [(4, .ref y3), (0, .ref x0), (1, .int x1), (2, .int x2), (3, .ref x3)]) hx hb dX8_ofSocietyNow_93 hl (by decide) rfl (fun ls hl => ?_)
  refine lv_aload hx hb dX8_ofSocietyNow_95 (lv_at hl 0 rfl) ?_
  refine lv_iload_n hx hb dX8_ofSocietyNow_97 rfl (lv_at hl 3 rfl) ?_
  obtain ⟨hi120, h⟩ := h
  refine x_iald C hR hK_y3 hi120 dX8_ofSocietyNow_98 ?_
  refine lv_topi (fun x121 ex121 => ?_)
  replace h := h x121 ex121
  refine W.widen (k := mc) (n := ms) hk.1 hk.2 ?_
  exact W.iret (v := x121) hx hb hr (fun t ht hW => ⟨⟨x121, S119, rfl, h, x_rt ht hR⟩, hS.F ht⟩) hS.2.2 dX8_ofSocietyNow_99
set_option maxHeartbeats 4000000 in
theorem tA_X8_ofSocietyNow_b0 {Q : Int32 → sT → Prop} (C : x_C p s m args c cX8_ofSocietyNow RX8 gg) (hml : c.maxLocals = 5) (hr : meth.sig.returnType = (some .int)) (hlocks : meth.locks = false) {mc ms kc ks : Nat} (hk : kc ≤ mc ∧ ks ≤ ms) {x0 : Nat} {x1 : Int32} {x2 : Int32}  {S : sT}  (h : wA_X8_ofSocietyNow_b0 mc ms kc ks x0 x1 x2 S  Q) : x_X p l e (rA_X8_ofSocietyNow mc ms) s m args below meth c gg 5 kc ks (MQ below (va_Qi Q (fun S1 t => s_Rep gg S1 t.heap) (s_A gg)) args s mc ms (s_A gg)) 0 [(0, .ref x0), (1, .int x1), (2, .int x2)] [] S := by
  unfold wA_X8_ofSocietyNow_b0 at h
  obtain ⟨hx, hb, -⟩ := id C
  intro H locs ls hR hS hl
  refine lv_aload_n hx hb dX8_ofSocietyNow_0 rfl (lv_at hl 0 rfl) ?_
  obtain ⟨hK_x0, h⟩ := h
  refine x_g_289 C hR hK_x0 q_3_8 dX8_ofSocietyNow_1 ?_
  obtain ⟨a101, ea101, h⟩ := h
  refine x_some ea101 ?_
  obtain ⟨hK_a101, h⟩ := h
  refine x_gN_256 C hR hK_a101 (xn_2 C) dX8_ofSocietyNow_4 ?_
  obtain ⟨a102, ea102, h⟩ := h
  refine x_some ea102 ?_
  refine lv_iload_n hx hb dX8_ofSocietyNow_7 rfl (lv_at hl 1 rfl) ?_
  obtain ⟨hK_a102, h⟩ := h
  obtain ⟨hi103, a104, ea104, h⟩ := h
  refine x_aald13 C hR hK_a102 hi103 dX8_ofSocietyNow_8 ?_
  refine x_some ea104 ?_
  refine lv_astore_n (lv' := [(3, .ref a104), (0, .ref x0), (1, .int x1), (2, .int x2)]) hx hb dX8_ofSocietyNow_9 rfl hl (by decide) rfl (fun ls hl => ?_)
  refine lv_bipush (v := 9) hx hb dX8_ofSocietyNow_10 (by decide) ?_
  obtain ⟨hk1, hk2, h⟩ := h
  refine x_newi (N1 := 9) C hR hS q_3_13 (by decide) (by decide) (by decide) hk1 hk2 dX8_ofSocietyNow_12 (fun q105 H hq9 hq hR hS => ?_)
  replace h := h q105 hq
  have hk : (kc + 1) ≤ mc ∧ (ks + 9) ≤ ms := ⟨hk1, hk2⟩
  obtain ⟨S106, eS106⟩ : ∃ z : sT, z = s_nw S q105 11 9 := ⟨_, rfl⟩
  rw [← eS106] at hR
  replace h := h S106 eS106
  have hK_q105 : s_K S106 q105 = 11 := by rw [eS106]; exact s_nw_K
  refine lv_dup hx hb dX8_ofSocietyNow_14 rfl ?_
  refine lv_iconst (v := 0) hx hb dX8_ofSocietyNow_15 (by decide) ?_
  refine lv_aload_n hx hb dX8_ofSocietyNow_16 rfl (lv_at hl 0 rfl) ?_
  refine lv_iconst (v := 2) hx hb dX8_ofSocietyNow_17 (by decide) ?_
  obtain ⟨hK_a104, h⟩ := h
  obtain ⟨hi107, h⟩ := h
  refine x_iald C hR hK_a104 hi107 dX8_ofSocietyNow_18 ?_
  refine lv_topi (fun x108 ex108 => ?_)
  replace h := h x108 ex108
  obtain ⟨hi109, h⟩ := h
  refine x_iast C hR hK_q105 hS hi109 dX8_ofSocietyNow_19 (fun H locs hR hS => ?_)
  obtain ⟨S110, eS110⟩ : ∃ z : sT, z = s_sB S106 q105 (Int32.toNatClampNeg (0 : Int32)) x108 := ⟨_, rfl⟩
  rw [← eS110] at hR
  replace h := h S110 eS110
  have hK_q105 : s_K S110 q105 = 11 := by rw [eS110]; exact hK_q105
  have hK_a104 : s_K S110 a104 = 11 := by rw [eS110]; exact hK_a104
  refine lv_dup hx hb dX8_ofSocietyNow_20 rfl ?_
  refine lv_iconst (v := 1) hx hb dX8_ofSocietyNow_21 (by decide) ?_
  refine lv_aload_n hx hb dX8_ofSocietyNow_22 rfl (lv_at hl 0 rfl) ?_
  refine lv_iconst (v := 3) hx hb dX8_ofSocietyNow_23 (by decide) ?_
  obtain ⟨hi111, h⟩ := h
  refine x_iald C hR hK_a104 hi111 dX8_ofSocietyNow_24 ?_
  refine lv_topi (fun x112 ex112 => ?_)
  replace h := h x112 ex112
  obtain ⟨hi113, h⟩ := h
  refine x_iast C hR hK_q105 hS hi113 dX8_ofSocietyNow_25 (fun H locs hR hS => ?_)
  obtain ⟨S114, eS114⟩ : ∃ z : sT, z = s_sB S110 q105 (Int32.toNatClampNeg (1 : Int32)) x112 := ⟨_, rfl⟩
  rw [← eS114] at hR
  replace h := h S114 eS114
  have hK_q105 : s_K S114 q105 = 11 := by rw [eS114]; exact hK_q105
  have hK_a104 : s_K S114 a104 = 11 := by rw [eS114]; exact hK_a104
  refine lv_dup hx hb dX8_ofSocietyNow_26 rfl ?_
  refine lv_iconst (v := 2) hx hb dX8_ofSocietyNow_27 (by decide) ?_
  refine lv_aload_n hx hb dX8_ofSocietyNow_28 rfl (lv_at hl 0 rfl) ?_
  refine lv_iconst (v := 4) hx hb dX8_ofSocietyNow_29 (by decide) ?_
  obtain ⟨hi115, h⟩ := h
  refine x_iald C hR hK_a104 hi115 dX8_ofSocietyNow_30 ?_
  refine lv_topi (fun x116 ex116 => ?_)
  replace h := h x116 ex116
  obtain ⟨hi117, h⟩ := h
  refine x_iast C hR hK_q105 hS hi117 dX8_ofSocietyNow_31 (fun H locs hR hS => ?_)
  obtain ⟨S118, eS118⟩ : ∃ z : sT, z = s_sB S114 q105 (Int32.toNatClampNeg (2 : Int32)) x116 := ⟨_, rfl⟩
  rw [← eS118] at hR
  replace h := h S118 eS118
  have hK_q105 : s_K S118 q105 = 11 := by rw [eS118]; exact hK_q105
  have hK_a104 : s_K S118 a104 = 11 := by rw [eS118]; exact hK_a104
  refine lv_dup hx hb dX8_ofSocietyNow_32 rfl ?_
  refine lv_iconst (v := 3) hx hb dX8_ofSocietyNow_33 (by decide) ?_
  refine lv_aload_n hx hb dX8_ofSocietyNow_34 rfl (lv_at hl 0 rfl) ?_
  refine lv_iconst (v := 5) hx hb dX8_ofSocietyNow_35 (by decide) ?_
  obtain ⟨hi119, h⟩ := h
  refine x_iald C hR hK_a104 hi119 dX8_ofSocietyNow_36 ?_
  refine lv_topi (fun x120 ex120 => ?_)
  replace h := h x120 ex120
  obtain ⟨hi121, h⟩ := h
  refine x_iast C hR hK_q105 hS hi121 dX8_ofSocietyNow_37 (fun H locs hR hS => ?_)
  obtain ⟨S122, eS122⟩ : ∃ z : sT, z = s_sB S118 q105 (Int32.toNatClampNeg (3 : Int32)) x120 := ⟨_, rfl⟩
  rw [← eS122] at hR
  replace h := h S122 eS122
  have hK_q105 : s_K S122 q105 = 11 := by rw [eS122]; exact hK_q105
  have hK_a104 : s_K S122 a104 = 11 := by rw [eS122]; exact hK_a104
  refine lv_dup hx hb dX8_ofSocietyNow_38 rfl ?_
  refine lv_iconst (v := 4) hx hb dX8_ofSocietyNow_39 (by decide) ?_
  refine lv_aload_n hx hb dX8_ofSocietyNow_40 rfl (lv_at hl 1 rfl) ?_
  obtain ⟨hK_x0, h⟩ := h
  refine x_g_289 C hR hK_x0 q_3_8 dX8_ofSocietyNow_41 ?_
  obtain ⟨a123, ea123, h⟩ := h
  refine x_some ea123 ?_
  refine lv_iload_n hx hb dX8_ofSocietyNow_44 rfl (lv_at hl 2 rfl) ?_
  obtain ⟨hK_a123, h⟩ := h
  refine x_ki (x_runV (As := [.int x1]) (rest := [.int (4 : Int32), .ref q105, .ref q105]) C hml hR hS (m_X7_isOpen l gg a123 x1 S122 h) b_X7_isOpen q_33_18 (by rw [hK_a123]; decide) (s_E_8 hK_a123) rfl rfl rfl rfl ⟨Nat.le_of_ble_eq_true rfl, Nat.le_of_ble_eq_true rfl⟩ rfl hl.1 (Nat.le_of_ble_eq_true rfl) dX8_ofSocietyNow_45 ⟨hk.1, hk.2⟩) hS (fun x125 S124 H locs hn hR hS => ?_)
  replace h := hn
  clear hn
  refine lv_if_eq (tgt := 55) hx hb dX8_ofSocietyNow_48 (by decide) (fun hc126 => ?_) (fun hc126 => ?_)
  · replace h := h.1 hc126
    refine lv_iconst (v := 0) hx hb dX8_ofSocietyNow_55 (by decide) ?_
    exact tA_X8_ofSocietyNow_b56 C hml hr hlocks hk  h H locs ls hR hS (lv_sub (l' := [(0, .ref x0), (1, .int x1), (2, .int x2), (3, .ref a104)]) hl [1, 2, 3, 0] rfl)
  · replace h := h.2 hc126
    refine lv_iconst (v := 1) hx hb dX8_ofSocietyNow_51 (by decide) ?_
    refine lv_goto (tgt := 56) hx hb dX8_ofSocietyNow_52 (by decide) ?_
    exact tA_X8_ofSocietyNow_b56 C hml hr hlocks hk  h H locs ls hR hS (lv_sub (l' := [(0, .ref x0), (1, .int x1), (2, .int x2), (3, .ref a104)]) hl [1, 2, 3, 0] rfl)
theorem mA_X8_ofSocietyNow (l : Launch) (gg : sG) (mc ms : Nat) (x0 : Nat) (x1 : Int32) (x2 : Int32) (S : sT) {Q : Int32 → sT → Prop} (h : wA_X8_ofSocietyNow mc ms x0 x1 x2 S Q) : x_Mi l gg yX8_ofSocietyNow (x_ws yX8_ofSocietyNow cX8_ofSocietyNow 5 (some .int)) (rA_X8_ofSocietyNow mc ms) [.ref x0, .int x1, .int x2] S Q mc ms := by
  refine x_ofW (cc := cX8_ofSocietyNow) (own := RX8) (by decide +kernel) rfl (Nat.le_of_ble_eq_true rfl) ?_
  intro p e s m args below meth c C hml hr hlocks hin ht H locs ls hR hS hl
  exact tA_X8_ofSocietyNow_b0 C hml hr hlocks ⟨Nat.zero_le _, Nat.zero_le _⟩ h H locs ls hR hS (lv_sub (l' := [(0, .ref x0), (1, .int x1), (2, .int x2)]) hl [0, 1, 2] rfl)
def wA_X8_ofSociety_b43 (mc ms kc ks : Nat) (y0 : Int32) (S : sT)  (Q : Int32 → sT → Prop) : Prop :=
Q y0 S
def wA_X8_ofSociety_b0 (mc ms kc ks : Nat) (x0 : Nat) (x1 : Int32) (x2 : Int32) (S : sT)  (Q : Int32 → sT → Prop) : Prop :=
s_K S x0 = 10 ∧
    ∀ S101 : sT, S101 = s_sI S 288 x0 (0 : Int32) →
    w_X8_isSociety x0 x1 S101 (fun x103 S102 =>
    ((¬ x103 = 0 → w_X8_is x2 (0 : Int32) (8 : Int32) S102 (fun x106 S105 =>
    ((x106 = 0 → s_K S105 x0 = 10 ∧
    w_X8_refuse x0 (2 : Int32) S105 (fun x109 S108 =>
    wA_X8_ofSociety_b43 mc ms kc ks x109 S108  Q)) ∧
    (¬ x106 = 0 → s_K S105 x0 = 10 ∧
    ∃ c110 d111 : Nat, kc + c110 ≤ mc ∧ ks + d111 ≤ ms ∧
    wA_X8_ofSocietyNow c110 d111 x0 x1 x2 S105 (fun x113 S112 =>
    wA_X8_ofSociety_b43 mc ms (kc + c110) (ks + d111) x113 S112  Q))))) ∧
    (x103 = 0 → s_K S102 x0 = 10 ∧
    w_X8_refuse x0 (1 : Int32) S102 (fun x115 S114 =>
    Q x115 S114))))
def wA_X8_ofSociety (mc ms : Nat) (x0 : Nat) (x1 : Int32) (x2 : Int32) (S : sT) (Q : Int32 → sT → Prop) : Prop := wA_X8_ofSociety_b0 mc ms 0 0 x0 x1 x2 S Q
def rA_X8_ofSociety (mc ms : Nat) : Room := x_rm 3 70 mc ms
theorem b_X8_ofSociety : x_BV yX8_ofSociety cX8_ofSociety 3 (some .int) 2 := ⟨q_33_13, q_33_11, q_33_12, q_1_5, by decide +kernel⟩
set_option maxHeartbeats 4000000 in
theorem tA_X8_ofSociety_b43 {Q : Int32 → sT → Prop} (C : x_C p s m args c cX8_ofSociety RX8 gg) (hml : c.maxLocals = 3) (hr : meth.sig.returnType = (some .int)) (hlocks : meth.locks = false) {mc ms kc ks : Nat} (hk : kc ≤ mc ∧ ks ≤ ms) {y0 : Int32}  {S : sT}  (h : wA_X8_ofSociety_b43 mc ms kc ks y0 S  Q) : x_X p l e (rA_X8_ofSociety mc ms) s m args below meth c gg 3 kc ks (MQ below (va_Qi Q (fun S1 t => s_Rep gg S1 t.heap) (s_A gg)) args s mc ms (s_A gg)) 43 [] [.int y0] S := by
  unfold wA_X8_ofSociety_b43 at h
  obtain ⟨hx, hb, -⟩ := id C
  intro H locs ls hR hS hl
  refine W.widen (k := mc) (n := ms) hk.1 hk.2 ?_
  exact W.iret (v := y0) hx hb hr (fun t ht hW => ⟨⟨y0, S, rfl, h, x_rt ht hR⟩, hS.F ht⟩) hS.2.2 dX8_ofSociety_43
set_option maxHeartbeats 4000000 in
theorem tA_X8_ofSociety_b0 {Q : Int32 → sT → Prop} (C : x_C p s m args c cX8_ofSociety RX8 gg) (hml : c.maxLocals = 3) (hr : meth.sig.returnType = (some .int)) (hlocks : meth.locks = false) {mc ms kc ks : Nat} (hk : kc ≤ mc ∧ ks ≤ ms) {x0 : Nat} {x1 : Int32} {x2 : Int32}  {S : sT}  (h : wA_X8_ofSociety_b0 mc ms kc ks x0 x1 x2 S  Q) : x_X p l e (rA_X8_ofSociety mc ms) s m args below meth c gg 3 kc ks (MQ below (va_Qi Q (fun S1 t => s_Rep gg S1 t.heap) (s_A gg)) args s mc ms (s_A gg)) 0 [(0, .ref x0), (1, .int x1), (2, .int x2)] [] S := by
  unfold wA_X8_ofSociety_b0 at h
  obtain ⟨hx, hb, -⟩ := id C
  intro H locs ls hR hS hl
  refine lv_aload_n hx hb dX8_ofSociety_0 rfl (lv_at hl 0 rfl) ?_
  refine lv_iconst (v := 0) hx hb dX8_ofSociety_1 (by decide) ?_
  obtain ⟨hK_x0, h⟩ := h
  refine x_p_288 (v := (0 : Int32)) C hR hK_x0 hS q_8_1 dX8_ofSociety_2 (fun H locs hR hS => ?_)
  obtain ⟨S101, eS101⟩ : ∃ z : sT, z = s_sI S 288 x0 (0 : Int32) := ⟨_, rfl⟩
  rw [← eS101] at hR
  replace h := h S101 eS101
  have hK_x0 : s_K S101 x0 = 10 := by rw [eS101]; exact hK_x0
  refine lv_aload_n hx hb dX8_ofSociety_5 rfl (lv_at hl 0 rfl) ?_
  refine lv_iload_n hx hb dX8_ofSociety_6 rfl (lv_at hl 1 rfl) ?_
  refine x_ki (x_runV (As := [.int x1]) (rest := []) C hml hR hS (m_X8_isSociety l gg x0 x1 S101 h) b_X8_isSociety q_12_10 (by rw [hK_x0]; decide) (s_E_9 hK_x0) rfl rfl rfl rfl ⟨Nat.le_of_ble_eq_true rfl, Nat.le_of_ble_eq_true rfl⟩ rfl hl.1 (Nat.le_of_ble_eq_true rfl) dX8_ofSociety_7 ⟨hk.1, hk.2⟩) hS (fun x103 S102 H locs hn hR hS => ?_)
  replace h := hn
  clear hn
  refine lv_if_ne (tgt := 19) hx hb dX8_ofSociety_10 (by decide) (fun hc104 => ?_) (fun hc104 => ?_)
  · replace h := h.1 hc104
    refine lv_iload_n hx hb dX8_ofSociety_19 rfl (lv_at hl 2 rfl) ?_
    refine lv_iconst (v := 0) hx hb dX8_ofSociety_20 (by decide) ?_
    refine lv_bipush (v := 8) hx hb dX8_ofSociety_21 (by decide) ?_
    refine x_ki (x_runS (As := [.int x2, .int (0 : Int32), .int (8 : Int32)]) (rest := []) C hml hR hS (m_X8_is l gg x2 (0 : Int32) (8 : Int32) S102 h) b_X8_is q_8_2 rfl rfl ⟨Nat.le_of_ble_eq_true rfl, Nat.le_of_ble_eq_true rfl⟩ rfl hl.1 (Nat.le_of_ble_eq_true rfl) dX8_ofSociety_23 ⟨hk.1, hk.2⟩) hS (fun x106 S105 H locs hn hR hS => ?_)
    replace h := hn
    clear hn
    refine lv_if_eq (tgt := 38) hx hb dX8_ofSociety_26 (by decide) (fun hc107 => ?_) (fun hc107 => ?_)
    · replace h := h.1 hc107
      refine lv_aload_n hx hb dX8_ofSociety_38 rfl (lv_at hl 0 rfl) ?_
      refine lv_iconst (v := 2) hx hb dX8_ofSociety_39 (by decide) ?_
      obtain ⟨hK_x0, h⟩ := h
      refine x_ki (x_runV (As := [.int (2 : Int32)]) (rest := []) C hml hR hS (m_X8_refuse l gg x0 (2 : Int32) S105 h) b_X8_refuse q_8_5 (by rw [hK_x0]; decide) (s_E_9 hK_x0) rfl rfl rfl rfl ⟨Nat.le_of_ble_eq_true rfl, Nat.le_of_ble_eq_true rfl⟩ rfl hl.1 (Nat.le_of_ble_eq_true rfl) dX8_ofSociety_40 ⟨hk.1, hk.2⟩) hS (fun x109 S108 H locs hn hR hS => ?_)
      replace h := hn
      clear hn
      exact tA_X8_ofSociety_b43 C hml hr hlocks hk  h H locs ls hR hS (lv_sub (l' := []) hl [] rfl)
    · replace h := h.2 hc107
      refine lv_aload_n hx hb dX8_ofSociety_29 rfl (lv_at hl 0 rfl) ?_
      refine lv_iload_n hx hb dX8_ofSociety_30 rfl (lv_at hl 1 rfl) ?_
      refine lv_iload_n hx hb dX8_ofSociety_31 rfl (lv_at hl 2 rfl) ?_
      obtain ⟨hK_x0, h⟩ := h
      obtain ⟨c110, d111, hk1, hk2, h⟩ := h
      refine x_ki (x_runV (As := [.int x1, .int x2]) (rest := []) C hml hR hS (mA_X8_ofSocietyNow l gg c110 d111 x0 x1 x2 S105 h) b_X8_ofSocietyNow q_33_14 (by rw [hK_x0]; decide) (s_E_9 hK_x0) rfl rfl rfl rfl ⟨Nat.le_of_ble_eq_true rfl, Nat.le_of_ble_eq_true rfl⟩ rfl hl.1 (Nat.le_of_ble_eq_true rfl) dX8_ofSociety_32 ⟨hk1, hk2⟩) hS (fun x113 S112 H locs hn hR hS => ?_)
      replace h := hn
      clear hn
      have hk : (kc + c110) ≤ mc ∧ (ks + d111) ≤ ms := ⟨hk1, hk2⟩
      refine lv_goto (tgt := 43) hx hb dX8_ofSociety_35 (by decide) ?_
      exact tA_X8_ofSociety_b43 C hml hr hlocks hk  h H locs ls hR hS (lv_sub (l' := []) hl [] rfl)
  · replace h := h.2 hc104
    refine lv_aload_n hx hb dX8_ofSociety_13 rfl (lv_at hl 0 rfl) ?_
    refine lv_iconst (v := 1) hx hb dX8_ofSociety_14 (by decide) ?_
    obtain ⟨hK_x0, h⟩ := h
    refine x_ki (x_runV (As := [.int (1 : Int32)]) (rest := []) C hml hR hS (m_X8_refuse l gg x0 (1 : Int32) S102 h) b_X8_refuse q_8_5 (by rw [hK_x0]; decide) (s_E_9 hK_x0) rfl rfl rfl rfl ⟨Nat.le_of_ble_eq_true rfl, Nat.le_of_ble_eq_true rfl⟩ rfl hl.1 (Nat.le_of_ble_eq_true rfl) dX8_ofSociety_15 ⟨hk.1, hk.2⟩) hS (fun x115 S114 H locs hn hR hS => ?_)
    replace h := hn
    clear hn
    refine W.widen (k := mc) (n := ms) hk.1 hk.2 ?_
    exact W.iret (v := x115) hx hb hr (fun t ht hW => ⟨⟨x115, S114, rfl, h, x_rt ht hR⟩, hS.F ht⟩) hS.2.2 dX8_ofSociety_18
theorem mA_X8_ofSociety (l : Launch) (gg : sG) (mc ms : Nat) (x0 : Nat) (x1 : Int32) (x2 : Int32) (S : sT) {Q : Int32 → sT → Prop} (h : wA_X8_ofSociety mc ms x0 x1 x2 S Q) : x_Mi l gg yX8_ofSociety (x_ws yX8_ofSociety cX8_ofSociety 3 (some .int)) (rA_X8_ofSociety mc ms) [.ref x0, .int x1, .int x2] S Q mc ms := by
  refine x_ofW (cc := cX8_ofSociety) (own := RX8) (by decide +kernel) rfl (Nat.le_of_ble_eq_true rfl) ?_
  intro p e s m args below meth c C hml hr hlocks hin ht H locs ls hR hS hl
  exact tA_X8_ofSociety_b0 C hml hr hlocks ⟨Nat.zero_le _, Nat.zero_le _⟩ h H locs ls hR hS (lv_sub (l' := [(0, .ref x0), (1, .int x1), (2, .int x2)]) hl [0, 1, 2] rfl)
def wA_X8_waterNow_b62 (mc ms : Nat)  (Q : Int32 → sT → Prop) : Nat → Nat → Nat → Nat → Int32 → Int32 → Int32 → Nat → Int32 → Int32 → sT → Prop
  | 0 => fun _ _ _ _ _ _ _ _ _ _ => False
  | n + 1 => fun kc ks x0 x1 x2 x3 x4 x5 x6 S =>
((x5 ≤ x6 → (kc + 1) ≤ mc ∧ (ks + 7) ≤ ms ∧
    ∀ q102 : Nat, s_fr S q102 →
    ∀ S103 : sT, S103 = s_nw S q102 11 7 →
    s_K S103 x0 = 10 ∧
    ∃ a104 : Nat, s_R S103 289 x0 = some a104 ∧
    s_K S103 a104 = 9 ∧
    ∃ a105 : Nat, s_R S103 258 a104 = some a105 ∧
    s_K S103 a105 = 11 ∧
    vp_in (5 : Int32) (s_N S103 a105) ∧
    ∀ x107 : Int32, x107 = s_B S103 a105 (Int32.toNatClampNeg (5 : Int32)) →
    vp_in (0 : Int32) (s_N S103 q102) ∧
    ∀ S109 : sT, S109 = s_sB S103 q102 (Int32.toNatClampNeg (0 : Int32)) x107 →
    vp_in (1 : Int32) (s_N S109 q102) ∧
    ∀ S111 : sT, S111 = s_sB S109 q102 (Int32.toNatClampNeg (1 : Int32)) x2 →
    ∃ a112 : Nat, s_R S111 289 x0 = some a112 ∧
    s_K S111 a112 = 9 ∧
    ∃ a113 : Nat, s_R S111 258 a112 = some a113 ∧
    s_K S111 a113 = 11 ∧
    vp_in (4 : Int32) (s_N S111 a113) ∧
    ∀ x115 : Int32, x115 = s_B S111 a113 (Int32.toNatClampNeg (4 : Int32)) →
    vp_in (2 : Int32) (s_N S111 q102) ∧
    ∀ S117 : sT, S117 = s_sB S111 q102 (Int32.toNatClampNeg (2 : Int32)) x115 →
    vp_in (3 : Int32) (s_N S117 q102) ∧
    ∀ S119 : sT, S119 = s_sB S117 q102 (Int32.toNatClampNeg (3 : Int32)) x3 →
    ∃ a120 : Nat, s_R S119 289 x0 = some a120 ∧
    s_K S119 a120 = 9 ∧
    ∃ a121 : Nat, s_R S119 258 a120 = some a121 ∧
    s_K S119 a121 = 11 ∧
    vp_in (6 : Int32) (s_N S119 a121) ∧
    ∀ x123 : Int32, x123 = s_B S119 a121 (Int32.toNatClampNeg (6 : Int32)) →
    vp_in (4 : Int32) (s_N S119 q102) ∧
    ∀ S125 : sT, S125 = s_sB S119 q102 (Int32.toNatClampNeg (4 : Int32)) x123 →
    ∃ a126 : Nat, s_R S125 289 x0 = some a126 ∧
    s_K S125 a126 = 9 ∧
    ∃ a127 : Nat, s_R S125 258 a126 = some a127 ∧
    s_K S125 a127 = 11 ∧
    vp_in (7 : Int32) (s_N S125 a127) ∧
    ∀ x129 : Int32, x129 = s_B S125 a127 (Int32.toNatClampNeg (7 : Int32)) →
    vp_in (5 : Int32) (s_N S125 q102) ∧
    ∀ S131 : sT, S131 = s_sB S125 q102 (Int32.toNatClampNeg (5 : Int32)) x129 →
    ∃ a132 : Nat, s_R S131 289 x0 = some a132 ∧
    s_K S131 a132 = 9 ∧
    ∃ a133 : Nat, s_R S131 258 a132 = some a133 ∧
    s_K S131 a133 = 11 ∧
    vp_in (8 : Int32) (s_N S131 a133) ∧
    ∀ x135 : Int32, x135 = s_B S131 a133 (Int32.toNatClampNeg (8 : Int32)) →
    vp_in (6 : Int32) (s_N S131 q102) ∧
    ∀ S137 : sT, S137 = s_sB S131 q102 (Int32.toNatClampNeg (6 : Int32)) x135 →
    vp_in x1 (s_N S137 q102) ∧
    ∀ x139 : Int32, x139 = s_B S137 q102 (Int32.toNatClampNeg x1) →
    Q x139 S137) ∧
    (¬ x5 ≤ x6 → s_K S x4 = 13 ∧
    vp_in x6 (s_N S x4) ∧
    ∃ a141 : Nat, s_P S x4 (Int32.toNatClampNeg x6) = some a141 ∧
    s_K S a141 = 11 ∧
    vp_in (5 : Int32) (s_N S a141) ∧
    ∀ x143 : Int32, x143 = s_B S a141 (Int32.toNatClampNeg (5 : Int32)) →
    ∀ x144 : Int32, x144 = x3 + x143 →
    ∀ x145 : Int32, x145 = x6 + 1 →
    wA_X8_waterNow_b62 mc ms  Q n kc ks x0 x1 x2 x144 x4 x5 x145 S))
def wA_X8_waterNow_b17 (mc ms : Nat)  (Q : Int32 → sT → Prop) : Nat → Nat → Nat → Nat → Int32 → Int32 → Nat → Int32 → Int32 → sT → Prop
  | 0 => fun _ _ _ _ _ _ _ _ _ => False
  | n + 1 => fun kc ks x0 x1 x2 x3 x4 x5 S =>
((x4 ≤ x5 → s_K S x0 = 10 ∧
    ∃ a102 : Nat, s_R S 289 x0 = some a102 ∧
    s_K S a102 = 9 ∧
    ∃ a103 : Nat, s_R S 256 a102 = some a103 ∧
    s_K S a103 = 13 ∧
    ∀ x104 : Int32, x104 = nI (s_N S a103) →
    ∃ n9 : Nat, wA_X8_waterNow_b62 mc ms  Q n9 kc ks x0 x1 x2 (0 : Int32) a103 x104 (0 : Int32) S) ∧
    (¬ x4 ≤ x5 → s_K S x3 = 13 ∧
    vp_in x5 (s_N S x3) ∧
    ∃ a106 : Nat, s_P S x3 (Int32.toNatClampNeg x5) = some a106 ∧
    s_K S a106 = 11 ∧
    vp_in (1 : Int32) (s_N S a106) ∧
    ∀ x108 : Int32, x108 = s_B S a106 (Int32.toNatClampNeg (1 : Int32)) →
    ∀ x109 : Int32, x109 = x2 + x108 →
    ∀ x110 : Int32, x110 = x5 + 1 →
    wA_X8_waterNow_b17 mc ms  Q n kc ks x0 x1 x109 x3 x4 x110 S))
def wA_X8_waterNow_b0 (mc ms kc ks : Nat) (x0 : Nat) (x1 : Int32) (S : sT)  (Q : Int32 → sT → Prop) : Prop :=
s_K S x0 = 10 ∧
    ∃ a101 : Nat, s_R S 289 x0 = some a101 ∧
    s_K S a101 = 9 ∧
    ∃ a102 : Nat, s_R S 257 a101 = some a102 ∧
    s_K S a102 = 13 ∧
    ∀ x103 : Int32, x103 = nI (s_N S a102) →
    ∃ n9 : Nat, wA_X8_waterNow_b17 mc ms  Q n9 kc ks x0 x1 (0 : Int32) a102 x103 (0 : Int32) S
def wA_X8_waterNow (mc ms : Nat) (x0 : Nat) (x1 : Int32) (S : sT) (Q : Int32 → sT → Prop) : Prop := wA_X8_waterNow_b0 mc ms 0 0 x0 x1 S Q
def rA_X8_waterNow (mc ms : Nat) : Room := x_rm 0 0 mc ms
theorem b_X8_waterNow : x_BV yX8_waterNow cX8_waterNow 8 (some .int) 1 := ⟨q_35_2, q_35_0, q_35_1, q_1_5, by decide +kernel⟩
set_option maxHeartbeats 4000000 in
theorem tA_X8_waterNow_b62 {Q : Int32 → sT → Prop} (C : x_C p s m args c cX8_waterNow RX8 gg) (hml : c.maxLocals = 8) (hr : meth.sig.returnType = (some .int)) (hlocks : meth.locks = false) {mc ms : Nat}   : ∀ (n : Nat) (kc ks : Nat) (x0 : Nat) (x1 : Int32) (x2 : Int32) (x3 : Int32) (x4 : Nat) (x5 : Int32) (x6 : Int32) (S : sT), kc ≤ mc ∧ ks ≤ ms → wA_X8_waterNow_b62 mc ms  Q n kc ks x0 x1 x2 x3 x4 x5 x6 S → x_X p l e (rA_X8_waterNow mc ms) s m args below meth c gg 8 kc ks (MQ below (va_Qi Q (fun S1 t => s_Rep gg S1 t.heap) (s_A gg)) args s mc ms (s_A gg)) 62 [(0, .ref x0), (1, .int x1), (2, .int x2), (3, .int x3), (4, .ref x4), (5, .int x5), (6, .int x6)] [] S := by
  obtain ⟨hx, hb, -⟩ := id C
  intro n
  induction n with
  | zero => intro kc ks x0 x1 x2 x3 x4 x5 x6 S hk h; exact absurd h id
  | succ n ih =>
    intro kc ks x0 x1 x2 x3 x4 x5 x6 S hk h H locs ls hR hS hl
    unfold wA_X8_waterNow_b62 at h
    refine lv_iload hx hb dX8_waterNow_62 (lv_at hl 6 rfl) ?_
    refine lv_iload hx hb dX8_waterNow_64 (lv_at hl 5 rfl) ?_
    refine lv_icmp_ge (tgt := 89) hx hb dX8_waterNow_66 (by decide) (fun hc101 => ?_) (fun hc101 => ?_)
    · replace h := h.1 hc101
      refine lv_bipush (v := 7) hx hb dX8_waterNow_89 (by decide) ?_
      obtain ⟨hk1, hk2, h⟩ := h
      refine x_newi (N1 := 7) C hR hS q_3_13 (by decide) (by decide) (by decide) hk1 hk2 dX8_waterNow_91 (fun q102 H hq9 hq hR hS => ?_)
      replace h := h q102 hq
      have hk : (kc + 1) ≤ mc ∧ (ks + 7) ≤ ms := ⟨hk1, hk2⟩
      obtain ⟨S103, eS103⟩ : ∃ z : sT, z = s_nw S q102 11 7 := ⟨_, rfl⟩
      rw [← eS103] at hR
      replace h := h S103 eS103
      have hK_q102 : s_K S103 q102 = 11 := by rw [eS103]; exact s_nw_K
      refine lv_dup hx hb dX8_waterNow_93 rfl ?_
      refine lv_iconst (v := 0) hx hb dX8_waterNow_94 (by decide) ?_
      refine lv_aload_n hx hb dX8_waterNow_95 rfl (lv_at hl 0 rfl) ?_
      obtain ⟨hK_x0, h⟩ := h
      refine x_g_289 C hR hK_x0 q_3_8 dX8_waterNow_96 ?_
      obtain ⟨a104, ea104, h⟩ := h
      refine x_some ea104 ?_
      obtain ⟨hK_a104, h⟩ := h
      refine x_gN_258 C hR hK_a104 (xn_0 C) dX8_waterNow_99 ?_
      obtain ⟨a105, ea105, h⟩ := h
      refine x_some ea105 ?_
      refine lv_iconst (v := 5) hx hb dX8_waterNow_102 (by decide) ?_
      obtain ⟨hK_a105, h⟩ := h
      obtain ⟨hi106, h⟩ := h
      refine x_iald C hR hK_a105 hi106 dX8_waterNow_103 ?_
      refine lv_topi (fun x107 ex107 => ?_)
      replace h := h x107 ex107
      obtain ⟨hi108, h⟩ := h
      refine x_iast C hR hK_q102 hS hi108 dX8_waterNow_104 (fun H locs hR hS => ?_)
      obtain ⟨S109, eS109⟩ : ∃ z : sT, z = s_sB S103 q102 (Int32.toNatClampNeg (0 : Int32)) x107 := ⟨_, rfl⟩
      rw [← eS109] at hR
      replace h := h S109 eS109
      have hK_q102 : s_K S109 q102 = 11 := by rw [eS109]; exact hK_q102
      have hK_x0 : s_K S109 x0 = 10 := by rw [eS109]; exact hK_x0
      have hK_a104 : s_K S109 a104 = 9 := by rw [eS109]; exact hK_a104
      have hK_a105 : s_K S109 a105 = 11 := by rw [eS109]; exact hK_a105
      refine lv_dup hx hb dX8_waterNow_105 rfl ?_
      refine lv_iconst (v := 1) hx hb dX8_waterNow_106 (by decide) ?_
      refine lv_iload_n hx hb dX8_waterNow_107 rfl (lv_at hl 2 rfl) ?_
      obtain ⟨hi110, h⟩ := h
      refine x_iast C hR hK_q102 hS hi110 dX8_waterNow_108 (fun H locs hR hS => ?_)
      obtain ⟨S111, eS111⟩ : ∃ z : sT, z = s_sB S109 q102 (Int32.toNatClampNeg (1 : Int32)) x2 := ⟨_, rfl⟩
      rw [← eS111] at hR
      replace h := h S111 eS111
      have hK_q102 : s_K S111 q102 = 11 := by rw [eS111]; exact hK_q102
      have hK_x0 : s_K S111 x0 = 10 := by rw [eS111]; exact hK_x0
      have hK_a104 : s_K S111 a104 = 9 := by rw [eS111]; exact hK_a104
      have hK_a105 : s_K S111 a105 = 11 := by rw [eS111]; exact hK_a105
      refine lv_dup hx hb dX8_waterNow_109 rfl ?_
      refine lv_iconst (v := 2) hx hb dX8_waterNow_110 (by decide) ?_
      refine lv_aload_n hx hb dX8_waterNow_111 rfl (lv_at hl 0 rfl) ?_
      refine x_g_289 C hR hK_x0 q_3_8 dX8_waterNow_112 ?_
      obtain ⟨a112, ea112, h⟩ := h
      refine x_some ea112 ?_
      obtain ⟨hK_a112, h⟩ := h
      refine x_gN_258 C hR hK_a112 (xn_0 C) dX8_waterNow_115 ?_
      obtain ⟨a113, ea113, h⟩ := h
      refine x_some ea113 ?_
      refine lv_iconst (v := 4) hx hb dX8_waterNow_118 (by decide) ?_
      obtain ⟨hK_a113, h⟩ := h
      obtain ⟨hi114, h⟩ := h
      refine x_iald C hR hK_a113 hi114 dX8_waterNow_119 ?_
      refine lv_topi (fun x115 ex115 => ?_)
      replace h := h x115 ex115
      obtain ⟨hi116, h⟩ := h
      refine x_iast C hR hK_q102 hS hi116 dX8_waterNow_120 (fun H locs hR hS => ?_)
      obtain ⟨S117, eS117⟩ : ∃ z : sT, z = s_sB S111 q102 (Int32.toNatClampNeg (2 : Int32)) x115 := ⟨_, rfl⟩
      rw [← eS117] at hR
      replace h := h S117 eS117
      have hK_q102 : s_K S117 q102 = 11 := by rw [eS117]; exact hK_q102
      have hK_x0 : s_K S117 x0 = 10 := by rw [eS117]; exact hK_x0
      have hK_a104 : s_K S117 a104 = 9 := by rw [eS117]; exact hK_a104
      have hK_a105 : s_K S117 a105 = 11 := by rw [eS117]; exact hK_a105
      have hK_a112 : s_K S117 a112 = 9 := by rw [eS117]; exact hK_a112
      have hK_a113 : s_K S117 a113 = 11 := by rw [eS117]; exact hK_a113
      refine lv_dup hx hb dX8_waterNow_121 rfl ?_
      refine lv_iconst (v := 3) hx hb dX8_waterNow_122 (by decide) ?_
      refine lv_iload_n hx hb dX8_waterNow_123 rfl (lv_at hl 3 rfl) ?_
      obtain ⟨hi118, h⟩ := h
      refine x_iast C hR hK_q102 hS hi118 dX8_waterNow_124 (fun H locs hR hS => ?_)
      obtain ⟨S119, eS119⟩ : ∃ z : sT, z = s_sB S117 q102 (Int32.toNatClampNeg (3 : Int32)) x3 := ⟨_, rfl⟩
      rw [← eS119] at hR
      replace h := h S119 eS119
      have hK_q102 : s_K S119 q102 = 11 := by rw [eS119]; exact hK_q102
      have hK_x0 : s_K S119 x0 = 10 := by rw [eS119]; exact hK_x0
      have hK_a104 : s_K S119 a104 = 9 := by rw [eS119]; exact hK_a104
      have hK_a105 : s_K S119 a105 = 11 := by rw [eS119]; exact hK_a105
      have hK_a112 : s_K S119 a112 = 9 := by rw [eS119]; exact hK_a112
      have hK_a113 : s_K S119 a113 = 11 := by rw [eS119]; exact hK_a113
      refine lv_dup hx hb dX8_waterNow_125 rfl ?_
      refine lv_iconst (v := 4) hx hb dX8_waterNow_126 (by decide) ?_
      refine lv_aload_n hx hb dX8_waterNow_127 rfl (lv_at hl 0 rfl) ?_
      refine x_g_289 C hR hK_x0 q_3_8 dX8_waterNow_128 ?_
      obtain ⟨a120, ea120, h⟩ := h
      refine x_some ea120 ?_
      obtain ⟨hK_a120, h⟩ := h
      refine x_gN_258 C hR hK_a120 (xn_0 C) dX8_waterNow_131 ?_
      obtain ⟨a121, ea121, h⟩ := h
      refine x_some ea121 ?_
      refine lv_bipush (v := 6) hx hb dX8_waterNow_134 (by decide) ?_
      obtain ⟨hK_a121, h⟩ := h
      obtain ⟨hi122, h⟩ := h
      refine x_iald C hR hK_a121 hi122 dX8_waterNow_136 ?_
      refine lv_topi (fun x123 ex123 => ?_)
      replace h := h x123 ex123
      obtain ⟨hi124, h⟩ := h
      refine x_iast C hR hK_q102 hS hi124 dX8_waterNow_137 (fun H locs hR hS => ?_)
      obtain ⟨S125, eS125⟩ : ∃ z : sT, z = s_sB S119 q102 (Int32.toNatClampNeg (4 : Int32)) x123 := ⟨_, rfl⟩
      rw [← eS125] at hR
      replace h := h S125 eS125
      have hK_q102 : s_K S125 q102 = 11 := by rw [eS125]; exact hK_q102
      have hK_x0 : s_K S125 x0 = 10 := by rw [eS125]; exact hK_x0
      have hK_a104 : s_K S125 a104 = 9 := by rw [eS125]; exact hK_a104
      have hK_a105 : s_K S125 a105 = 11 := by rw [eS125]; exact hK_a105
      have hK_a112 : s_K S125 a112 = 9 := by rw [eS125]; exact hK_a112
      have hK_a113 : s_K S125 a113 = 11 := by rw [eS125]; exact hK_a113
      have hK_a120 : s_K S125 a120 = 9 := by rw [eS125]; exact hK_a120
      have hK_a121 : s_K S125 a121 = 11 := by rw [eS125]; exact hK_a121
      refine lv_dup hx hb dX8_waterNow_138 rfl ?_
      refine lv_iconst (v := 5) hx hb dX8_waterNow_139 (by decide) ?_
      refine lv_aload_n hx hb dX8_waterNow_140 rfl (lv_at hl 0 rfl) ?_
      refine x_g_289 C hR hK_x0 q_3_8 dX8_waterNow_141 ?_
      obtain ⟨a126, ea126, h⟩ := h
      refine x_some ea126 ?_
      obtain ⟨hK_a126, h⟩ := h
      refine x_gN_258 C hR hK_a126 (xn_0 C) dX8_waterNow_144 ?_
      obtain ⟨a127, ea127, h⟩ := h
      refine x_some ea127 ?_
      refine lv_bipush (v := 7) hx hb dX8_waterNow_147 (by decide) ?_
      obtain ⟨hK_a127, h⟩ := h
      obtain ⟨hi128, h⟩ := h
      refine x_iald C hR hK_a127 hi128 dX8_waterNow_149 ?_
      refine lv_topi (fun x129 ex129 => ?_)
      replace h := h x129 ex129
      obtain ⟨hi130, h⟩ := h
      refine x_iast C hR hK_q102 hS hi130 dX8_waterNow_150 (fun H locs hR hS => ?_)
      obtain ⟨S131, eS131⟩ : ∃ z : sT, z = s_sB S125 q102 (Int32.toNatClampNeg (5 : Int32)) x129 := ⟨_, rfl⟩
      rw [← eS131] at hR
      replace h := h S131 eS131
      have hK_q102 : s_K S131 q102 = 11 := by rw [eS131]; exact hK_q102
      have hK_x0 : s_K S131 x0 = 10 := by rw [eS131]; exact hK_x0
      have hK_a104 : s_K S131 a104 = 9 := by rw [eS131]; exact hK_a104
      have hK_a105 : s_K S131 a105 = 11 := by rw [eS131]; exact hK_a105
      have hK_a112 : s_K S131 a112 = 9 := by rw [eS131]; exact hK_a112
      have hK_a113 : s_K S131 a113 = 11 := by rw [eS131]; exact hK_a113
      have hK_a120 : s_K S131 a120 = 9 := by rw [eS131]; exact hK_a120
      have hK_a121 : s_K S131 a121 = 11 := by rw [eS131]; exact hK_a121
      have hK_a126 : s_K S131 a126 = 9 := by rw [eS131]; exact hK_a126
      have hK_a127 : s_K S131 a127 = 11 := by rw [eS131]; exact hK_a127
      refine lv_dup hx hb dX8_waterNow_151 rfl ?_
      refine lv_bipush (v := 6) hx hb dX8_waterNow_152 (by decide) ?_
      refine lv_aload_n hx hb dX8_waterNow_154 rfl (lv_at hl 0 rfl) ?_
      refine x_g_289 C hR hK_x0 q_3_8 dX8_waterNow_155 ?_
      obtain ⟨a132, ea132, h⟩ := h
      refine x_some ea132 ?_
      obtain ⟨hK_a132, h⟩ := h
      refine x_gN_258 C hR hK_a132 (xn_0 C) dX8_waterNow_158 ?_
      obtain ⟨a133, ea133, h⟩ := h
      refine x_some ea133 ?_
      refine lv_bipush (v := 8) hx hb dX8_waterNow_161 (by decide) ?_
      obtain ⟨hK_a133, h⟩ := h
      obtain ⟨hi134, h⟩ := h
      refine x_iald C hR hK_a133 hi134 dX8_waterNow_163 ?_
      refine lv_topi (fun x135 ex135 => ?_)
      replace h := h x135 ex135
      obtain ⟨hi136, h⟩ := h
      refine x_iast C hR hK_q102 hS hi136 dX8_waterNow_164 (fun H locs hR hS => ?_)
      obtain ⟨S137, eS137⟩ : ∃ z : sT, z = s_sB S131 q102 (Int32.toNatClampNeg (6 : Int32)) x135 := ⟨_, rfl⟩
      rw [← eS137] at hR
      replace h := h S137 eS137
      have hK_q102 : s_K S137 q102 = 11 := by rw [eS137]; exact hK_q102
      have hK_x0 : s_K S137 x0 = 10 := by rw [eS137]; exact hK_x0
      have hK_a104 : s_K S137 a104 = 9 := by rw [eS137]; exact hK_a104
      have hK_a105 : s_K S137 a105 = 11 := by rw [eS137]; exact hK_a105
      have hK_a112 : s_K S137 a112 = 9 := by rw [eS137]; exact hK_a112
      have hK_a113 : s_K S137 a113 = 11 := by rw [eS137]; exact hK_a113
      have hK_a120 : s_K S137 a120 = 9 := by rw [eS137]; exact hK_a120
      have hK_a121 : s_K S137 a121 = 11 := by rw [eS137]; exact hK_a121
      have hK_a126 : s_K S137 a126 = 9 := by rw [eS137]; exact hK_a126
      have hK_a127 : s_K S137 a127 = 11 := by rw [eS137]; exact hK_a127
      have hK_a132 : s_K S137 a132 = 9 := by rw [eS137]; exact hK_a132
      have hK_a133 : s_K S137 a133 = 11 := by rw [eS137]; exact hK_a133
      refine lv_astore (lv' := [(4, .ref q102), (0, .ref x0), (1, .int x1), (2, .int x2), (3, .int x3), (5, .int x5), (6, .int x6)]) hx hb dX8_waterNow_165 hl (by decide) rfl (fun ls hl => ?_)
      refine lv_aload hx hb dX8_waterNow_167 (lv_at hl 0 rfl) ?_
      refine lv_iload_n hx hb dX8_waterNow_169 rfl (lv_at hl 2 rfl) ?_
      obtain ⟨hi138, h⟩ := h
      refine x_iald C hR hK_q102 hi138 dX8_waterNow_170 ?_
      refine lv_topi (fun x139 ex139 => ?_)
      replace h := h x139 ex139
      refine W.widen (k := mc) (n := ms) hk.1 hk.2 ?_
      exact W.iret (v := x139) hx hb hr (fun t ht hW => ⟨⟨x139, S137, rfl, h, x_rt ht hR⟩, hS.F ht⟩) hS.2.2 dX8_waterNow_171
    · replace h := h.2 hc101
      refine lv_aload hx hb dX8_waterNow_69 (lv_at hl 4 rfl) ?_
      refine lv_iload hx hb dX8_waterNow_71 (lv_at hl 6 rfl) ?_
      obtain ⟨hK_x4, h⟩ := h
      obtain ⟨hi140, a141, ea141, h⟩ := h
      refine x_aald13 C hR hK_x4 hi140 dX8_waterNow_73 ?_
      refine x_some ea141 ?_
      refine lv_astore (lv' := [(7, .ref a141), (0, .ref x0), (1, .int x1), (2, .int x2), (3, .int x3), (4, .ref x4), (5, .int x5), (6, .int x6)]) hx hb dX8_waterNow_74 hl (by decide) rfl (fun ls hl => ?_)
      refine lv_iload_n hx hb dX8_waterNow_76 rfl (lv_at hl 4 rfl) ?_
      refine lv_aload hx hb dX8_waterNow_77 (lv_at hl 0 rfl) ?_
      refine lv_iconst (v := 5) hx hb dX8_waterNow_79 (by decide) ?_
      obtain ⟨hK_a141, h⟩ := h
      obtain ⟨hi142, h⟩ := h
      refine x_iald C hR hK_a141 hi142 dX8_waterNow_80 ?_
      refine lv_topi (fun x143 ex143 => ?_)
      replace h := h x143 ex143
      refine lv_iadd hx hb dX8_waterNow_81 ?_
      refine lv_topi (fun x144 ex144 => ?_)
      replace h := h x144 ex144
      refine lv_istore_n (lv' := [(3, .int x144), (7, .ref a141), (0, .ref x0), (1, .int x1), (2, .int x2), (4, .ref x4), (5, .int x5), (6, .int x6)]) hx hb dX8_waterNow_82 rfl hl (by decide) rfl (fun ls hl => ?_)
      obtain ⟨x145, ex145⟩ : ∃ z : Int32, z = x6 + 1 := ⟨_, rfl⟩
      replace h := h x145 ex145
      refine lv_iinc (v := x145) (lv' := [(6, .int x145), (3, .int x144), (7, .ref a141), (0, .ref x0), (1, .int x1), (2, .int x2), (4, .ref x4), (5, .int x5)]) hx hb dX8_waterNow_83 hl (k := 7) rfl (by rw [ex145]; rfl) (by decide) rfl (fun ls hl => ?_)
      refine lv_goto (tgt := 62) hx hb dX8_waterNow_86 (by decide) ?_
      exact ih kc ks x0 x1 x2 x144 x4 x5 x145 S hk h H locs ls hR hS (lv_sub (l' := [(0, .ref x0), (1, .int x1), (2, .int x2), (3, .int x144), (4, .ref x4), (5, .int x5), (6, .int x145)]) hl [3, 4, 5, 1, 6, 7, 0] rfl)
set_option maxHeartbeats 4000000 in
theorem tA_X8_waterNow_b17 {Q : Int32 → sT → Prop} (C : x_C p s m args c cX8_waterNow RX8 gg) (hml : c.maxLocals = 8) (hr : meth.sig.returnType = (some .int)) (hlocks : meth.locks = false) {mc ms : Nat}   : ∀ (n : Nat) (kc ks : Nat) (x0 : Nat) (x1 : Int32) (x2 : Int32) (x3 : Nat) (x4 : Int32) (x5 : Int32) (S : sT), kc ≤ mc ∧ ks ≤ ms → wA_X8_waterNow_b17 mc ms  Q n kc ks x0 x1 x2 x3 x4 x5 S → x_X p l e (rA_X8_waterNow mc ms) s m args below meth c gg 8 kc ks (MQ below (va_Qi Q (fun S1 t => s_Rep gg S1 t.heap) (s_A gg)) args s mc ms (s_A gg)) 17 [(0, .ref x0), (1, .int x1), (2, .int x2), (3, .ref x3), (4, .int x4), (5, .int x5)] [] S := by
  obtain ⟨hx, hb, -⟩ := id C
  intro n
  induction n with
  | zero => intro kc ks x0 x1 x2 x3 x4 x5 S hk h; exact absurd h id
  | succ n ih =>
    intro kc ks x0 x1 x2 x3 x4 x5 S hk h H locs ls hR hS hl
    unfold wA_X8_waterNow_b17 at h
    refine lv_iload hx hb dX8_waterNow_17 (lv_at hl 5 rfl) ?_
    refine lv_iload hx hb dX8_waterNow_19 (lv_at hl 4 rfl) ?_
    refine lv_icmp_ge (tgt := 43) hx hb dX8_waterNow_21 (by decide) (fun hc101 => ?_) (fun hc101 => ?_)
    · replace h := h.1 hc101
      refine lv_iconst (v := 0) hx hb dX8_waterNow_43 (by decide) ?_
      refine lv_istore_n (lv' := [(3, .int (0 : Int32)), (0, .ref x0), (1, .int x1), (2, .int x2), (4, .int x4), (5, .int x5)]) hx hb dX8_waterNow_44 rfl hl (by decide) rfl (fun ls hl => ?_)
      refine lv_aload_n hx hb dX8_waterNow_45 rfl (lv_at hl 1 rfl) ?_
      obtain ⟨hK_x0, h⟩ := h
      refine x_g_289 C hR hK_x0 q_3_8 dX8_waterNow_46 ?_
      obtain ⟨a102, ea102, h⟩ := h
      refine x_some ea102 ?_
      obtain ⟨hK_a102, h⟩ := h
      refine x_gN_256 C hR hK_a102 (xn_2 C) dX8_waterNow_49 ?_
      obtain ⟨a103, ea103, h⟩ := h
      refine x_some ea103 ?_
      refine lv_astore (lv' := [(4, .ref a103), (3, .int (0 : Int32)), (0, .ref x0), (1, .int x1), (2, .int x2), (5, .int x5)]) hx hb dX8_waterNow_52 hl (by decide) rfl (fun ls hl => ?_)
      refine lv_aload hx hb dX8_waterNow_54 (lv_at hl 0 rfl) ?_
      obtain ⟨hK_a103, h⟩ := h
      refine x_alen13 C hR hK_a103 dX8_waterNow_56 ?_
      refine lv_topi (fun x104 ex104 => ?_)
      replace h := h x104 ex104
      refine lv_istore (lv' := [(5, .int x104), (4, .ref a103), (3, .int (0 : Int32)), (0, .ref x0), (1, .int x1), (2, .int x2)]) hx hb dX8_waterNow_57 hl (by decide) rfl (fun ls hl => ?_)
      refine lv_iconst (v := 0) hx hb dX8_waterNow_59 (by decide) ?_
      refine lv_istore (lv' := [(6, .int (0 : Int32)), (5, .int x104), (4, .ref a103), (3, .int (0 : Int32)), (0, .ref x0), (1, .int x1), (2, .int x2)]) hx hb dX8_waterNow_60 hl (by decide) rfl (fun ls hl => ?_)
      obtain ⟨n9, h⟩ := h
      exact tA_X8_waterNow_b62 C hml hr hlocks  n9 kc ks x0 x1 x2 (0 : Int32) a103 x104 (0 : Int32) S hk h H locs ls hR hS (lv_sub (l' := [(0, .ref x0), (1, .int x1), (2, .int x2), (3, .int (0 : Int32)), (4, .ref a103), (5, .int x104), (6, .int (0 : Int32))]) hl [4, 5, 6, 3, 2, 1, 0] rfl)
    · replace h := h.2 hc101
      refine lv_aload_n hx hb dX8_waterNow_24 rfl (lv_at hl 3 rfl) ?_
      refine lv_iload hx hb dX8_waterNow_25 (lv_at hl 5 rfl) ?_
      obtain ⟨hK_x3, h⟩ := h
      obtain ⟨hi105, a106, ea106, h⟩ := h
      refine x_aald13 C hR hK_x3 hi105 dX8_waterNow_27 ?_
      refine x_some ea106 ?_
      refine lv_astore (lv' := [(6, .ref a106), (0, .ref x0), (1, .int x1), (2, .int x2), (3, .ref x3), (4, .int x4), (5, .int x5)]) hx hb dX8_waterNow_28 hl (by decide) rfl (fun ls hl => ?_)
      refine lv_iload_n hx hb dX8_waterNow_30 rfl (lv_at hl 3 rfl) ?_
      refine lv_aload hx hb dX8_waterNow_31 (lv_at hl 0 rfl) ?_
      refine lv_iconst (v := 1) hx hb dX8_waterNow_33 (by decide) ?_
      obtain ⟨hK_a106, h⟩ := h
      obtain ⟨hi107, h⟩ := h
      refine x_iald C hR hK_a106 hi107 dX8_waterNow_34 ?_
      refine lv_topi (fun x108 ex108 => ?_)
      replace h := h x108 ex108
      refine lv_iadd hx hb dX8_waterNow_35 ?_
      refine lv_topi (fun x109 ex109 => ?_)
      replace h := h x109 ex109
      refine lv_istore_n (lv' := [(2, .int x109), (6, .ref a106), (0, .ref x0), (1, .int x1), (3, .ref x3), (4, .int x4), (5, .int x5)]) hx hb dX8_waterNow_36 rfl hl (by decide) rfl (fun ls hl => ?_)
      obtain ⟨x110, ex110⟩ : ∃ z : Int32, z = x5 + 1 := ⟨_, rfl⟩
      replace h := h x110 ex110
      refine lv_iinc (v := x110) (lv' := [(5, .int x110), (2, .int x109), (6, .ref a106), (0, .ref x0), (1, .int x1), (3, .ref x3), (4, .int x4)]) hx hb dX8_waterNow_37 hl (k := 6) rfl (by rw [ex110]; rfl) (by decide) rfl (fun ls hl => ?_)
      refine lv_goto (tgt := 17) hx hb dX8_waterNow_40 (by decide) ?_
      exact ih kc ks x0 x1 x109 x3 x4 x110 S hk h H locs ls hR hS (lv_sub (l' := [(0, .ref x0), (1, .int x1), (2, .int x109), (3, .ref x3), (4, .int x4), (5, .int x110)]) hl [3, 4, 1, 5, 6, 0] rfl)
set_option maxHeartbeats 4000000 in
theorem tA_X8_waterNow_b0 {Q : Int32 → sT → Prop} (C : x_C p s m args c cX8_waterNow RX8 gg) (hml : c.maxLocals = 8) (hr : meth.sig.returnType = (some .int)) (hlocks : meth.locks = false) {mc ms kc ks : Nat} (hk : kc ≤ mc ∧ ks ≤ ms) {x0 : Nat} {x1 : Int32}  {S : sT}  (h : wA_X8_waterNow_b0 mc ms kc ks x0 x1 S  Q) : x_X p l e (rA_X8_waterNow mc ms) s m args below meth c gg 8 kc ks (MQ below (va_Qi Q (fun S1 t => s_Rep gg S1 t.heap) (s_A gg)) args s mc ms (s_A gg)) 0 [(0, .ref x0), (1, .int x1)] [] S := by
  unfold wA_X8_waterNow_b0 at h
  obtain ⟨hx, hb, -⟩ := id C
  intro H locs ls hR hS hl
  refine lv_iconst (v := 0) hx hb dX8_waterNow_0 (by decide) ?_
  refine lv_istore_n (lv' := [(2, .int (0 : Int32)), (0, .ref x0), (1, .int x1)]) hx hb dX8_waterNow_1 rfl hl (by decide) rfl (fun ls hl => ?_)
  refine lv_aload_n hx hb dX8_waterNow_2 rfl (lv_at hl 1 rfl) ?_
  obtain ⟨hK_x0, h⟩ := h
  refine x_g_289 C hR hK_x0 q_3_8 dX8_waterNow_3 ?_
  obtain ⟨a101, ea101, h⟩ := h
  refine x_some ea101 ?_
  obtain ⟨hK_a101, h⟩ := h
  refine x_gN_257 C hR hK_a101 (xn_1 C) dX8_waterNow_6 ?_
  obtain ⟨a102, ea102, h⟩ := h
  refine x_some ea102 ?_
  refine lv_astore_n (lv' := [(3, .ref a102), (2, .int (0 : Int32)), (0, .ref x0), (1, .int x1)]) hx hb dX8_waterNow_9 rfl hl (by decide) rfl (fun ls hl => ?_)
  refine lv_aload_n hx hb dX8_waterNow_10 rfl (lv_at hl 0 rfl) ?_
  obtain ⟨hK_a102, h⟩ := h
  refine x_alen13 C hR hK_a102 dX8_waterNow_11 ?_
  refine lv_topi (fun x103 ex103 => ?_)
  replace h := h x103 ex103
  refine lv_istore (lv' := [(4, .int x103), (3, .ref a102), (2, .int (0 : Int32)), (0, .ref x0), (1, .int x1)]) hx hb dX8_waterNow_12 hl (by decide) rfl (fun ls hl => ?_)
  refine lv_iconst (v := 0) hx hb dX8_waterNow_14 (by decide) ?_
  refine lv_istore (lv' := [(5, .int (0 : Int32)), (4, .int x103), (3, .ref a102), (2, .int (0 : Int32)), (0, .ref x0), (1, .int x1)]) hx hb dX8_waterNow_15 hl (by decide) rfl (fun ls hl => ?_)
  obtain ⟨n9, h⟩ := h
  exact tA_X8_waterNow_b17 C hml hr hlocks  n9 kc ks x0 x1 (0 : Int32) a102 x103 (0 : Int32) S hk h H locs ls hR hS (lv_sub (l' := [(0, .ref x0), (1, .int x1), (2, .int (0 : Int32)), (3, .ref a102), (4, .int x103), (5, .int (0 : Int32))]) hl [4, 5, 3, 2, 1, 0] rfl)
theorem mA_X8_waterNow (l : Launch) (gg : sG) (mc ms : Nat) (x0 : Nat) (x1 : Int32) (S : sT) {Q : Int32 → sT → Prop} (h : wA_X8_waterNow mc ms x0 x1 S Q) : x_Mi l gg yX8_waterNow (x_ws yX8_waterNow cX8_waterNow 8 (some .int)) (rA_X8_waterNow mc ms) [.ref x0, .int x1] S Q mc ms := by
  refine x_ofW (cc := cX8_waterNow) (own := RX8) (by decide +kernel) rfl (Nat.le_of_ble_eq_true rfl) ?_
  intro p e s m args below meth c C hml hr hlocks hin ht H locs ls hR hS hl
  exact tA_X8_waterNow_b0 C hml hr hlocks ⟨Nat.zero_le _, Nat.zero_le _⟩ h H locs ls hR hS (lv_sub (l' := [(0, .ref x0), (1, .int x1)]) hl [0, 1] rfl)
def wA_X8_water_b28 (mc ms kc ks : Nat) (y0 : Int32) (S : sT)  (Q : Int32 → sT → Prop) : Prop :=
Q y0 S
def wA_X8_water_b0 (mc ms kc ks : Nat) (x0 : Nat) (x1 : Int32) (S : sT)  (Q : Int32 → sT → Prop) : Prop :=
s_K S x0 = 10 ∧
    ∀ S101 : sT, S101 = s_sI S 288 x0 (0 : Int32) →
    w_X8_is x1 (0 : Int32) (6 : Int32) S101 (fun x103 S102 =>
    ((x103 = 0 → s_K S102 x0 = 10 ∧
    w_X8_refuse x0 (1 : Int32) S102 (fun x106 S105 =>
    wA_X8_water_b28 mc ms kc ks x106 S105  Q)) ∧
    (¬ x103 = 0 → s_K S102 x0 = 10 ∧
    ∃ c107 d108 : Nat, kc + c107 ≤ mc ∧ ks + d108 ≤ ms ∧
    wA_X8_waterNow c107 d108 x0 x1 S102 (fun x110 S109 =>
    wA_X8_water_b28 mc ms (kc + c107) (ks + d108) x110 S109  Q))))
def wA_X8_water (mc ms : Nat) (x0 : Nat) (x1 : Int32) (S : sT) (Q : Int32 → sT → Prop) : Prop := wA_X8_water_b0 mc ms 0 0 x0 x1 S Q
def rA_X8_water (mc ms : Nat) : Room := x_rm 1 27 mc ms
theorem b_X8_water : x_BV yX8_water cX8_water 2 (some .int) 1 := ⟨q_34_22, q_34_20, q_34_21, q_1_5, by decide +kernel⟩
set_option maxHeartbeats 4000000 in
theorem tA_X8_water_b28 {Q : Int32 → sT → Prop} (C : x_C p s m args c cX8_water RX8 gg) (hml : c.maxLocals = 2) (hr : meth.sig.returnType = (some .int)) (hlocks : meth.locks = false) {mc ms kc ks : Nat} (hk : kc ≤ mc ∧ ks ≤ ms) {y0 : Int32}  {S : sT}  (h : wA_X8_water_b28 mc ms kc ks y0 S  Q) : x_X p l e (rA_X8_water mc ms) s m args below meth c gg 2 kc ks (MQ below (va_Qi Q (fun S1 t => s_Rep gg S1 t.heap) (s_A gg)) args s mc ms (s_A gg)) 28 [] [.int y0] S := by
  unfold wA_X8_water_b28 at h
  obtain ⟨hx, hb, -⟩ := id C
  intro H locs ls hR hS hl
  refine W.widen (k := mc) (n := ms) hk.1 hk.2 ?_
  exact W.iret (v := y0) hx hb hr (fun t ht hW => ⟨⟨y0, S, rfl, h, x_rt ht hR⟩, hS.F ht⟩) hS.2.2 dX8_water_28
set_option maxHeartbeats 4000000 in
theorem tA_X8_water_b0 {Q : Int32 → sT → Prop} (C : x_C p s m args c cX8_water RX8 gg) (hml : c.maxLocals = 2) (hr : meth.sig.returnType = (some .int)) (hlocks : meth.locks = false) {mc ms kc ks : Nat} (hk : kc ≤ mc ∧ ks ≤ ms) {x0 : Nat} {x1 : Int32}  {S : sT}  (h : wA_X8_water_b0 mc ms kc ks x0 x1 S  Q) : x_X p l e (rA_X8_water mc ms) s m args below meth c gg 2 kc ks (MQ below (va_Qi Q (fun S1 t => s_Rep gg S1 t.heap) (s_A gg)) args s mc ms (s_A gg)) 0 [(0, .ref x0), (1, .int x1)] [] S := by
  unfold wA_X8_water_b0 at h
  obtain ⟨hx, hb, -⟩ := id C
  intro H locs ls hR hS hl
  refine lv_aload_n hx hb dX8_water_0 rfl (lv_at hl 0 rfl) ?_
  refine lv_iconst (v := 0) hx hb dX8_water_1 (by decide) ?_
  obtain ⟨hK_x0, h⟩ := h
  refine x_p_288 (v := (0 : Int32)) C hR hK_x0 hS q_8_1 dX8_water_2 (fun H locs hR hS => ?_)
  obtain ⟨S101, eS101⟩ : ∃ z : sT, z = s_sI S 288 x0 (0 : Int32) := ⟨_, rfl⟩
  rw [← eS101] at hR
  replace h := h S101 eS101
  have hK_x0 : s_K S101 x0 = 10 := by rw [eS101]; exact hK_x0
  refine lv_iload_n hx hb dX8_water_5 rfl (lv_at hl 1 rfl) ?_
  refine lv_iconst (v := 0) hx hb dX8_water_6 (by decide) ?_
  refine lv_bipush (v := 6) hx hb dX8_water_7 (by decide) ?_
  refine x_ki (x_runS (As := [.int x1, .int (0 : Int32), .int (6 : Int32)]) (rest := []) C hml hR hS (m_X8_is l gg x1 (0 : Int32) (6 : Int32) S101 h) b_X8_is q_8_2 rfl rfl ⟨Nat.le_of_ble_eq_true rfl, Nat.le_of_ble_eq_true rfl⟩ rfl hl.1 (Nat.le_of_ble_eq_true rfl) dX8_water_9 ⟨hk.1, hk.2⟩) hS (fun x103 S102 H locs hn hR hS => ?_)
  replace h := hn
  clear hn
  refine lv_if_eq (tgt := 23) hx hb dX8_water_12 (by decide) (fun hc104 => ?_) (fun hc104 => ?_)
  · replace h := h.1 hc104
    refine lv_aload_n hx hb dX8_water_23 rfl (lv_at hl 0 rfl) ?_
    refine lv_iconst (v := 1) hx hb dX8_water_24 (by decide) ?_
    obtain ⟨hK_x0, h⟩ := h
    refine x_ki (x_runV (As := [.int (1 : Int32)]) (rest := []) C hml hR hS (m_X8_refuse l gg x0 (1 : Int32) S102 h) b_X8_refuse q_8_5 (by rw [hK_x0]; decide) (s_E_9 hK_x0) rfl rfl rfl rfl ⟨Nat.le_of_ble_eq_true rfl, Nat.le_of_ble_eq_true rfl⟩ rfl hl.1 (Nat.le_of_ble_eq_true rfl) dX8_water_25 ⟨hk.1, hk.2⟩) hS (fun x106 S105 H locs hn hR hS => ?_)
    replace h := hn
    clear hn
    exact tA_X8_water_b28 C hml hr hlocks hk  h H locs ls hR hS (lv_sub (l' := []) hl [] rfl)
  · replace h := h.2 hc104
    refine lv_aload_n hx hb dX8_water_15 rfl (lv_at hl 0 rfl) ?_
    refine lv_iload_n hx hb dX8_water_16 rfl (lv_at hl 1 rfl) ?_
    obtain ⟨hK_x0, h⟩ := h
    obtain ⟨c107, d108, hk1, hk2, h⟩ := h
    refine x_ki (x_runV (As := [.int x1]) (rest := []) C hml hR hS (mA_X8_waterNow l gg c107 d108 x0 x1 S102 h) b_X8_waterNow q_34_23 (by rw [hK_x0]; decide) (s_E_9 hK_x0) rfl rfl rfl rfl ⟨Nat.le_of_ble_eq_true rfl, Nat.le_of_ble_eq_true rfl⟩ rfl hl.1 (Nat.le_of_ble_eq_true rfl) dX8_water_17 ⟨hk1, hk2⟩) hS (fun x110 S109 H locs hn hR hS => ?_)
    replace h := hn
    clear hn
    have hk : (kc + c107) ≤ mc ∧ (ks + d108) ≤ ms := ⟨hk1, hk2⟩
    refine lv_goto (tgt := 28) hx hb dX8_water_20 (by decide) ?_
    exact tA_X8_water_b28 C hml hr hlocks hk  h H locs ls hR hS (lv_sub (l' := []) hl [] rfl)
theorem mA_X8_water (l : Launch) (gg : sG) (mc ms : Nat) (x0 : Nat) (x1 : Int32) (S : sT) {Q : Int32 → sT → Prop} (h : wA_X8_water mc ms x0 x1 S Q) : x_Mi l gg yX8_water (x_ws yX8_water cX8_water 2 (some .int)) (rA_X8_water mc ms) [.ref x0, .int x1] S Q mc ms := by
  refine x_ofW (cc := cX8_water) (own := RX8) (by decide +kernel) rfl (Nat.le_of_ble_eq_true rfl) ?_
  intro p e s m args below meth c C hml hr hlocks hin ht H locs ls hR hS hl
  exact tA_X8_water_b0 C hml hr hlocks ⟨Nat.zero_le _, Nat.zero_le _⟩ h H locs ls hR hS (lv_sub (l' := [(0, .ref x0), (1, .int x1)]) hl [0, 1] rfl)
def wA_X8_isClosedNow_b38 (mc ms kc ks : Nat) (y0 : Int32) (S : sT)  (Q : Int32 → sT → Prop) : Prop :=
(y0 = 0 ∨ y0 = 1) ∧
    Q y0 S
def wA_X8_isClosedNow_b4 (mc ms : Nat)  (Q : Int32 → sT → Prop) : Nat → Nat → Nat → Nat → Int32 → Int32 → sT → Prop
  | 0 => fun _ _ _ _ _ _ => False
  | n + 1 => fun kc ks x0 x1 x2 S =>
(((7 : Int32) ≤ x2 → s_K S x0 = 10 ∧
    ∃ c102 d103 : Nat, kc + c102 ≤ mc ∧ ks + d103 ≤ ms ∧
    wA_X8_waterNow c102 d103 x0 (0 : Int32) S (fun x105 S104 =>
    ((¬ x1 = x105 → wA_X8_isClosedNow_b38 mc ms (kc + c102) (ks + d103) (0 : Int32) S104  Q) ∧
    (x1 = x105 → wA_X8_isClosedNow_b38 mc ms (kc + c102) (ks + d103) (1 : Int32) S104  Q)))) ∧
    (¬ (7 : Int32) ≤ x2 → s_K S x0 = 10 ∧
    ∃ c107 d108 : Nat, kc + c107 ≤ mc ∧ ks + d108 ≤ ms ∧
    wA_X8_waterNow c107 d108 x0 x2 S (fun x110 S109 =>
    ∀ x111 : Int32, x111 = x1 + x110 →
    ∀ x112 : Int32, x112 = x2 + 1 →
    wA_X8_isClosedNow_b4 mc ms  Q n (kc + c107) (ks + d108) x0 x111 x112 S109)))
def wA_X8_isClosedNow_b0 (mc ms kc ks : Nat) (x0 : Nat) (S : sT)  (Q : Int32 → sT → Prop) : Prop :=
∃ n9 : Nat, wA_X8_isClosedNow_b4 mc ms  Q n9 kc ks x0 (0 : Int32) (1 : Int32) S
def wA_X8_isClosedNow (mc ms : Nat) (x0 : Nat) (S : sT) (Q : Int32 → sT → Prop) : Prop := wA_X8_isClosedNow_b0 mc ms 0 0 x0 S Q
def rA_X8_isClosedNow (mc ms : Nat) : Room := x_rm 1 27 mc ms
theorem b_X8_isClosedNow : x_BV yX8_isClosedNow cX8_isClosedNow 3 (some .boolean) 0 := ⟨q_35_21, q_35_19, q_35_20, q_1_5, by decide +kernel⟩
set_option maxHeartbeats 4000000 in
theorem tA_X8_isClosedNow_b38 {Q : Int32 → sT → Prop} (C : x_C p s m args c cX8_isClosedNow RX8 gg) (hml : c.maxLocals = 3) (hr : meth.sig.returnType = (some .boolean)) (hlocks : meth.locks = false) {mc ms kc ks : Nat} (hk : kc ≤ mc ∧ ks ≤ ms) {y0 : Int32}  {S : sT}  (h : wA_X8_isClosedNow_b38 mc ms kc ks y0 S  Q) : x_X p l e (rA_X8_isClosedNow mc ms) s m args below meth c gg 3 kc ks (MQ below (va_Qi Q (fun S1 t => s_Rep gg S1 t.heap) (s_A gg)) args s mc ms (s_A gg)) 38 [] [.int y0] S := by
  unfold wA_X8_isClosedNow_b38 at h
  obtain ⟨hx, hb, -⟩ := id C
  intro H locs ls hR hS hl
  refine W.widen (k := mc) (n := ms) hk.1 hk.2 ?_
  obtain ⟨hz101, h⟩ := h
  exact W.zret (v := y0) hx hb hr (zb_n hz101) (fun t ht hW => ⟨⟨y0, S, rfl, h, x_rt ht hR⟩, hS.F ht⟩) hS.2.2 dX8_isClosedNow_38
set_option maxHeartbeats 4000000 in
theorem tA_X8_isClosedNow_b4 {Q : Int32 → sT → Prop} (C : x_C p s m args c cX8_isClosedNow RX8 gg) (hml : c.maxLocals = 3) (hr : meth.sig.returnType = (some .boolean)) (hlocks : meth.locks = false) {mc ms : Nat}   : ∀ (n : Nat) (kc ks : Nat) (x0 : Nat) (x1 : Int32) (x2 : Int32) (S : sT), kc ≤ mc ∧ ks ≤ ms → wA_X8_isClosedNow_b4 mc ms  Q n kc ks x0 x1 x2 S → x_X p l e (rA_X8_isClosedNow mc ms) s m args below meth c gg 3 kc ks (MQ below (va_Qi Q (fun S1 t => s_Rep gg S1 t.heap) (s_A gg)) args s mc ms (s_A gg)) 4 [(0, .ref x0), (1, .int x1), (2, .int x2)] [] S := by
  obtain ⟨hx, hb, -⟩ := id C
  intro n
  induction n with
  | zero => intro kc ks x0 x1 x2 S hk h; exact absurd h id
  | succ n ih =>
    intro kc ks x0 x1 x2 S hk h H locs ls hR hS hl
    unfold wA_X8_isClosedNow_b4 at h
    refine lv_iload_n hx hb dX8_isClosedNow_4 rfl (lv_at hl 2 rfl) ?_
    refine lv_bipush (v := 7) hx hb dX8_isClosedNow_5 (by decide) ?_
    refine lv_icmp_ge (tgt := 24) hx hb dX8_isClosedNow_7 (by decide) (fun hc101 => ?_) (fun hc101 => ?_)
    · replace h := h.1 hc101
      refine lv_iload_n hx hb dX8_isClosedNow_24 rfl (lv_at hl 1 rfl) ?_
      refine lv_aload_n hx hb dX8_isClosedNow_25 rfl (lv_at hl 0 rfl) ?_
      refine lv_iconst (v := 0) hx hb dX8_isClosedNow_26 (by decide) ?_
      obtain ⟨hK_x0, h⟩ := h
      obtain ⟨c102, d103, hk1, hk2, h⟩ := h
      refine x_ki (x_runV (As := [.int (0 : Int32)]) (rest := [.int x1]) C hml hR hS (mA_X8_waterNow l gg c102 d103 x0 (0 : Int32) S h) b_X8_waterNow q_34_23 (by rw [hK_x0]; decide) (s_E_9 hK_x0) rfl rfl rfl rfl ⟨Nat.le_of_ble_eq_true rfl, Nat.le_of_ble_eq_true rfl⟩ rfl hl.1 (Nat.le_of_ble_eq_true rfl) dX8_isClosedNow_27 ⟨hk1, hk2⟩) hS (fun x105 S104 H locs hn hR hS => ?_)
      replace h := hn
      clear hn
      have hk : (kc + c102) ≤ mc ∧ (ks + d103) ≤ ms := ⟨hk1, hk2⟩
      refine lv_icmp_ne (tgt := 37) hx hb dX8_isClosedNow_30 (by decide) (fun hc106 => ?_) (fun hc106 => ?_)
      · replace h := h.1 hc106
        refine lv_iconst (v := 0) hx hb dX8_isClosedNow_37 (by decide) ?_
        exact tA_X8_isClosedNow_b38 C hml hr hlocks hk  h H locs ls hR hS (lv_sub (l' := []) hl [] rfl)
      · replace h := h.2 hc106
        refine lv_iconst (v := 1) hx hb dX8_isClosedNow_33 (by decide) ?_
        refine lv_goto (tgt := 38) hx hb dX8_isClosedNow_34 (by decide) ?_
        exact tA_X8_isClosedNow_b38 C hml hr hlocks hk  h H locs ls hR hS (lv_sub (l' := []) hl [] rfl)
    · replace h := h.2 hc101
      refine lv_iload_n hx hb dX8_isClosedNow_10 rfl (lv_at hl 1 rfl) ?_
      refine lv_aload_n hx hb dX8_isClosedNow_11 rfl (lv_at hl 0 rfl) ?_
      refine lv_iload_n hx hb dX8_isClosedNow_12 rfl (lv_at hl 2 rfl) ?_
      obtain ⟨hK_x0, h⟩ := h
      obtain ⟨c107, d108, hk1, hk2, h⟩ := h
      refine x_ki (x_runV (As := [.int x2]) (rest := [.int x1]) C hml hR hS (mA_X8_waterNow l gg c107 d108 x0 x2 S h) b_X8_waterNow q_34_23 (by rw [hK_x0]; decide) (s_E_9 hK_x0) rfl rfl rfl rfl ⟨Nat.le_of_ble_eq_true rfl, Nat.le_of_ble_eq_true rfl⟩ rfl hl.1 (Nat.le_of_ble_eq_true rfl) dX8_isClosedNow_13 ⟨hk1, hk2⟩) hS (fun x110 S109 H locs hn hR hS => ?_)
      replace h := hn
      clear hn
      have hk : (kc + c107) ≤ mc ∧ (ks + d108) ≤ ms := ⟨hk1, hk2⟩
      refine lv_iadd hx hb dX8_isClosedNow_16 ?_
      refine lv_topi (fun x111 ex111 => ?_)
      replace h := h x111 ex111
      refine lv_istore_n (lv' := [(1, .int x111), (0, .ref x0), (2, .int x2)]) hx hb dX8_isClosedNow_17 rfl hl (by decide) rfl (fun ls hl => ?_)
      obtain ⟨x112, ex112⟩ : ∃ z : Int32, z = x2 + 1 := ⟨_, rfl⟩
      replace h := h x112 ex112
      refine lv_iinc (v := x112) (lv' := [(2, .int x112), (1, .int x111), (0, .ref x0)]) hx hb dX8_isClosedNow_18 hl (k := 2) rfl (by rw [ex112]; rfl) (by decide) rfl (fun ls hl => ?_)
      refine lv_goto (tgt := 4) hx hb dX8_isClosedNow_21 (by decide) ?_
      exact ih (kc + c107) (ks + d108) x0 x111 x112 S109 hk h H locs ls hR hS (lv_sub (l' := [(0, .ref x0), (1, .int x111), (2, .int x112)]) hl [2, 1, 0] rfl)
set_option maxHeartbeats 4000000 in
theorem tA_X8_isClosedNow_b0 {Q : Int32 → sT → Prop} (C : x_C p s m args c cX8_isClosedNow RX8 gg) (hml : c.maxLocals = 3) (hr : meth.sig.returnType = (some .boolean)) (hlocks : meth.locks = false) {mc ms kc ks : Nat} (hk : kc ≤ mc ∧ ks ≤ ms) {x0 : Nat}  {S : sT}  (h : wA_X8_isClosedNow_b0 mc ms kc ks x0 S  Q) : x_X p l e (rA_X8_isClosedNow mc ms) s m args below meth c gg 3 kc ks (MQ below (va_Qi Q (fun S1 t => s_Rep gg S1 t.heap) (s_A gg)) args s mc ms (s_A gg)) 0 [(0, .ref x0)] [] S := by
  unfold wA_X8_isClosedNow_b0 at h
  obtain ⟨hx, hb, -⟩ := id C
  intro H locs ls hR hS hl
  refine lv_iconst (v := 0) hx hb dX8_isClosedNow_0 (by decide) ?_
  refine lv_istore_n (lv' := [(1, .int (0 : Int32)), (0, .ref x0)]) hx hb dX8_isClosedNow_1 rfl hl (by decide) rfl (fun ls hl => ?_)
  refine lv_iconst (v := 1) hx hb dX8_isClosedNow_2 (by decide) ?_
  refine lv_istore_n (lv' := [(2, .int (1 : Int32)), (1, .int (0 : Int32)), (0, .ref x0)]) hx hb dX8_isClosedNow_3 rfl hl (by decide) rfl (fun ls hl => ?_)
  obtain ⟨n9, h⟩ := h
  exact tA_X8_isClosedNow_b4 C hml hr hlocks  n9 kc ks x0 (0 : Int32) (1 : Int32) S hk h H locs ls hR hS (lv_sub (l' := [(0, .ref x0), (1, .int (0 : Int32)), (2, .int (1 : Int32))]) hl [2, 1, 0] rfl)
theorem mA_X8_isClosedNow (l : Launch) (gg : sG) (mc ms : Nat) (x0 : Nat) (S : sT) {Q : Int32 → sT → Prop} (h : wA_X8_isClosedNow mc ms x0 S Q) : x_Mi l gg yX8_isClosedNow (x_ws yX8_isClosedNow cX8_isClosedNow 3 (some .boolean)) (rA_X8_isClosedNow mc ms) [.ref x0] S Q mc ms := by
  refine x_ofW (cc := cX8_isClosedNow) (own := RX8) (by decide +kernel) rfl (Nat.le_of_ble_eq_true rfl) ?_
  intro p e s m args below meth c C hml hr hlocks hin ht H locs ls hR hS hl
  exact tA_X8_isClosedNow_b0 C hml hr hlocks ⟨Nat.zero_le _, Nat.zero_le _⟩ h H locs ls hR hS (lv_sub (l' := [(0, .ref x0)]) hl [0] rfl)
def wA_X8_isClosed_b0 (mc ms kc ks : Nat) (x0 : Nat) (S : sT)  (Q : Int32 → sT → Prop) : Prop :=
s_K S x0 = 10 ∧
    ∀ S101 : sT, S101 = s_sI S 288 x0 (0 : Int32) →
    ∃ c102 d103 : Nat, kc + c102 ≤ mc ∧ ks + d103 ≤ ms ∧
    wA_X8_isClosedNow c102 d103 x0 S101 (fun x105 S104 =>
    (x105 = 0 ∨ x105 = 1) ∧
    Q x105 S104)
def wA_X8_isClosed (mc ms : Nat) (x0 : Nat) (S : sT) (Q : Int32 → sT → Prop) : Prop := wA_X8_isClosed_b0 mc ms 0 0 x0 S Q
def rA_X8_isClosed (mc ms : Nat) : Room := x_rm 2 49 mc ms
theorem b_X8_isClosed : x_BV yX8_isClosed cX8_isClosed 1 (some .boolean) 0 := ⟨q_35_17, q_35_15, q_35_16, q_1_5, by decide +kernel⟩
set_option maxHeartbeats 4000000 in
theorem tA_X8_isClosed_b0 {Q : Int32 → sT → Prop} (C : x_C p s m args c cX8_isClosed RX8 gg) (hml : c.maxLocals = 1) (hr : meth.sig.returnType = (some .boolean)) (hlocks : meth.locks = false) {mc ms kc ks : Nat} (hk : kc ≤ mc ∧ ks ≤ ms) {x0 : Nat}  {S : sT}  (h : wA_X8_isClosed_b0 mc ms kc ks x0 S  Q) : x_X p l e (rA_X8_isClosed mc ms) s m args below meth c gg 1 kc ks (MQ below (va_Qi Q (fun S1 t => s_Rep gg S1 t.heap) (s_A gg)) args s mc ms (s_A gg)) 0 [(0, .ref x0)] [] S := by
  unfold wA_X8_isClosed_b0 at h
  obtain ⟨hx, hb, -⟩ := id C
  intro H locs ls hR hS hl
  refine lv_aload_n hx hb dX8_isClosed_0 rfl (lv_at hl 0 rfl) ?_
  refine lv_iconst (v := 0) hx hb dX8_isClosed_1 (by decide) ?_
  obtain ⟨hK_x0, h⟩ := h
  refine x_p_288 (v := (0 : Int32)) C hR hK_x0 hS q_8_1 dX8_isClosed_2 (fun H locs hR hS => ?_)
  obtain ⟨S101, eS101⟩ : ∃ z : sT, z = s_sI S 288 x0 (0 : Int32) := ⟨_, rfl⟩
  rw [← eS101] at hR
  replace h := h S101 eS101
  have hK_x0 : s_K S101 x0 = 10 := by rw [eS101]; exact hK_x0
  refine lv_aload_n hx hb dX8_isClosed_5 rfl (lv_at hl 0 rfl) ?_
  obtain ⟨c102, d103, hk1, hk2, h⟩ := h
  refine x_ki (x_runV (As := []) (rest := []) C hml hR hS (mA_X8_isClosedNow l gg c102 d103 x0 S101 h) b_X8_isClosedNow q_35_18 (by rw [hK_x0]; decide) (s_E_9 hK_x0) rfl rfl rfl rfl ⟨Nat.le_of_ble_eq_true rfl, Nat.le_of_ble_eq_true rfl⟩ rfl hl.1 (Nat.le_of_ble_eq_true rfl) dX8_isClosed_6 ⟨hk1, hk2⟩) hS (fun x105 S104 H locs hn hR hS => ?_)
  replace h := hn
  clear hn
  have hk : (kc + c102) ≤ mc ∧ (ks + d103) ≤ ms := ⟨hk1, hk2⟩
  refine W.widen (k := mc) (n := ms) hk.1 hk.2 ?_
  obtain ⟨hz106, h⟩ := h
  exact W.zret (v := x105) hx hb hr (zb_n hz106) (fun t ht hW => ⟨⟨x105, S104, rfl, h, x_rt ht hR⟩, hS.F ht⟩) hS.2.2 dX8_isClosed_9
theorem mA_X8_isClosed (l : Launch) (gg : sG) (mc ms : Nat) (x0 : Nat) (S : sT) {Q : Int32 → sT → Prop} (h : wA_X8_isClosed mc ms x0 S Q) : x_Mi l gg yX8_isClosed (x_ws yX8_isClosed cX8_isClosed 1 (some .boolean)) (rA_X8_isClosed mc ms) [.ref x0] S Q mc ms := by
  refine x_ofW (cc := cX8_isClosed) (own := RX8) (by decide +kernel) rfl (Nat.le_of_ble_eq_true rfl) ?_
  intro p e s m args below meth c C hml hr hlocks hin ht H locs ls hR hS hl
  exact tA_X8_isClosed_b0 C hml hr hlocks ⟨Nat.zero_le _, Nat.zero_le _⟩ h H locs ls hR hS (lv_sub (l' := [(0, .ref x0)]) hl [0] rfl)
def wA_X8_manyNow_b327 (mc ms : Nat)  (Q : Int32 → sT → Prop) : Nat → Nat → Nat → Int32 → Nat → Int32 → Nat → Int32 → Int32 → sT → Prop
  | 0 => fun _ _ _ _ _ _ _ _ _ => False
  | n + 1 => fun kc ks x1 x2 x3 x4 x5 x6 S =>
((x5 ≤ x6 → Q x3 S) ∧
    (¬ x5 ≤ x6 → s_K S x4 = 13 ∧
    vp_in x6 (s_N S x4) ∧
    ∃ a103 : Nat, s_P S x4 (Int32.toNatClampNeg x6) = some a103 ∧
    s_K S x2 = 11 ∧
    vp_in x1 (s_N S x2) ∧
    ∀ x105 : Int32, x105 = s_B S x2 (Int32.toNatClampNeg x1) →
    s_K S a103 = 11 ∧
    vp_in x105 (s_N S a103) ∧
    ∀ x107 : Int32, x107 = s_B S a103 (Int32.toNatClampNeg x105) →
    ∀ x108 : Int32, x108 = x3 + x107 →
    ∀ x109 : Int32, x109 = x6 + 1 →
    wA_X8_manyNow_b327 mc ms  Q n kc ks x1 x2 x108 x4 x5 x109 S))
def wA_X8_manyNow_b310 (mc ms kc ks : Nat) (x0 : Nat) (x1 : Int32) (x2 : Nat) (x3 : Int32) (S : sT)  (Q : Int32 → sT → Prop) : Prop :=
s_K S x0 = 10 ∧
    ∃ a101 : Nat, s_R S 289 x0 = some a101 ∧
    s_K S a101 = 9 ∧
    ∃ a102 : Nat, s_R S 257 a101 = some a102 ∧
    s_K S a102 = 13 ∧
    ∀ x103 : Int32, x103 = nI (s_N S a102) →
    ∃ n9 : Nat, wA_X8_manyNow_b327 mc ms  Q n9 kc ks x1 x2 x3 a102 x103 (0 : Int32) S
def wA_X8_manyNow_b186 (mc ms kc ks : Nat) (y0 : Int32) (S : sT)  (Q : Int32 → sT → Prop) : Prop :=
Q y0 S
def wA_X8_manyNow_b204 (mc ms : Nat)  (Q : Int32 → sT → Prop) : Nat → Nat → Nat → Int32 → Nat → Int32 → Int32 → sT → Prop
  | 0 => fun _ _ _ _ _ _ _ => False
  | n + 1 => fun kc ks x3 x4 x5 x6 S =>
((x5 ≤ x6 → Q x3 S) ∧
    (¬ x5 ≤ x6 → s_K S x4 = 13 ∧
    vp_in x6 (s_N S x4) ∧
    ∃ a103 : Nat, s_P S x4 (Int32.toNatClampNeg x6) = some a103 ∧
    s_K S a103 = 11 ∧
    vp_in (4 : Int32) (s_N S a103) ∧
    ∀ x105 : Int32, x105 = s_B S a103 (Int32.toNatClampNeg (4 : Int32)) →
    ∀ x106 : Int32, x106 = x3 + x105 →
    ∀ x107 : Int32, x107 = x6 + 1 →
    wA_X8_manyNow_b204 mc ms  Q n kc ks x106 x4 x5 x107 S))
def wA_X8_manyNow_b278 (mc ms kc ks : Nat) (x4 : Nat) (x5 : Int32) (x6 : Int32) (y0 : Int32) (y1 : Int32) (S : sT) (kk250 : Nat → Nat → Int32 → Nat → Int32 → Int32 → sT → Prop) (Q : Int32 → sT → Prop) : Prop :=
∀ x101 : Int32, x101 = y1 + y0 →
    ∀ x102 : Int32, x102 = x6 + 1 →
    kk250 kc ks x101 x4 x5 x102 S
def wA_X8_manyNow_b250 (mc ms : Nat)  (Q : Int32 → sT → Prop) : Nat → Nat → Nat → Int32 → Nat → Int32 → Int32 → sT → Prop
  | 0 => fun _ _ _ _ _ _ _ => False
  | n + 1 => fun kc ks x3 x4 x5 x6 S =>
((x5 ≤ x6 → Q x3 S) ∧
    (¬ x5 ≤ x6 → s_K S x4 = 13 ∧
    vp_in x6 (s_N S x4) ∧
    ∃ a103 : Nat, s_P S x4 (Int32.toNatClampNeg x6) = some a103 ∧
    s_K S a103 = 11 ∧
    vp_in (17 : Int32) (s_N S a103) ∧
    ∀ x105 : Int32, x105 = s_B S a103 (Int32.toNatClampNeg (17 : Int32)) →
    ((0 ≤ x105 → wA_X8_manyNow_b278 mc ms kc ks x4 x5 x6 (0 : Int32) x3 S (fun kc ks x3 x4 x5 x6 S => wA_X8_manyNow_b250 mc ms  Q n kc ks x3 x4 x5 x6 S) Q) ∧
    (¬ 0 ≤ x105 → wA_X8_manyNow_b278 mc ms kc ks x4 x5 x6 (1 : Int32) x3 S (fun kc ks x3 x4 x5 x6 S => wA_X8_manyNow_b250 mc ms  Q n kc ks x3 x4 x5 x6 S) Q))))
def wA_X8_manyNow_b0 (mc ms kc ks : Nat) (x0 : Nat) (x1 : Int32) (S : sT)  (Q : Int32 → sT → Prop) : Prop :=
(kc + 1) ≤ mc ∧ (ks + 12) ≤ ms ∧
    ∀ q101 : Nat, s_fr S q101 →
    ∀ S102 : sT, S102 = s_nw S q101 11 12 →
    vp_in (0 : Int32) (s_N S102 q101) ∧
    ∀ S104 : sT, S104 = s_sB S102 q101 (Int32.toNatClampNeg (0 : Int32)) (0 : Int32) →
    vp_in (1 : Int32) (s_N S104 q101) ∧
    ∀ S106 : sT, S106 = s_sB S104 q101 (Int32.toNatClampNeg (1 : Int32)) (0 : Int32) →
    vp_in (2 : Int32) (s_N S106 q101) ∧
    ∀ S108 : sT, S108 = s_sB S106 q101 (Int32.toNatClampNeg (2 : Int32)) (0 : Int32) →
    vp_in (3 : Int32) (s_N S108 q101) ∧
    ∀ S110 : sT, S110 = s_sB S108 q101 (Int32.toNatClampNeg (3 : Int32)) (0 : Int32) →
    vp_in (4 : Int32) (s_N S110 q101) ∧
    ∀ S112 : sT, S112 = s_sB S110 q101 (Int32.toNatClampNeg (4 : Int32)) (0 : Int32) →
    vp_in (5 : Int32) (s_N S112 q101) ∧
    ∀ S114 : sT, S114 = s_sB S112 q101 (Int32.toNatClampNeg (5 : Int32)) (8 : Int32) →
    vp_in (6 : Int32) (s_N S114 q101) ∧
    ∀ S116 : sT, S116 = s_sB S114 q101 (Int32.toNatClampNeg (6 : Int32)) (17 : Int32) →
    vp_in (7 : Int32) (s_N S116 q101) ∧
    ∀ S118 : sT, S118 = s_sB S116 q101 (Int32.toNatClampNeg (7 : Int32)) (0 : Int32) →
    vp_in (8 : Int32) (s_N S118 q101) ∧
    ∀ S120 : sT, S120 = s_sB S118 q101 (Int32.toNatClampNeg (8 : Int32)) (0 : Int32) →
    vp_in (9 : Int32) (s_N S120 q101) ∧
    ∀ S122 : sT, S122 = s_sB S120 q101 (Int32.toNatClampNeg (9 : Int32)) (0 : Int32) →
    vp_in (10 : Int32) (s_N S122 q101) ∧
    ∀ S124 : sT, S124 = s_sB S122 q101 (Int32.toNatClampNeg (10 : Int32)) (0 : Int32) →
    vp_in (11 : Int32) (s_N S124 q101) ∧
    ∀ S126 : sT, S126 = s_sB S124 q101 (Int32.toNatClampNeg (11 : Int32)) (15 : Int32) →
    ((x1 = 0 → s_K S126 x0 = 10 ∧
    ∃ a128 : Nat, s_R S126 289 x0 = some a128 ∧
    s_K S126 a128 = 9 ∧
    ∃ a129 : Nat, s_R S126 256 a128 = some a129 ∧
    s_K S126 a129 = 13 ∧
    ∀ x130 : Int32, x130 = nI (s_N S126 a129) →
    Q x130 S126) ∧
    (x1 = 1 → s_K S126 x0 = 10 ∧
    ∃ a132 : Nat, s_R S126 289 x0 = some a132 ∧
    s_K S126 a132 = 9 ∧
    ∃ a133 : Nat, s_R S126 257 a132 = some a133 ∧
    s_K S126 a133 = 13 ∧
    ∀ x134 : Int32, x134 = nI (s_N S126 a133) →
    Q x134 S126) ∧
    (x1 = 2 → s_K S126 x0 = 10 ∧
    ∃ a136 : Nat, s_R S126 289 x0 = some a136 ∧
    s_K S126 a136 = 9 ∧
    ∃ a137 : Nat, s_R S126 258 a136 = some a137 ∧
    s_K S126 a137 = 11 ∧
    vp_in (0 : Int32) (s_N S126 a137) ∧
    ∀ x139 : Int32, x139 = s_B S126 a137 (Int32.toNatClampNeg (0 : Int32)) →
    Q x139 S126) ∧
    (x1 = 3 → s_K S126 x0 = 10 ∧
    ∃ a141 : Nat, s_R S126 289 x0 = some a141 ∧
    s_K S126 a141 = 9 ∧
    ∃ a142 : Nat, s_R S126 258 a141 = some a142 ∧
    s_K S126 a142 = 11 ∧
    vp_in (0 : Int32) (s_N S126 a142) ∧
    ∀ x144 : Int32, x144 = s_B S126 a142 (Int32.toNatClampNeg (0 : Int32)) →
    ∀ x145 : Int32, x145 = x144 - x144 / (210 : Int32) * (210 : Int32) →
    Q x145 S126) ∧
    (x1 = 4 → s_K S126 x0 = 10 ∧
    ∃ a147 : Nat, s_R S126 289 x0 = some a147 ∧
    s_K S126 a147 = 9 ∧
    ∃ a148 : Nat, s_R S126 258 a147 = some a148 ∧
    s_K S126 a148 = 11 ∧
    vp_in (0 : Int32) (s_N S126 a148) ∧
    ∀ x150 : Int32, x150 = s_B S126 a148 (Int32.toNatClampNeg (0 : Int32)) →
    ∀ x151 : Int32, x151 = x150 - x150 / (30 : Int32) * (30 : Int32) →
    ((¬ x151 = 0 → wA_X8_manyNow_b186 mc ms (kc + 1) (ks + 12) (0 : Int32) S126  Q) ∧
    (x151 = 0 → wA_X8_manyNow_b186 mc ms (kc + 1) (ks + 12) (1 : Int32) S126  Q))) ∧
    (x1 = 5 → wA_X8_manyNow_b310 mc ms (kc + 1) (ks + 12) x0 x1 q101 (0 : Int32) S126  Q) ∧
    (x1 = 6 → wA_X8_manyNow_b310 mc ms (kc + 1) (ks + 12) x0 x1 q101 (0 : Int32) S126  Q) ∧
    (x1 = 7 → s_K S126 x0 = 10 ∧
    ∃ a156 : Nat, s_R S126 289 x0 = some a156 ∧
    s_K S126 a156 = 9 ∧
    ∃ a157 : Nat, s_R S126 256 a156 = some a157 ∧
    s_K S126 a157 = 13 ∧
    ∀ x158 : Int32, x158 = nI (s_N S126 a157) →
    ∃ n9 : Nat, wA_X8_manyNow_b204 mc ms  Q n9 (kc + 1) (ks + 12) (0 : Int32) a157 x158 (0 : Int32) S126) ∧
    (x1 = 8 → s_K S126 x0 = 10 ∧
    ∃ a160 : Nat, s_R S126 289 x0 = some a160 ∧
    s_K S126 a160 = 9 ∧
    ∃ a161 : Nat, s_R S126 257 a160 = some a161 ∧
    s_K S126 a161 = 13 ∧
    ∀ x162 : Int32, x162 = nI (s_N S126 a161) →
    ∃ n9 : Nat, wA_X8_manyNow_b250 mc ms  Q n9 (kc + 1) (ks + 12) (0 : Int32) a161 x162 (0 : Int32) S126) ∧
    (x1 = 9 → s_K S126 x0 = 10 ∧
    ∃ a164 : Nat, s_R S126 289 x0 = some a164 ∧
    s_K S126 a164 = 9 ∧
    ∃ a165 : Nat, s_R S126 258 a164 = some a165 ∧
    s_K S126 a165 = 11 ∧
    vp_in (9 : Int32) (s_N S126 a165) ∧
    ∀ x167 : Int32, x167 = s_B S126 a165 (Int32.toNatClampNeg (9 : Int32)) →
    Q x167 S126) ∧
    (x1 = 10 → s_K S126 x0 = 10 ∧
    ∃ a169 : Nat, s_R S126 289 x0 = some a169 ∧
    s_K S126 a169 = 9 ∧
    ∃ a170 : Nat, s_R S126 258 a169 = some a170 ∧
    s_K S126 a170 = 11 ∧
    vp_in (10 : Int32) (s_N S126 a170) ∧
    ∀ x172 : Int32, x172 = s_B S126 a170 (Int32.toNatClampNeg (10 : Int32)) →
    Q x172 S126) ∧
    ((¬ x1 = 0 ∧ ¬ x1 = 1 ∧ ¬ x1 = 2 ∧ ¬ x1 = 3 ∧ ¬ x1 = 4 ∧ ¬ x1 = 5 ∧ ¬ x1 = 6 ∧ ¬ x1 = 7 ∧ ¬ x1 = 8 ∧ ¬ x1 = 9 ∧ ¬ x1 = 10) → wA_X8_manyNow_b310 mc ms (kc + 1) (ks + 12) x0 x1 q101 (0 : Int32) S126  Q))
def wA_X8_manyNow (mc ms : Nat) (x0 : Nat) (x1 : Int32) (S : sT) (Q : Int32 → sT → Prop) : Prop := wA_X8_manyNow_b0 mc ms 0 0 x0 x1 S Q
def rA_X8_manyNow (mc ms : Nat) : Room := x_rm 0 0 mc ms
theorem b_X8_manyNow : x_BV yX8_manyNow cX8_manyNow 8 (some .int) 1 := ⟨q_37_10, q_37_8, q_37_9, q_1_5, by decide +kernel⟩
set_option maxHeartbeats 4000000 in
theorem tA_X8_manyNow_b327 {Q : Int32 → sT → Prop} (C : x_C p s m args c cX8_manyNow RX8 gg) (hml : c.maxLocals = 8) (hr : meth.sig.returnType = (some .int)) (hlocks : meth.locks = false) {mc ms : Nat}   : ∀ (n : Nat) (kc ks : Nat) (x1 : Int32) (x2 : Nat) (x3 : Int32) (x4 : Nat) (x5 : Int32) (x6 : Int32) (S : sT), kc ≤ mc ∧ ks ≤ ms → wA_X8_manyNow_b327 mc ms  Q n kc ks x1 x2 x3 x4 x5 x6 S → x_X p l e (rA_X8_manyNow mc ms) s m args below meth c gg 8 kc ks (MQ below (va_Qi Q (fun S1 t => s_Rep gg S1 t.heap) (s_A gg)) args s mc ms (s_A gg)) 327 [(1, .int x1), (2, .ref x2), (3, .int x3), (4, .ref x4), (5, .int x5), (6, .int x6)] [] S := by
  obtain ⟨hx, hb, -⟩ := id C
  intro n
  induction n with
  | zero => intro kc ks x1 x2 x3 x4 x5 x6 S hk h; exact absurd h id
  | succ n ih =>
    intro kc ks x1 x2 x3 x4 x5 x6 S hk h H locs ls hR hS hl
    unfold wA_X8_manyNow_b327 at h
    refine lv_iload hx hb dX8_manyNow_327 (lv_at hl 5 rfl) ?_
    refine lv_iload hx hb dX8_manyNow_329 (lv_at hl 4 rfl) ?_
    refine lv_icmp_ge (tgt := 356) hx hb dX8_manyNow_331 (by decide) (fun hc101 => ?_) (fun hc101 => ?_)
    · replace h := h.1 hc101
      refine lv_iload_n hx hb dX8_manyNow_356 rfl (lv_at hl 2 rfl) ?_
      refine W.widen (k := mc) (n := ms) hk.1 hk.2 ?_
      exact W.iret (v := x3) hx hb hr (fun t ht hW => ⟨⟨x3, S, rfl, h, x_rt ht hR⟩, hS.F ht⟩) hS.2.2 dX8_manyNow_357
    · replace h := h.2 hc101
      refine lv_aload hx hb dX8_manyNow_334 (lv_at hl 3 rfl) ?_
      refine lv_iload hx hb dX8_manyNow_336 (lv_at hl 5 rfl) ?_
      obtain ⟨hK_x4, h⟩ := h
      obtain ⟨hi102, a103, ea103, h⟩ := h
      refine x_aald13 C hR hK_x4 hi102 dX8_manyNow_338 ?_
      refine x_some ea103 ?_
      refine lv_astore (lv' := [(7, .ref a103), (1, .int x1), (2, .ref x2), (3, .int x3), (4, .ref x4), (5, .int x5), (6, .int x6)]) hx hb dX8_manyNow_339 hl (by decide) rfl (fun ls hl => ?_)
      refine lv_iload_n hx hb dX8_manyNow_341 rfl (lv_at hl 3 rfl) ?_
      refine lv_aload hx hb dX8_manyNow_342 (lv_at hl 0 rfl) ?_
      refine lv_aload_n hx hb dX8_manyNow_344 rfl (lv_at hl 2 rfl) ?_
      refine lv_iload_n hx hb dX8_manyNow_345 rfl (lv_at hl 1 rfl) ?_
      obtain ⟨hK_x2, h⟩ := h
      obtain ⟨hi104, h⟩ := h
      refine x_iald C hR hK_x2 hi104 dX8_manyNow_346 ?_
      refine lv_topi (fun x105 ex105 => ?_)
      replace h := h x105 ex105
      obtain ⟨hK_a103, h⟩ := h
      obtain ⟨hi106, h⟩ := h
      refine x_iald C hR hK_a103 hi106 dX8_manyNow_347 ?_
      refine lv_topi (fun x107 ex107 => ?_)
      replace h := h x107 ex107
      refine lv_iadd hx hb dX8_manyNow_348 ?_
      refine lv_topi (fun x108 ex108 => ?_)
      replace h := h x108 ex108
      refine lv_istore_n (lv' := [(3, .int x108), (7, .ref a103), (1, .int x1), (2, .ref x2), (4, .ref x4), (5, .int x5), (6, .int x6)]) hx hb dX8_manyNow_349 rfl hl (by decide) rfl (fun ls hl => ?_)
      obtain ⟨x109, ex109⟩ : ∃ z : Int32, z = x6 + 1 := ⟨_, rfl⟩
      replace h := h x109 ex109
      refine lv_iinc (v := x109) (lv' := [(6, .int x109), (3, .int x108), (7, .ref a103), (1, .int x1), (2, .ref x2), (4, .ref x4), (5, .int x5)]) hx hb dX8_manyNow_350 hl (k := 6) rfl (by rw [ex109]; rfl) (by decide) rfl (fun ls hl => ?_)
      refine lv_goto (tgt := 327) hx hb dX8_manyNow_353 (by decide) ?_
      exact ih kc ks x1 x2 x108 x4 x5 x109 S hk h H locs ls hR hS (lv_sub (l' := [(1, .int x1), (2, .ref x2), (3, .int x108), (4, .ref x4), (5, .int x5), (6, .int x109)]) hl [3, 4, 1, 5, 6, 0] rfl)
set_option maxHeartbeats 4000000 in
theorem tA_X8_manyNow_b310 {Q : Int32 → sT → Prop} (C : x_C p s m args c cX8_manyNow RX8 gg) (hml : c.maxLocals = 8) (hr : meth.sig.returnType = (some .int)) (hlocks : meth.locks = false) {mc ms kc ks : Nat} (hk : kc ≤ mc ∧ ks ≤ ms) {x0 : Nat} {x1 : Int32} {x2 : Nat} {x3 : Int32}  {S : sT}  (h : wA_X8_manyNow_b310 mc ms kc ks x0 x1 x2 x3 S  Q) : x_X p l e (rA_X8_manyNow mc ms) s m args below meth c gg 8 kc ks (MQ below (va_Qi Q (fun S1 t => s_Rep gg S1 t.heap) (s_A gg)) args s mc ms (s_A gg)) 310 [(0, .ref x0), (1, .int x1), (2, .ref x2), (3, .int x3)] [] S := by
  unfold wA_X8_manyNow_b310 at h
  obtain ⟨hx, hb, -⟩ := id C
  intro H locs ls hR hS hl
  refine lv_aload_n hx hb dX8_manyNow_310 rfl (lv_at hl 0 rfl) ?_
  obtain ⟨hK_x0, h⟩ := h
  refine x_g_289 C hR hK_x0 q_3_8 dX8_manyNow_311 ?_
  obtain ⟨a101, ea101, h⟩ := h
  refine x_some ea101 ?_
  obtain ⟨hK_a101, h⟩ := h
  refine x_gN_257 C hR hK_a101 (xn_1 C) dX8_manyNow_314 ?_
  obtain ⟨a102, ea102, h⟩ := h
  refine x_some ea102 ?_
  refine lv_astore (lv' := [(4, .ref a102), (0, .ref x0), (1, .int x1), (2, .ref x2), (3, .int x3)]) hx hb dX8_manyNow_317 hl (by decide) rfl (fun ls hl => ?_)
  refine lv_aload hx hb dX8_manyNow_319 (lv_at hl 0 rfl) ?_
  obtain ⟨hK_a102, h⟩ := h
  refine x_alen13 C hR hK_a102 dX8_manyNow_321 ?_
  refine lv_topi (fun x103 ex103 => ?_)
  replace h := h x103 ex103
  refine lv_istore (lv' := [(5, .int x103), (4, .ref a102), (0, .ref x0), (1, .int x1), (2, .ref x2), (3, .int x3)]) hx hb dX8_manyNow_322 hl (by decide) rfl (fun ls hl => ?_)
  refine lv_iconst (v := 0) hx hb dX8_manyNow_324 (by decide) ?_
  refine lv_istore (lv' := [(6, .int (0 : Int32)), (5, .int x103), (4, .ref a102), (0, .ref x0), (1, .int x1), (2, .ref x2), (3, .int x3)]) hx hb dX8_manyNow_325 hl (by decide) rfl (fun ls hl => ?_)
  obtain ⟨n9, h⟩ := h
  exact tA_X8_manyNow_b327 C hml hr hlocks  n9 kc ks x1 x2 x3 a102 x103 (0 : Int32) S hk h H locs ls hR hS (lv_sub (l' := [(1, .int x1), (2, .ref x2), (3, .int x3), (4, .ref a102), (5, .int x103), (6, .int (0 : Int32))]) hl [4, 5, 6, 2, 1, 0] rfl)
set_option maxHeartbeats 4000000 in
theorem tA_X8_manyNow_b186 {Q : Int32 → sT → Prop} (C : x_C p s m args c cX8_manyNow RX8 gg) (hml : c.maxLocals = 8) (hr : meth.sig.returnType = (some .int)) (hlocks : meth.locks = false) {mc ms kc ks : Nat} (hk : kc ≤ mc ∧ ks ≤ ms) {y0 : Int32}  {S : sT}  (h : wA_X8_manyNow_b186 mc ms kc ks y0 S  Q) : x_X p l e (rA_X8_manyNow mc ms) s m args below meth c gg 8 kc ks (MQ below (va_Qi Q (fun S1 t => s_Rep gg S1 t.heap) (s_A gg)) args s mc ms (s_A gg)) 186 [] [.int y0] S := by
  unfold wA_X8_manyNow_b186 at h
  obtain ⟨hx, hb, -⟩ := id C
  intro H locs ls hR hS hl
  refine W.widen (k := mc) (n := ms) hk.1 hk.2 ?_
  exact W.iret (v := y0) hx hb hr (fun t ht hW => ⟨⟨y0, S, rfl, h, x_rt ht hR⟩, hS.F ht⟩) hS.2.2 dX8_manyNow_186
set_option maxHeartbeats 4000000 in
theorem tA_X8_manyNow_b204 {Q : Int32 → sT → Prop} (C : x_C p s m args c cX8_manyNow RX8 gg) (hml : c.maxLocals = 8) (hr : meth.sig.returnType = (some .int)) (hlocks : meth.locks = false) {mc ms : Nat}   : ∀ (n : Nat) (kc ks : Nat) (x3 : Int32) (x4 : Nat) (x5 : Int32) (x6 : Int32) (S : sT), kc ≤ mc ∧ ks ≤ ms → wA_X8_manyNow_b204 mc ms  Q n kc ks x3 x4 x5 x6 S → x_X p l e (rA_X8_manyNow mc ms) s m args below meth c gg 8 kc ks (MQ below (va_Qi Q (fun S1 t => s_Rep gg S1 t.heap) (s_A gg)) args s mc ms (s_A gg)) 204 [(3, .int x3), (4, .ref x4), (5, .int x5), (6, .int x6)] [] S := by
  obtain ⟨hx, hb, -⟩ := id C
  intro n
  induction n with
  | zero => intro kc ks x3 x4 x5 x6 S hk h; exact absurd h id
  | succ n ih =>
    intro kc ks x3 x4 x5 x6 S hk h H locs ls hR hS hl
    unfold wA_X8_manyNow_b204 at h
    refine lv_iload hx hb dX8_manyNow_204 (lv_at hl 3 rfl) ?_
    refine lv_iload hx hb dX8_manyNow_206 (lv_at hl 2 rfl) ?_
    refine lv_icmp_ge (tgt := 231) hx hb dX8_manyNow_208 (by decide) (fun hc101 => ?_) (fun hc101 => ?_)
    · replace h := h.1 hc101
      refine lv_iload_n hx hb dX8_manyNow_231 rfl (lv_at hl 0 rfl) ?_
      refine W.widen (k := mc) (n := ms) hk.1 hk.2 ?_
      exact W.iret (v := x3) hx hb hr (fun t ht hW => ⟨⟨x3, S, rfl, h, x_rt ht hR⟩, hS.F ht⟩) hS.2.2 dX8_manyNow_232
    · replace h := h.2 hc101
      refine lv_aload hx hb dX8_manyNow_211 (lv_at hl 1 rfl) ?_
      refine lv_iload hx hb dX8_manyNow_213 (lv_at hl 3 rfl) ?_
      obtain ⟨hK_x4, h⟩ := h
      obtain ⟨hi102, a103, ea103, h⟩ := h
      refine x_aald13 C hR hK_x4 hi102 dX8_manyNow_215 ?_
      refine x_some ea103 ?_
      refine lv_astore (lv' := [(7, .ref a103), (3, .int x3), (4, .ref x4), (5, .int x5), (6, .int x6)]) hx hb dX8_manyNow_216 hl (by decide) rfl (fun ls hl => ?_)
      refine lv_iload_n hx hb dX8_manyNow_218 rfl (lv_at hl 1 rfl) ?_
      refine lv_aload hx hb dX8_manyNow_219 (lv_at hl 0 rfl) ?_
      refine lv_iconst (v := 4) hx hb dX8_manyNow_221 (by decide) ?_
      obtain ⟨hK_a103, h⟩ := h
      obtain ⟨hi104, h⟩ := h
      refine x_iald C hR hK_a103 hi104 dX8_manyNow_222 ?_
      refine lv_topi (fun x105 ex105 => ?_)
      replace h := h x105 ex105
      refine lv_iadd hx hb dX8_manyNow_223 ?_
      refine lv_topi (fun x106 ex106 => ?_)
      replace h := h x106 ex106
      refine lv_istore_n (lv' := [(3, .int x106), (7, .ref a103), (4, .ref x4), (5, .int x5), (6, .int x6)]) hx hb dX8_manyNow_224 rfl hl (by decide) rfl (fun ls hl => ?_)
      obtain ⟨x107, ex107⟩ : ∃ z : Int32, z = x6 + 1 := ⟨_, rfl⟩
      replace h := h x107 ex107
      refine lv_iinc (v := x107) (lv' := [(6, .int x107), (3, .int x106), (7, .ref a103), (4, .ref x4), (5, .int x5)]) hx hb dX8_manyNow_225 hl (k := 4) rfl (by rw [ex107]; rfl) (by decide) rfl (fun ls hl => ?_)
      refine lv_goto (tgt := 204) hx hb dX8_manyNow_228 (by decide) ?_
      exact ih kc ks x106 x4 x5 x107 S hk h H locs ls hR hS (lv_sub (l' := [(3, .int x106), (4, .ref x4), (5, .int x5), (6, .int x107)]) hl [1, 3, 4, 0] rfl)
set_option maxHeartbeats 4000000 in
theorem tA_X8_manyNow_b278 {Q : Int32 → sT → Prop} (C : x_C p s m args c cX8_manyNow RX8 gg) (hml : c.maxLocals = 8) (hr : meth.sig.returnType = (some .int)) (hlocks : meth.locks = false) {mc ms kc ks : Nat} (hk : kc ≤ mc ∧ ks ≤ ms) {x4 : Nat} {x5 : Int32} {x6 : Int32} {y0 : Int32} {y1 : Int32} {kk250 : Nat → Nat → Int32 → Nat → Int32 → Int32 → sT → Prop} {S : sT} (hk250 : ∀ (kc ks : Nat) (x3 : Int32) (x4 : Nat) (x5 : Int32) (x6 : Int32) (S : sT), kc ≤ mc ∧ ks ≤ ms → kk250 kc ks x3 x4 x5 x6 S → x_X p l e (rA_X8_manyNow mc ms) s m args below meth c gg 8 kc ks (MQ below (va_Qi Q (fun S1 t => s_Rep gg S1 t.heap) (s_A gg)) args s mc ms (s_A gg)) 250 [(3, .int x3), (4, .ref x4), (5, .int x5), (6, .int x6)] [] S) (h : wA_X8_manyNow_b278 mc ms kc ks x4 x5 x6 y0 y1 S kk250 Q) : x_X p l e (rA_X8_manyNow mc ms) s m args below meth c gg 8 kc ks (MQ below (va_Qi Q (fun S1 t => s_Rep gg S1 t.heap) (s_A gg)) args s mc ms (s_A gg)) 278 [(4, .ref x4), (5, .int x5), (6, .int x6)] [.int y0, .int y1] S := by
  unfold wA_X8_manyNow_b278 at h
  obtain ⟨hx, hb, -⟩ := id C
  intro H locs ls hR hS hl
  refine lv_iadd hx hb dX8_manyNow_278 ?_
  refine lv_topi (fun x101 ex101 => ?_)
  replace h := h x101 ex101
  refine lv_istore_n (lv' := [(3, .int x101), (4, .ref x4), (5, .int x5), (6, .int x6)]) hx hb dX8_manyNow_279 rfl hl (by decide) rfl (fun ls hl => ?_)
  obtain ⟨x102, ex102⟩ : ∃ z : Int32, z = x6 + 1 := ⟨_, rfl⟩
  replace h := h x102 ex102
  refine lv_iinc (v := x102) (lv' := [(6, .int x102), (3, .int x101), (4, .ref x4), (5, .int x5)]) hx hb dX8_manyNow_280 hl (k := 3) rfl (by rw [ex102]; rfl) (by decide) rfl (fun ls hl => ?_)
  refine lv_goto (tgt := 250) hx hb dX8_manyNow_283 (by decide) ?_
  exact hk250 kc ks x101 x4 x5 x102 S hk h H locs ls hR hS (lv_sub (l' := [(3, .int x101), (4, .ref x4), (5, .int x5), (6, .int x102)]) hl [1, 2, 3, 0] rfl)
set_option maxHeartbeats 4000000 in
theorem tA_X8_manyNow_b250 {Q : Int32 → sT → Prop} (C : x_C p s m args c cX8_manyNow RX8 gg) (hml : c.maxLocals = 8) (hr : meth.sig.returnType = (some .int)) (hlocks : meth.locks = false) {mc ms : Nat}   : ∀ (n : Nat) (kc ks : Nat) (x3 : Int32) (x4 : Nat) (x5 : Int32) (x6 : Int32) (S : sT), kc ≤ mc ∧ ks ≤ ms → wA_X8_manyNow_b250 mc ms  Q n kc ks x3 x4 x5 x6 S → x_X p l e (rA_X8_manyNow mc ms) s m args below meth c gg 8 kc ks (MQ below (va_Qi Q (fun S1 t => s_Rep gg S1 t.heap) (s_A gg)) args s mc ms (s_A gg)) 250 [(3, .int x3), (4, .ref x4), (5, .int x5), (6, .int x6)] [] S := by
  obtain ⟨hx, hb, -⟩ := id C
  intro n
  induction n with
  | zero => intro kc ks x3 x4 x5 x6 S hk h; exact absurd h id
  | succ n ih =>
    intro kc ks x3 x4 x5 x6 S hk h H locs ls hR hS hl
    unfold wA_X8_manyNow_b250 at h
    refine lv_iload hx hb dX8_manyNow_250 (lv_at hl 3 rfl) ?_
    refine lv_iload hx hb dX8_manyNow_252 (lv_at hl 2 rfl) ?_
    refine lv_icmp_ge (tgt := 286) hx hb dX8_manyNow_254 (by decide) (fun hc101 => ?_) (fun hc101 => ?_)
    · replace h := h.1 hc101
      refine lv_iload_n hx hb dX8_manyNow_286 rfl (lv_at hl 0 rfl) ?_
      refine W.widen (k := mc) (n := ms) hk.1 hk.2 ?_
      exact W.iret (v := x3) hx hb hr (fun t ht hW => ⟨⟨x3, S, rfl, h, x_rt ht hR⟩, hS.F ht⟩) hS.2.2 dX8_manyNow_287
    · replace h := h.2 hc101
      refine lv_aload hx hb dX8_manyNow_257 (lv_at hl 1 rfl) ?_
      refine lv_iload hx hb dX8_manyNow_259 (lv_at hl 3 rfl) ?_
      obtain ⟨hK_x4, h⟩ := h
      obtain ⟨hi102, a103, ea103, h⟩ := h
      refine x_aald13 C hR hK_x4 hi102 dX8_manyNow_261 ?_
      refine x_some ea103 ?_
      refine lv_astore (lv' := [(7, .ref a103), (3, .int x3), (4, .ref x4), (5, .int x5), (6, .int x6)]) hx hb dX8_manyNow_262 hl (by decide) rfl (fun ls hl => ?_)
      refine lv_iload_n hx hb dX8_manyNow_264 rfl (lv_at hl 1 rfl) ?_
      refine lv_aload hx hb dX8_manyNow_265 (lv_at hl 0 rfl) ?_
      refine lv_bipush (v := 17) hx hb dX8_manyNow_267 (by decide) ?_
      obtain ⟨hK_a103, h⟩ := h
      obtain ⟨hi104, h⟩ := h
      refine x_iald C hR hK_a103 hi104 dX8_manyNow_269 ?_
      refine lv_topi (fun x105 ex105 => ?_)
      replace h := h x105 ex105
      refine lv_if_ge (tgt := 277) hx hb dX8_manyNow_270 (by decide) (fun hc106 => ?_) (fun hc106 => ?_)
      · replace h := h.1 hc106
        refine lv_iconst (v := 0) hx hb dX8_manyNow_277 (by decide) ?_
        exact tA_X8_manyNow_b278 C hml hr hlocks hk (fun kc ks x3 x4 x5 x6 S hk h => ih kc ks x3 x4 x5 x6 S hk h) h H locs ls hR hS (lv_sub (l' := [(4, .ref x4), (5, .int x5), (6, .int x6)]) hl [2, 3, 4] rfl)
      · replace h := h.2 hc106
        refine lv_iconst (v := 1) hx hb dX8_manyNow_273 (by decide) ?_
        refine lv_goto (tgt := 278) hx hb dX8_manyNow_274 (by decide) ?_
        exact tA_X8_manyNow_b278 C hml hr hlocks hk (fun kc ks x3 x4 x5 x6 S hk h => ih kc ks x3 x4 x5 x6 S hk h) h H locs ls hR hS (lv_sub (l' := [(4, .ref x4), (5, .int x5), (6, .int x6)]) hl [2, 3, 4] rfl)
set_option maxHeartbeats 4000000 in
theorem tA_X8_manyNow_b0 {Q : Int32 → sT → Prop} (C : x_C p s m args c cX8_manyNow RX8 gg) (hml : c.maxLocals = 8) (hr : meth.sig.returnType = (some .int)) (hlocks : meth.locks = false) {mc ms kc ks : Nat} (hk : kc ≤ mc ∧ ks ≤ ms) {x0 : Nat} {x1 : Int32}  {S : sT}  (h : wA_X8_manyNow_b0 mc ms kc ks x0 x1 S  Q) : x_X p l e (rA_X8_manyNow mc ms) s m args below meth c gg 8 kc ks (MQ below (va_Qi Q (fun S1 t => s_Rep gg S1 t.heap) (s_A gg)) args s mc ms (s_A gg)) 0 [(0, .ref x0), (1, .int x1)] [] S := by
  unfold wA_X8_manyNow_b0 at h
  obtain ⟨hx, hb, -⟩ := id C
  intro H locs ls hR hS hl
  refine lv_bipush (v := 12) hx hb dX8_manyNow_0 (by decide) ?_
  obtain ⟨hk1, hk2, h⟩ := h
  refine x_newi (N1 := 12) C hR hS q_3_13 (by decide) (by decide) (by decide) hk1 hk2 dX8_manyNow_2 (fun q101 H hq9 hq hR hS => ?_)
  replace h := h q101 hq
  have hk : (kc + 1) ≤ mc ∧ (ks + 12) ≤ ms := ⟨hk1, hk2⟩
  obtain ⟨S102, eS102⟩ : ∃ z : sT, z = s_nw S q101 11 12 := ⟨_, rfl⟩
  rw [← eS102] at hR
  replace h := h S102 eS102
  have hK_q101 : s_K S102 q101 = 11 := by rw [eS102]; exact s_nw_K
  refine lv_dup hx hb dX8_manyNow_4 rfl ?_
  refine lv_iconst (v := 0) hx hb dX8_manyNow_5 (by decide) ?_
  refine lv_iconst (v := 0) hx hb dX8_manyNow_6 (by decide) ?_
  obtain ⟨hi103, h⟩ := h
  refine x_iast C hR hK_q101 hS hi103 dX8_manyNow_7 (fun H locs hR hS => ?_)
  obtain ⟨S104, eS104⟩ : ∃ z : sT, z = s_sB S102 q101 (Int32.toNatClampNeg (0 : Int32)) (0 : Int32) := ⟨_, rfl⟩
  rw [← eS104] at hR
  replace h := h S104 eS104
  have hK_q101 : s_K S104 q101 = 11 := by rw [eS104]; exact hK_q101
  refine lv_dup hx hb dX8_manyNow_8 rfl ?_
  refine lv_iconst (v := 1) hx hb dX8_manyNow_9 (by decide) ?_
  refine lv_iconst (v := 0) hx hb dX8_manyNow_10 (by decide) ?_
  obtain ⟨hi105, h⟩ := h
  refine x_iast C hR hK_q101 hS hi105 dX8_manyNow_11 (fun H locs hR hS => ?_)
  obtain ⟨S106, eS106⟩ : ∃ z : sT, z = s_sB S104 q101 (Int32.toNatClampNeg (1 : Int32)) (0 : Int32) := ⟨_, rfl⟩
  rw [← eS106] at hR
  replace h := h S106 eS106
  have hK_q101 : s_K S106 q101 = 11 := by rw [eS106]; exact hK_q101
  refine lv_dup hx hb dX8_manyNow_12 rfl ?_
  refine lv_iconst (v := 2) hx hb dX8_manyNow_13 (by decide) ?_
  refine lv_iconst (v := 0) hx hb dX8_manyNow_14 (by decide) ?_
  obtain ⟨hi107, h⟩ := h
  refine x_iast C hR hK_q101 hS hi107 dX8_manyNow_15 (fun H locs hR hS => ?_)
  obtain ⟨S108, eS108⟩ : ∃ z : sT, z = s_sB S106 q101 (Int32.toNatClampNeg (2 : Int32)) (0 : Int32) := ⟨_, rfl⟩
  rw [← eS108] at hR
  replace h := h S108 eS108
  have hK_q101 : s_K S108 q101 = 11 := by rw [eS108]; exact hK_q101
  refine lv_dup hx hb dX8_manyNow_16 rfl ?_
  refine lv_iconst (v := 3) hx hb dX8_manyNow_17 (by decide) ?_
  refine lv_iconst (v := 0) hx hb dX8_manyNow_18 (by decide) ?_
  obtain ⟨hi109, h⟩ := h
  refine x_iast C hR hK_q101 hS hi109 dX8_manyNow_19 (fun H locs hR hS => ?_)
  obtain ⟨S110, eS110⟩ : ∃ z : sT, z = s_sB S108 q101 (Int32.toNatClampNeg (3 : Int32)) (0 : Int32) := ⟨_, rfl⟩
  rw [← eS110] at hR
  replace h := h S110 eS110
  have hK_q101 : s_K S110 q101 = 11 := by rw [eS110]; exact hK_q101
  refine lv_dup hx hb dX8_manyNow_20 rfl ?_
  refine lv_iconst (v := 4) hx hb dX8_manyNow_21 (by decide) ?_
  refine lv_iconst (v := 0) hx hb dX8_manyNow_22 (by decide) ?_
  obtain ⟨hi111, h⟩ := h
  refine x_iast C hR hK_q101 hS hi111 dX8_manyNow_23 (fun H locs hR hS => ?_)
  obtain ⟨S112, eS112⟩ : ∃ z : sT, z = s_sB S110 q101 (Int32.toNatClampNeg (4 : Int32)) (0 : Int32) := ⟨_, rfl⟩
  rw [← eS112] at hR
  replace h := h S112 eS112
  have hK_q101 : s_K S112 q101 = 11 := by rw [eS112]; exact hK_q101
  refine lv_dup hx hb dX8_manyNow_24 rfl ?_
  refine lv_iconst (v := 5) hx hb dX8_manyNow_25 (by decide) ?_
  refine lv_bipush (v := 8) hx hb dX8_manyNow_26 (by decide) ?_
  obtain ⟨hi113, h⟩ := h
  refine x_iast C hR hK_q101 hS hi113 dX8_manyNow_28 (fun H locs hR hS => ?_)
  obtain ⟨S114, eS114⟩ : ∃ z : sT, z = s_sB S112 q101 (Int32.toNatClampNeg (5 : Int32)) (8 : Int32) := ⟨_, rfl⟩
  rw [← eS114] at hR
  replace h := h S114 eS114
  have hK_q101 : s_K S114 q101 = 11 := by rw [eS114]; exact hK_q101
  refine lv_dup hx hb dX8_manyNow_29 rfl ?_
  refine lv_bipush (v := 6) hx hb dX8_manyNow_30 (by decide) ?_
  refine lv_bipush (v := 17) hx hb dX8_manyNow_32 (by decide) ?_
  obtain ⟨hi115, h⟩ := h
  refine x_iast C hR hK_q101 hS hi115 dX8_manyNow_34 (fun H locs hR hS => ?_)
  obtain ⟨S116, eS116⟩ : ∃ z : sT, z = s_sB S114 q101 (Int32.toNatClampNeg (6 : Int32)) (17 : Int32) := ⟨_, rfl⟩
  rw [← eS116] at hR
  replace h := h S116 eS116
  have hK_q101 : s_K S116 q101 = 11 := by rw [eS116]; exact hK_q101
  refine lv_dup hx hb dX8_manyNow_35 rfl ?_
  refine lv_bipush (v := 7) hx hb dX8_manyNow_36 (by decide) ?_
  refine lv_iconst (v := 0) hx hb dX8_manyNow_38 (by decide) ?_
  obtain ⟨hi117, h⟩ := h
  refine x_iast C hR hK_q101 hS hi117 dX8_manyNow_39 (fun H locs hR hS => ?_)
  obtain ⟨S118, eS118⟩ : ∃ z : sT, z = s_sB S116 q101 (Int32.toNatClampNeg (7 : Int32)) (0 : Int32) := ⟨_, rfl⟩
  rw [← eS118] at hR
  replace h := h S118 eS118
  have hK_q101 : s_K S118 q101 = 11 := by rw [eS118]; exact hK_q101
  refine lv_dup hx hb dX8_manyNow_40 rfl ?_
  refine lv_bipush (v := 8) hx hb dX8_manyNow_41 (by decide) ?_
  refine lv_iconst (v := 0) hx hb dX8_manyNow_43 (by decide) ?_
  obtain ⟨hi119, h⟩ := h
  refine x_iast C hR hK_q101 hS hi119 dX8_manyNow_44 (fun H locs hR hS => ?_)
  obtain ⟨S120, eS120⟩ : ∃ z : sT, z = s_sB S118 q101 (Int32.toNatClampNeg (8 : Int32)) (0 : Int32) := ⟨_, rfl⟩
  rw [← eS120] at hR
  replace h := h S120 eS120
  have hK_q101 : s_K S120 q101 = 11 := by rw [eS120]; exact hK_q101
  refine lv_dup hx hb dX8_manyNow_45 rfl ?_
  refine lv_bipush (v := 9) hx hb dX8_manyNow_46 (by decide) ?_
  refine lv_iconst (v := 0) hx hb dX8_manyNow_48 (by decide) ?_
  obtain ⟨hi121, h⟩ := h
  refine x_iast C hR hK_q101 hS hi121 dX8_manyNow_49 (fun H locs hR hS => ?_)
  obtain ⟨S122, eS122⟩ : ∃ z : sT, z = s_sB S120 q101 (Int32.toNatClampNeg (9 : Int32)) (0 : Int32) := ⟨_, rfl⟩
  rw [← eS122] at hR
  replace h := h S122 eS122
  have hK_q101 : s_K S122 q101 = 11 := by rw [eS122]; exact hK_q101
  refine lv_dup hx hb dX8_manyNow_50 rfl ?_
  refine lv_bipush (v := 10) hx hb dX8_manyNow_51 (by decide) ?_
  refine lv_iconst (v := 0) hx hb dX8_manyNow_53 (by decide) ?_
  obtain ⟨hi123, h⟩ := h
  refine x_iast C hR hK_q101 hS hi123 dX8_manyNow_54 (fun H locs hR hS => ?_)
  obtain ⟨S124, eS124⟩ : ∃ z : sT, z = s_sB S122 q101 (Int32.toNatClampNeg (10 : Int32)) (0 : Int32) := ⟨_, rfl⟩
  rw [← eS124] at hR
  replace h := h S124 eS124
  have hK_q101 : s_K S124 q101 = 11 := by rw [eS124]; exact hK_q101
  refine lv_dup hx hb dX8_manyNow_55 rfl ?_
  refine lv_bipush (v := 11) hx hb dX8_manyNow_56 (by decide) ?_
  refine lv_bipush (v := 15) hx hb dX8_manyNow_58 (by decide) ?_
  obtain ⟨hi125, h⟩ := h
  refine x_iast C hR hK_q101 hS hi125 dX8_manyNow_60 (fun H locs hR hS => ?_)
  obtain ⟨S126, eS126⟩ : ∃ z : sT, z = s_sB S124 q101 (Int32.toNatClampNeg (11 : Int32)) (15 : Int32) := ⟨_, rfl⟩
  rw [← eS126] at hR
  replace h := h S126 eS126
  have hK_q101 : s_K S126 q101 = 11 := by rw [eS126]; exact hK_q101
  refine lv_astore_n (lv' := [(2, .ref q101), (0, .ref x0), (1, .int x1)]) hx hb dX8_manyNow_61 rfl hl (by decide) rfl (fun ls hl => ?_)
  refine lv_iconst (v := 0) hx hb dX8_manyNow_62 (by decide) ?_
  refine lv_istore_n (lv' := [(3, .int (0 : Int32)), (2, .ref q101), (0, .ref x0), (1, .int x1)]) hx hb dX8_manyNow_63 rfl hl (by decide) rfl (fun ls hl => ?_)
  refine lv_iload_n hx hb dX8_manyNow_64 rfl (lv_at hl 3 rfl) ?_
  by_cases hc127 : x1 = 0
  · have h := h.1 hc127
    refine lv_tableIn (off := 59) (tgt := 124) hx hb dX8_manyNow_65 (by rw [hc127]; decide) (by rw [hc127]; decide) (by rw [hc127]; rfl) (by decide) ?_
    refine lv_aload_n hx hb dX8_manyNow_124 rfl (lv_at hl 2 rfl) ?_
    obtain ⟨hK_x0, h⟩ := h
    refine x_g_289 C hR hK_x0 q_3_8 dX8_manyNow_125 ?_
    obtain ⟨a128, ea128, h⟩ := h
    refine x_some ea128 ?_
    obtain ⟨hK_a128, h⟩ := h
    refine x_gN_256 C hR hK_a128 (xn_2 C) dX8_manyNow_128 ?_
    obtain ⟨a129, ea129, h⟩ := h
    refine x_some ea129 ?_
    obtain ⟨hK_a129, h⟩ := h
    refine x_alen13 C hR hK_a129 dX8_manyNow_131 ?_
    refine lv_topi (fun x130 ex130 => ?_)
    replace h := h x130 ex130
    refine W.widen (k := mc) (n := ms) hk.1 hk.2 ?_
    exact W.iret (v := x130) hx hb hr (fun t ht hW => ⟨⟨x130, S126, rfl, h, x_rt ht hR⟩, hS.F ht⟩) hS.2.2 dX8_manyNow_132
  · by_cases hc131 : x1 = 1
    · have h := h.2.1 hc131
      refine lv_tableIn (off := 68) (tgt := 133) hx hb dX8_manyNow_65 (by rw [hc131]; decide) (by rw [hc131]; decide) (by rw [hc131]; rfl) (by decide) ?_
      refine lv_aload_n hx hb dX8_manyNow_133 rfl (lv_at hl 2 rfl) ?_
      obtain ⟨hK_x0, h⟩ := h
      refine x_g_289 C hR hK_x0 q_3_8 dX8_manyNow_134 ?_
      obtain ⟨a132, ea132, h⟩ := h
      refine x_some ea132 ?_
      obtain ⟨hK_a132, h⟩ := h
      refine x_gN_257 C hR hK_a132 (xn_1 C) dX8_manyNow_137 ?_
      obtain ⟨a133, ea133, h⟩ := h
      refine x_some ea133 ?_
      obtain ⟨hK_a133, h⟩ := h
      refine x_alen13 C hR hK_a133 dX8_manyNow_140 ?_
      refine lv_topi (fun x134 ex134 => ?_)
      replace h := h x134 ex134
      refine W.widen (k := mc) (n := ms) hk.1 hk.2 ?_
      exact W.iret (v := x134) hx hb hr (fun t ht hW => ⟨⟨x134, S126, rfl, h, x_rt ht hR⟩, hS.F ht⟩) hS.2.2 dX8_manyNow_141
    · by_cases hc135 : x1 = 2
      · have h := h.2.2.1 hc135
        refine lv_tableIn (off := 77) (tgt := 142) hx hb dX8_manyNow_65 (by rw [hc135]; decide) (by rw [hc135]; decide) (by rw [hc135]; rfl) (by decide) ?_
        refine lv_aload_n hx hb dX8_manyNow_142 rfl (lv_at hl 2 rfl) ?_
        obtain ⟨hK_x0, h⟩ := h
        refine x_g_289 C hR hK_x0 q_3_8 dX8_manyNow_143 ?_
        obtain ⟨a136, ea136, h⟩ := h
        refine x_some ea136 ?_
        obtain ⟨hK_a136, h⟩ := h
        refine x_gN_258 C hR hK_a136 (xn_0 C) dX8_manyNow_146 ?_
        obtain ⟨a137, ea137, h⟩ := h
        refine x_some ea137 ?_
        refine lv_iconst (v := 0) hx hb dX8_manyNow_149 (by decide) ?_
        obtain ⟨hK_a137, h⟩ := h
        obtain ⟨hi138, h⟩ := h
        refine x_iald C hR hK_a137 hi138 dX8_manyNow_150 ?_
        refine lv_topi (fun x139 ex139 => ?_)
        replace h := h x139 ex139
        refine W.widen (k := mc) (n := ms) hk.1 hk.2 ?_
        exact W.iret (v := x139) hx hb hr (fun t ht hW => ⟨⟨x139, S126, rfl, h, x_rt ht hR⟩, hS.F ht⟩) hS.2.2 dX8_manyNow_151
      · by_cases hc140 : x1 = 3
        · have h := h.2.2.2.1 hc140
          refine lv_tableIn (off := 87) (tgt := 152) hx hb dX8_manyNow_65 (by rw [hc140]; decide) (by rw [hc140]; decide) (by rw [hc140]; rfl) (by decide) ?_
          refine lv_aload_n hx hb dX8_manyNow_152 rfl (lv_at hl 2 rfl) ?_
          obtain ⟨hK_x0, h⟩ := h
          refine x_g_289 C hR hK_x0 q_3_8 dX8_manyNow_153 ?_
          obtain ⟨a141, ea141, h⟩ := h
          refine x_some ea141 ?_
          obtain ⟨hK_a141, h⟩ := h
          refine x_gN_258 C hR hK_a141 (xn_0 C) dX8_manyNow_156 ?_
          obtain ⟨a142, ea142, h⟩ := h
          refine x_some ea142 ?_
          refine lv_iconst (v := 0) hx hb dX8_manyNow_159 (by decide) ?_
          obtain ⟨hK_a142, h⟩ := h
          obtain ⟨hi143, h⟩ := h
          refine x_iald C hR hK_a142 hi143 dX8_manyNow_160 ?_
          refine lv_topi (fun x144 ex144 => ?_)
          replace h := h x144 ex144
          refine lv_sipush (v := 210) hx hb dX8_manyNow_161 (by decide) ?_
          refine lv_irem hx hb dX8_manyNow_164 (by decide) ?_
          refine lv_topi (fun x145 ex145 => ?_)
          replace h := h x145 ex145
          refine W.widen (k := mc) (n := ms) hk.1 hk.2 ?_
          exact W.iret (v := x145) hx hb hr (fun t ht hW => ⟨⟨x145, S126, rfl, h, x_rt ht hR⟩, hS.F ht⟩) hS.2.2 dX8_manyNow_165
        · by_cases hc146 : x1 = 4
          · have h := h.2.2.2.2.1 hc146
            refine lv_tableIn (off := 101) (tgt := 166) hx hb dX8_manyNow_65 (by rw [hc146]; decide) (by rw [hc146]; decide) (by rw [hc146]; rfl) (by decide) ?_
            refine lv_aload_n hx hb dX8_manyNow_166 rfl (lv_at hl 2 rfl) ?_
            obtain ⟨hK_x0, h⟩ := h
            refine x_g_289 C hR hK_x0 q_3_8 dX8_manyNow_167 ?_
            obtain ⟨a147, ea147, h⟩ := h
            refine x_some ea147 ?_
            obtain ⟨hK_a147, h⟩ := h
            refine x_gN_258 C hR hK_a147 (xn_0 C) dX8_manyNow_170 ?_
            obtain ⟨a148, ea148, h⟩ := h
            refine x_some ea148 ?_
            refine lv_iconst (v := 0) hx hb dX8_manyNow_173 (by decide) ?_
            obtain ⟨hK_a148, h⟩ := h
            obtain ⟨hi149, h⟩ := h
            refine x_iald C hR hK_a148 hi149 dX8_manyNow_174 ?_
            refine lv_topi (fun x150 ex150 => ?_)
            replace h := h x150 ex150
            refine lv_bipush (v := 30) hx hb dX8_manyNow_175 (by decide) ?_
            refine lv_irem hx hb dX8_manyNow_177 (by decide) ?_
            refine lv_topi (fun x151 ex151 => ?_)
            replace h := h x151 ex151
            refine lv_if_ne (tgt := 185) hx hb dX8_manyNow_178 (by decide) (fun hc152 => ?_) (fun hc152 => ?_)
            · replace h := h.1 hc152
              refine lv_iconst (v := 0) hx hb dX8_manyNow_185 (by decide) ?_
              exact tA_X8_manyNow_b186 C hml hr hlocks hk  h H locs ls hR hS (lv_sub (l' := []) hl [] rfl)
            · replace h := h.2 hc152
              refine lv_iconst (v := 1) hx hb dX8_manyNow_181 (by decide) ?_
              refine lv_goto (tgt := 186) hx hb dX8_manyNow_182 (by decide) ?_
              exact tA_X8_manyNow_b186 C hml hr hlocks hk  h H locs ls hR hS (lv_sub (l' := []) hl [] rfl)
          · by_cases hc153 : x1 = 5
            · have h := h.2.2.2.2.2.1 hc153
              refine lv_tableIn (off := 245) (tgt := 310) hx hb dX8_manyNow_65 (by rw [hc153]; decide) (by rw [hc153]; decide) (by rw [hc153]; rfl) (by decide) ?_
              exact tA_X8_manyNow_b310 C hml hr hlocks hk  h H locs ls hR hS (lv_sub (l' := [(0, .ref x0), (1, .int x1), (2, .ref q101), (3, .int (0 : Int32))]) hl [2, 3, 1, 0] rfl)
            · by_cases hc154 : x1 = 6
              · have h := h.2.2.2.2.2.2.1 hc154
                refine lv_tableIn (off := 245) (tgt := 310) hx hb dX8_manyNow_65 (by rw [hc154]; decide) (by rw [hc154]; decide) (by rw [hc154]; rfl) (by decide) ?_
                exact tA_X8_manyNow_b310 C hml hr hlocks hk  h H locs ls hR hS (lv_sub (l' := [(0, .ref x0), (1, .int x1), (2, .ref q101), (3, .int (0 : Int32))]) hl [2, 3, 1, 0] rfl)
              · by_cases hc155 : x1 = 7
                · have h := h.2.2.2.2.2.2.2.1 hc155
                  refine lv_tableIn (off := 122) (tgt := 187) hx hb dX8_manyNow_65 (by rw [hc155]; decide) (by rw [hc155]; decide) (by rw [hc155]; rfl) (by decide) ?_
                  refine lv_aload_n hx hb dX8_manyNow_187 rfl (lv_at hl 2 rfl) ?_
                  obtain ⟨hK_x0, h⟩ := h
                  refine x_g_289 C hR hK_x0 q_3_8 dX8_manyNow_188 ?_
                  obtain ⟨a156, ea156, h⟩ := h
                  refine x_some ea156 ?_
                  obtain ⟨hK_a156, h⟩ := h
                  refine x_gN_256 C hR hK_a156 (xn_2 C) dX8_manyNow_191 ?_
                  obtain ⟨a157, ea157, h⟩ := h
                  refine x_some ea157 ?_
                  refine lv_astore (lv' := [(4, .ref a157), (3, .int (0 : Int32)), (2, .ref q101), (0, .ref x0), (1, .int x1)]) hx hb dX8_manyNow_194 hl (by decide) rfl (fun ls hl => ?_)
                  refine lv_aload hx hb dX8_manyNow_196 (lv_at hl 0 rfl) ?_
                  obtain ⟨hK_a157, h⟩ := h
                  refine x_alen13 C hR hK_a157 dX8_manyNow_198 ?_
                  refine lv_topi (fun x158 ex158 => ?_)
                  replace h := h x158 ex158
                  refine lv_istore (lv' := [(5, .int x158), (4, .ref a157), (3, .int (0 : Int32)), (2, .ref q101), (0, .ref x0), (1, .int x1)]) hx hb dX8_manyNow_199 hl (by decide) rfl (fun ls hl => ?_)
                  refine lv_iconst (v := 0) hx hb dX8_manyNow_201 (by decide) ?_
                  refine lv_istore (lv' := [(6, .int (0 : Int32)), (5, .int x158), (4, .ref a157), (3, .int (0 : Int32)), (2, .ref q101), (0, .ref x0), (1, .int x1)]) hx hb dX8_manyNow_202 hl (by decide) rfl (fun ls hl => ?_)
                  obtain ⟨n9, h⟩ := h
                  exact tA_X8_manyNow_b204 C hml hr hlocks  n9 (kc + 1) (ks + 12) (0 : Int32) a157 x158 (0 : Int32) S126 hk h H locs ls hR hS (lv_sub (l' := [(3, .int (0 : Int32)), (4, .ref a157), (5, .int x158), (6, .int (0 : Int32))]) hl [3, 2, 1, 0] rfl)
                · by_cases hc159 : x1 = 8
                  · have h := h.2.2.2.2.2.2.2.2.1 hc159
                    refine lv_tableIn (off := 168) (tgt := 233) hx hb dX8_manyNow_65 (by rw [hc159]; decide) (by rw [hc159]; decide) (by rw [hc159]; rfl) (by decide) ?_
                    refine lv_aload_n hx hb dX8_manyNow_233 rfl (lv_at hl 2 rfl) ?_
                    obtain ⟨hK_x0, h⟩ := h
                    refine x_g_289 C hR hK_x0 q_3_8 dX8_manyNow_234 ?_
                    obtain ⟨a160, ea160, h⟩ := h
                    refine x_some ea160 ?_
                    obtain ⟨hK_a160, h⟩ := h
                    refine x_gN_257 C hR hK_a160 (xn_1 C) dX8_manyNow_237 ?_
                    obtain ⟨a161, ea161, h⟩ := h
                    refine x_some ea161 ?_
                    refine lv_astore (lv' := [(4, .ref a161), (3, .int (0 : Int32)), (2, .ref q101), (0, .ref x0), (1, .int x1)]) hx hb dX8_manyNow_240 hl (by decide) rfl (fun ls hl => ?_)
                    refine lv_aload hx hb dX8_manyNow_242 (lv_at hl 0 rfl) ?_
                    obtain ⟨hK_a161, h⟩ := h
                    refine x_alen13 C hR hK_a161 dX8_manyNow_244 ?_
                    refine lv_topi (fun x162 ex162 => ?_)
                    replace h := h x162 ex162
                    refine lv_istore (lv' := [(5, .int x162), (4, .ref a161), (3, .int (0 : Int32)), (2, .ref q101), (0, .ref x0), (1, .int x1)]) hx hb dX8_manyNow_245 hl (by decide) rfl (fun ls hl => ?_)
                    refine lv_iconst (v := 0) hx hb dX8_manyNow_247 (by decide) ?_
                    refine lv_istore (lv' := [(6, .int (0 : Int32)), (5, .int x162), (4, .ref a161), (3, .int (0 : Int32)), (2, .ref q101), (0, .ref x0), (1, .int x1)]) hx hb dX8_manyNow_248 hl (by decide) rfl (fun ls hl => ?_)
                    obtain ⟨n9, h⟩ := h
                    exact tA_X8_manyNow_b250 C hml hr hlocks  n9 (kc + 1) (ks + 12) (0 : Int32) a161 x162 (0 : Int32) S126 hk h H locs ls hR hS (lv_sub (l' := [(3, .int (0 : Int32)), (4, .ref a161), (5, .int x162), (6, .int (0 : Int32))]) hl [3, 2, 1, 0] rfl)
                  · by_cases hc163 : x1 = 9
                    · have h := h.2.2.2.2.2.2.2.2.2.1 hc163
                      refine lv_tableIn (off := 223) (tgt := 288) hx hb dX8_manyNow_65 (by rw [hc163]; decide) (by rw [hc163]; decide) (by rw [hc163]; rfl) (by decide) ?_
                      refine lv_aload_n hx hb dX8_manyNow_288 rfl (lv_at hl 2 rfl) ?_
                      obtain ⟨hK_x0, h⟩ := h
                      refine x_g_289 C hR hK_x0 q_3_8 dX8_manyNow_289 ?_
                      obtain ⟨a164, ea164, h⟩ := h
                      refine x_some ea164 ?_
                      obtain ⟨hK_a164, h⟩ := h
                      refine x_gN_258 C hR hK_a164 (xn_0 C) dX8_manyNow_292 ?_
                      obtain ⟨a165, ea165, h⟩ := h
                      refine x_some ea165 ?_
                      refine lv_bipush (v := 9) hx hb dX8_manyNow_295 (by decide) ?_
                      obtain ⟨hK_a165, h⟩ := h
                      obtain ⟨hi166, h⟩ := h
                      refine x_iald C hR hK_a165 hi166 dX8_manyNow_297 ?_
                      refine lv_topi (fun x167 ex167 => ?_)
                      replace h := h x167 ex167
                      refine W.widen (k := mc) (n := ms) hk.1 hk.2 ?_
                      exact W.iret (v := x167) hx hb hr (fun t ht hW => ⟨⟨x167, S126, rfl, h, x_rt ht hR⟩, hS.F ht⟩) hS.2.2 dX8_manyNow_298
                    · by_cases hc168 : x1 = 10
                      · have h := h.2.2.2.2.2.2.2.2.2.2.1 hc168
                        refine lv_tableIn (off := 234) (tgt := 299) hx hb dX8_manyNow_65 (by rw [hc168]; decide) (by rw [hc168]; decide) (by rw [hc168]; rfl) (by decide) ?_
                        refine lv_aload_n hx hb dX8_manyNow_299 rfl (lv_at hl 2 rfl) ?_
                        obtain ⟨hK_x0, h⟩ := h
                        refine x_g_289 C hR hK_x0 q_3_8 dX8_manyNow_300 ?_
                        obtain ⟨a169, ea169, h⟩ := h
                        refine x_some ea169 ?_
                        obtain ⟨hK_a169, h⟩ := h
                        refine x_gN_258 C hR hK_a169 (xn_0 C) dX8_manyNow_303 ?_
                        obtain ⟨a170, ea170, h⟩ := h
                        refine x_some ea170 ?_
                        refine lv_bipush (v := 10) hx hb dX8_manyNow_306 (by decide) ?_
                        obtain ⟨hK_a170, h⟩ := h
                        obtain ⟨hi171, h⟩ := h
                        refine x_iald C hR hK_a170 hi171 dX8_manyNow_308 ?_
                        refine lv_topi (fun x172 ex172 => ?_)
                        replace h := h x172 ex172
                        refine W.widen (k := mc) (n := ms) hk.1 hk.2 ?_
                        exact W.iret (v := x172) hx hb hr (fun t ht hW => ⟨⟨x172, S126, rfl, h, x_rt ht hR⟩, hS.F ht⟩) hS.2.2 dX8_manyNow_309
                      · have h := h.2.2.2.2.2.2.2.2.2.2.2 ⟨hc127, hc131, hc135, hc140, hc146, hc153, hc154, hc155, hc159, hc163, hc168⟩
                        refine lv_tableOut (tgt := 310) hx hb dX8_manyNow_65 (x_tout 0 10 (fun q1 q2 => ?_)) (by decide) ?_
                        · rcases (show x1.toInt = 0 ∨ x1.toInt = 1 ∨ x1.toInt = 2 ∨ x1.toInt = 3 ∨ x1.toInt = 4 ∨ x1.toInt = 5 ∨ x1.toInt = 6 ∨ x1.toInt = 7 ∨ x1.toInt = 8 ∨ x1.toInt = 9 ∨ x1.toInt = 10 by omega) with z | z | z | z | z | z | z | z | z | z | z
                          · exact hc127 (x_ti z (by decide))
                          · exact hc131 (x_ti z (by decide))
                          · exact hc135 (x_ti z (by decide))
                          · exact hc140 (x_ti z (by decide))
                          · exact hc146 (x_ti z (by decide))
                          · exact hc153 (x_ti z (by decide))
                          · exact hc154 (x_ti z (by decide))
                          · exact hc155 (x_ti z (by decide))
                          · exact hc159 (x_ti z (by decide))
                          · exact hc163 (x_ti z (by decide))
                          · exact hc168 (x_ti z (by decide))
                        exact tA_X8_manyNow_b310 C hml hr hlocks hk  h H locs ls hR hS (lv_sub (l' := [(0, .ref x0), (1, .int x1), (2, .ref q101), (3, .int (0 : Int32))]) hl [2, 3, 1, 0] rfl)
theorem mA_X8_manyNow (l : Launch) (gg : sG) (mc ms : Nat) (x0 : Nat) (x1 : Int32) (S : sT) {Q : Int32 → sT → Prop} (h : wA_X8_manyNow mc ms x0 x1 S Q) : x_Mi l gg yX8_manyNow (x_ws yX8_manyNow cX8_manyNow 8 (some .int)) (rA_X8_manyNow mc ms) [.ref x0, .int x1] S Q mc ms := by
  refine x_ofW (cc := cX8_manyNow) (own := RX8) (by decide +kernel) rfl (Nat.le_of_ble_eq_true rfl) ?_
  intro p e s m args below meth c C hml hr hlocks hin ht H locs ls hR hS hl
  exact tA_X8_manyNow_b0 C hml hr hlocks ⟨Nat.zero_le _, Nat.zero_le _⟩ h H locs ls hR hS (lv_sub (l' := [(0, .ref x0), (1, .int x1)]) hl [0, 1] rfl)
def wA_X8_many_b28 (mc ms kc ks : Nat) (y0 : Int32) (S : sT)  (Q : Int32 → sT → Prop) : Prop :=
Q y0 S
def wA_X8_many_b0 (mc ms kc ks : Nat) (x0 : Nat) (x1 : Int32) (S : sT)  (Q : Int32 → sT → Prop) : Prop :=
s_K S x0 = 10 ∧
    ∀ S101 : sT, S101 = s_sI S 288 x0 (0 : Int32) →
    w_X8_is x1 (0 : Int32) (11 : Int32) S101 (fun x103 S102 =>
    ((x103 = 0 → s_K S102 x0 = 10 ∧
    w_X8_refuse x0 (1 : Int32) S102 (fun x106 S105 =>
    wA_X8_many_b28 mc ms kc ks x106 S105  Q)) ∧
    (¬ x103 = 0 → s_K S102 x0 = 10 ∧
    ∃ c107 d108 : Nat, kc + c107 ≤ mc ∧ ks + d108 ≤ ms ∧
    wA_X8_manyNow c107 d108 x0 x1 S102 (fun x110 S109 =>
    wA_X8_many_b28 mc ms (kc + c107) (ks + d108) x110 S109  Q))))
def wA_X8_many (mc ms : Nat) (x0 : Nat) (x1 : Int32) (S : sT) (Q : Int32 → sT → Prop) : Prop := wA_X8_many_b0 mc ms 0 0 x0 x1 S Q
def rA_X8_many (mc ms : Nat) : Room := x_rm 1 27 mc ms
theorem b_X8_many : x_BV yX8_many cX8_many 2 (some .int) 1 := ⟨q_37_6, q_37_4, q_37_5, q_1_5, by decide +kernel⟩
set_option maxHeartbeats 4000000 in
theorem tA_X8_many_b28 {Q : Int32 → sT → Prop} (C : x_C p s m args c cX8_many RX8 gg) (hml : c.maxLocals = 2) (hr : meth.sig.returnType = (some .int)) (hlocks : meth.locks = false) {mc ms kc ks : Nat} (hk : kc ≤ mc ∧ ks ≤ ms) {y0 : Int32}  {S : sT}  (h : wA_X8_many_b28 mc ms kc ks y0 S  Q) : x_X p l e (rA_X8_many mc ms) s m args below meth c gg 2 kc ks (MQ below (va_Qi Q (fun S1 t => s_Rep gg S1 t.heap) (s_A gg)) args s mc ms (s_A gg)) 28 [] [.int y0] S := by
  unfold wA_X8_many_b28 at h
  obtain ⟨hx, hb, -⟩ := id C
  intro H locs ls hR hS hl
  refine W.widen (k := mc) (n := ms) hk.1 hk.2 ?_
  exact W.iret (v := y0) hx hb hr (fun t ht hW => ⟨⟨y0, S, rfl, h, x_rt ht hR⟩, hS.F ht⟩) hS.2.2 dX8_many_28
set_option maxHeartbeats 4000000 in
theorem tA_X8_many_b0 {Q : Int32 → sT → Prop} (C : x_C p s m args c cX8_many RX8 gg) (hml : c.maxLocals = 2) (hr : meth.sig.returnType = (some .int)) (hlocks : meth.locks = false) {mc ms kc ks : Nat} (hk : kc ≤ mc ∧ ks ≤ ms) {x0 : Nat} {x1 : Int32}  {S : sT}  (h : wA_X8_many_b0 mc ms kc ks x0 x1 S  Q) : x_X p l e (rA_X8_many mc ms) s m args below meth c gg 2 kc ks (MQ below (va_Qi Q (fun S1 t => s_Rep gg S1 t.heap) (s_A gg)) args s mc ms (s_A gg)) 0 [(0, .ref x0), (1, .int x1)] [] S := by
  unfold wA_X8_many_b0 at h
  obtain ⟨hx, hb, -⟩ := id C
  intro H locs ls hR hS hl
  refine lv_aload_n hx hb dX8_many_0 rfl (lv_at hl 0 rfl) ?_
  refine lv_iconst (v := 0) hx hb dX8_many_1 (by decide) ?_
  obtain ⟨hK_x0, h⟩ := h
  refine x_p_288 (v := (0 : Int32)) C hR hK_x0 hS q_8_1 dX8_many_2 (fun H locs hR hS => ?_)
  obtain ⟨S101, eS101⟩ : ∃ z : sT, z = s_sI S 288 x0 (0 : Int32) := ⟨_, rfl⟩
  rw [← eS101] at hR
  replace h := h S101 eS101
  have hK_x0 : s_K S101 x0 = 10 := by rw [eS101]; exact hK_x0
  refine lv_iload_n hx hb dX8_many_5 rfl (lv_at hl 1 rfl) ?_
  refine lv_iconst (v := 0) hx hb dX8_many_6 (by decide) ?_
  refine lv_bipush (v := 11) hx hb dX8_many_7 (by decide) ?_
  refine x_ki (x_runS (As := [.int x1, .int (0 : Int32), .int (11 : Int32)]) (rest := []) C hml hR hS (m_X8_is l gg x1 (0 : Int32) (11 : Int32) S101 h) b_X8_is q_8_2 rfl rfl ⟨Nat.le_of_ble_eq_true rfl, Nat.le_of_ble_eq_true rfl⟩ rfl hl.1 (Nat.le_of_ble_eq_true rfl) dX8_many_9 ⟨hk.1, hk.2⟩) hS (fun x103 S102 H locs hn hR hS => ?_)
  replace h := hn
  clear hn
  refine lv_if_eq (tgt := 23) hx hb dX8_many_12 (by decide) (fun hc104 => ?_) (fun hc104 => ?_)
  · replace h := h.1 hc104
    refine lv_aload_n hx hb dX8_many_23 rfl (lv_at hl 0 rfl) ?_
    refine lv_iconst (v := 1) hx hb dX8_many_24 (by decide) ?_
    obtain ⟨hK_x0, h⟩ := h
    refine x_ki (x_runV (As := [.int (1 : Int32)]) (rest := []) C hml hR hS (m_X8_refuse l gg x0 (1 : Int32) S102 h) b_X8_refuse q_8_5 (by rw [hK_x0]; decide) (s_E_9 hK_x0) rfl rfl rfl rfl ⟨Nat.le_of_ble_eq_true rfl, Nat.le_of_ble_eq_true rfl⟩ rfl hl.1 (Nat.le_of_ble_eq_true rfl) dX8_many_25 ⟨hk.1, hk.2⟩) hS (fun x106 S105 H locs hn hR hS => ?_)
    replace h := hn
    clear hn
    exact tA_X8_many_b28 C hml hr hlocks hk  h H locs ls hR hS (lv_sub (l' := []) hl [] rfl)
  · replace h := h.2 hc104
    refine lv_aload_n hx hb dX8_many_15 rfl (lv_at hl 0 rfl) ?_
    refine lv_iload_n hx hb dX8_many_16 rfl (lv_at hl 1 rfl) ?_
    obtain ⟨hK_x0, h⟩ := h
    obtain ⟨c107, d108, hk1, hk2, h⟩ := h
    refine x_ki (x_runV (As := [.int x1]) (rest := []) C hml hR hS (mA_X8_manyNow l gg c107 d108 x0 x1 S102 h) b_X8_manyNow q_37_7 (by rw [hK_x0]; decide) (s_E_9 hK_x0) rfl rfl rfl rfl ⟨Nat.le_of_ble_eq_true rfl, Nat.le_of_ble_eq_true rfl⟩ rfl hl.1 (Nat.le_of_ble_eq_true rfl) dX8_many_17 ⟨hk1, hk2⟩) hS (fun x110 S109 H locs hn hR hS => ?_)
    replace h := hn
    clear hn
    have hk : (kc + c107) ≤ mc ∧ (ks + d108) ≤ ms := ⟨hk1, hk2⟩
    refine lv_goto (tgt := 28) hx hb dX8_many_20 (by decide) ?_
    exact tA_X8_many_b28 C hml hr hlocks hk  h H locs ls hR hS (lv_sub (l' := []) hl [] rfl)
theorem mA_X8_many (l : Launch) (gg : sG) (mc ms : Nat) (x0 : Nat) (x1 : Int32) (S : sT) {Q : Int32 → sT → Prop} (h : wA_X8_many mc ms x0 x1 S Q) : x_Mi l gg yX8_many (x_ws yX8_many cX8_many 2 (some .int)) (rA_X8_many mc ms) [.ref x0, .int x1] S Q mc ms := by
  refine x_ofW (cc := cX8_many) (own := RX8) (by decide +kernel) rfl (Nat.le_of_ble_eq_true rfl) ?_
  intro p e s m args below meth c C hml hr hlocks hin ht H locs ls hR hS hl
  exact tA_X8_many_b0 C hml hr hlocks ⟨Nat.zero_le _, Nat.zero_le _⟩ h H locs ls hR hS (lv_sub (l' := [(0, .ref x0), (1, .int x1)]) hl [0, 1] rfl)
def wA_X8_wouldYieldNow_b13 (mc ms : Nat)  (Q : Int32 → sT → Prop) : Nat → Nat → Nat → Int32 → Int32 → Nat → Int32 → sT → Prop
  | 0 => fun _ _ _ _ _ _ _ => False
  | n + 1 => fun kc ks x1 x2 x3 x4 S =>
((x2 ≤ x4 → s_K S x3 = 9 ∧
    ∃ a102 : Nat, s_R S 257 x3 = some a102 ∧
    s_K S a102 = 13 ∧
    vp_in x1 (s_N S a102) ∧
    ∃ a104 : Nat, s_P S a102 (Int32.toNatClampNeg x1) = some a104 ∧
    w_X7_yield x3 a104 S (fun x106 S105 =>
    Q x106 S105)) ∧
    (¬ x2 ≤ x4 → s_K S x3 = 9 ∧
    w_X7_pass x3 S (fun S107 =>
    ∀ x108 : Int32, x108 = x4 + 1 →
    wA_X8_wouldYieldNow_b13 mc ms  Q n kc ks x1 x2 x3 x108 S107)))
def wA_X8_wouldYieldNow_b0 (mc ms kc ks : Nat) (x0 : Nat) (x1 : Int32) (x2 : Int32) (S : sT)  (Q : Int32 → sT → Prop) : Prop :=
s_K S x0 = 10 ∧
    ∃ a101 : Nat, s_R S 289 x0 = some a101 ∧
    s_K S a101 = 9 ∧
    ∃ c102 d103 : Nat, kc + c102 ≤ mc ∧ ks + d103 ≤ ms ∧
    wA_X7_with c102 d103 a101 (0 : Int32) (0 : Int32) S (fun a105 S104 =>
    ∃ n9 : Nat, wA_X8_wouldYieldNow_b13 mc ms  Q n9 (kc + c102) (ks + d103) x1 x2 a105 (0 : Int32) S104)
def wA_X8_wouldYieldNow (mc ms : Nat) (x0 : Nat) (x1 : Int32) (x2 : Int32) (S : sT) (Q : Int32 → sT → Prop) : Prop := wA_X8_wouldYieldNow_b0 mc ms 0 0 x0 x1 x2 S Q
def rA_X8_wouldYieldNow (mc ms : Nat) : Room := x_rm 4 119 mc ms
theorem b_X8_wouldYieldNow : x_BV yX8_wouldYieldNow cX8_wouldYieldNow 5 (some .int) 2 := ⟨q_40_23, q_40_21, q_40_22, q_1_5, by decide +kernel⟩
set_option maxHeartbeats 4000000 in
theorem tA_X8_wouldYieldNow_b13 {Q : Int32 → sT → Prop} (C : x_C p s m args c cX8_wouldYieldNow RX8 gg) (hml : c.maxLocals = 5) (hr : meth.sig.returnType = (some .int)) (hlocks : meth.locks = false) {mc ms : Nat}   : ∀ (n : Nat) (kc ks : Nat) (x1 : Int32) (x2 : Int32) (x3 : Nat) (x4 : Int32) (S : sT), kc ≤ mc ∧ ks ≤ ms → wA_X8_wouldYieldNow_b13 mc ms  Q n kc ks x1 x2 x3 x4 S → x_X p l e (rA_X8_wouldYieldNow mc ms) s m args below meth c gg 5 kc ks (MQ below (va_Qi Q (fun S1 t => s_Rep gg S1 t.heap) (s_A gg)) args s mc ms (s_A gg)) 13 [(1, .int x1), (2, .int x2), (3, .ref x3), (4, .int x4)] [] S := by
  obtain ⟨hx, hb, -⟩ := id C
  intro n
  induction n with
  | zero => intro kc ks x1 x2 x3 x4 S hk h; exact absurd h id
  | succ n ih =>
    intro kc ks x1 x2 x3 x4 S hk h H locs ls hR hS hl
    unfold wA_X8_wouldYieldNow_b13 at h
    refine lv_iload hx hb dX8_wouldYieldNow_13 (lv_at hl 3 rfl) ?_
    refine lv_iload_n hx hb dX8_wouldYieldNow_15 rfl (lv_at hl 1 rfl) ?_
    refine lv_icmp_ge (tgt := 29) hx hb dX8_wouldYieldNow_16 (by decide) (fun hc101 => ?_) (fun hc101 => ?_)
    · replace h := h.1 hc101
      refine lv_aload_n hx hb dX8_wouldYieldNow_29 rfl (lv_at hl 2 rfl) ?_
      refine lv_aload_n hx hb dX8_wouldYieldNow_30 rfl (lv_at hl 2 rfl) ?_
      obtain ⟨hK_x3, h⟩ := h
      refine x_gN_257 C hR hK_x3 (xn_1 C) dX8_wouldYieldNow_31 ?_
      obtain ⟨a102, ea102, h⟩ := h
      refine x_some ea102 ?_
      refine lv_iload_n hx hb dX8_wouldYieldNow_34 rfl (lv_at hl 0 rfl) ?_
      obtain ⟨hK_a102, h⟩ := h
      obtain ⟨hi103, a104, ea104, h⟩ := h
      refine x_aald13 C hR hK_a102 hi103 dX8_wouldYieldNow_35 ?_
      refine x_some ea104 ?_
      refine x_ki (x_runV (As := [.ref a104]) (rest := []) C hml hR hS (m_X7_yield l gg x3 a104 S h) b_X7_yield q_19_6 (by rw [hK_x3]; decide) (s_E_8 hK_x3) rfl rfl rfl rfl ⟨Nat.le_of_ble_eq_true rfl, Nat.le_of_ble_eq_true rfl⟩ rfl hl.1 (Nat.le_of_ble_eq_true rfl) dX8_wouldYieldNow_36 ⟨hk.1, hk.2⟩) hS (fun x106 S105 H locs hn hR hS => ?_)
      replace h := hn
      clear hn
      refine W.widen (k := mc) (n := ms) hk.1 hk.2 ?_
      exact W.iret (v := x106) hx hb hr (fun t ht hW => ⟨⟨x106, S105, rfl, h, x_rt ht hR⟩, hS.F ht⟩) hS.2.2 dX8_wouldYieldNow_39
    · replace h := h.2 hc101
      refine lv_aload_n hx hb dX8_wouldYieldNow_19 rfl (lv_at hl 2 rfl) ?_
      obtain ⟨hK_x3, h⟩ := h
      refine x_kv (x_runV (As := []) (rest := []) C hml hR hS (m_X7_pass l gg x3 S h) b_X7_pass q_26_5 (by rw [hK_x3]; decide) (s_E_8 hK_x3) rfl rfl rfl rfl ⟨Nat.le_of_ble_eq_true rfl, Nat.le_of_ble_eq_true rfl⟩ rfl hl.1 (Nat.le_of_ble_eq_true rfl) dX8_wouldYieldNow_20 ⟨hk.1, hk.2⟩) hS (fun S107 H locs hn hR hS => ?_)
      replace h := hn
      clear hn
      obtain ⟨x108, ex108⟩ : ∃ z : Int32, z = x4 + 1 := ⟨_, rfl⟩
      replace h := h x108 ex108
      refine lv_iinc (v := x108) (lv' := [(4, .int x108), (1, .int x1), (2, .int x2), (3, .ref x3)]) hx hb dX8_wouldYieldNow_23 hl (k := 3) rfl (by rw [ex108]; rfl) (by decide) rfl (fun ls hl => ?_)
      refine lv_goto (tgt := 13) hx hb dX8_wouldYieldNow_26 (by decide) ?_
      exact ih kc ks x1 x2 x3 x108 S107 hk h H locs ls hR hS (lv_sub (l' := [(1, .int x1), (2, .int x2), (3, .ref x3), (4, .int x108)]) hl [1, 2, 3, 0] rfl)
set_option maxHeartbeats 4000000 in
theorem tA_X8_wouldYieldNow_b0 {Q : Int32 → sT → Prop} (C : x_C p s m args c cX8_wouldYieldNow RX8 gg) (hml : c.maxLocals = 5) (hr : meth.sig.returnType = (some .int)) (hlocks : meth.locks = false) {mc ms kc ks : Nat} (hk : kc ≤ mc ∧ ks ≤ ms) {x0 : Nat} {x1 : Int32} {x2 : Int32}  {S : sT}  (h : wA_X8_wouldYieldNow_b0 mc ms kc ks x0 x1 x2 S  Q) : x_X p l e (rA_X8_wouldYieldNow mc ms) s m args below meth c gg 5 kc ks (MQ below (va_Qi Q (fun S1 t => s_Rep gg S1 t.heap) (s_A gg)) args s mc ms (s_A gg)) 0 [(0, .ref x0), (1, .int x1), (2, .int x2)] [] S := by
  unfold wA_X8_wouldYieldNow_b0 at h
  obtain ⟨hx, hb, -⟩ := id C
  intro H locs ls hR hS hl
  refine lv_aload_n hx hb dX8_wouldYieldNow_0 rfl (lv_at hl 0 rfl) ?_
  obtain ⟨hK_x0, h⟩ := h
  refine x_g_289 C hR hK_x0 q_3_8 dX8_wouldYieldNow_1 ?_
  obtain ⟨a101, ea101, h⟩ := h
  refine x_some ea101 ?_
  refine lv_iconst (v := 0) hx hb dX8_wouldYieldNow_4 (by decide) ?_
  refine lv_iconst (v := 0) hx hb dX8_wouldYieldNow_5 (by decide) ?_
  obtain ⟨hK_a101, h⟩ := h
  obtain ⟨c102, d103, hk1, hk2, h⟩ := h
  refine x_kq (x_runV (As := [.int (0 : Int32), .int (0 : Int32)]) (rest := []) C hml hR hS (mA_X7_with l gg c102 d103 a101 (0 : Int32) (0 : Int32) S h) b_X7_with q_8_9 (by rw [hK_a101]; decide) (s_E_8 hK_a101) rfl rfl rfl rfl ⟨Nat.le_of_ble_eq_true rfl, Nat.le_of_ble_eq_true rfl⟩ rfl hl.1 (Nat.le_of_ble_eq_true rfl) dX8_wouldYieldNow_6 ⟨hk1, hk2⟩) hS (fun ra105 S104 H locs hn hR hS => ?_)
  replace h := hn
  clear hn
  have hk : (kc + c102) ≤ mc ∧ (ks + d103) ≤ ms := ⟨hk1, hk2⟩
  obtain ⟨a105, za105, h⟩ := h
  refine x_some za105 ?_
  refine lv_astore_n (lv' := [(3, .ref a105), (0, .ref x0), (1, .int x1), (2, .int x2)]) hx hb dX8_wouldYieldNow_9 rfl hl (by decide) rfl (fun ls hl => ?_)
  refine lv_iconst (v := 0) hx hb dX8_wouldYieldNow_10 (by decide) ?_
  refine lv_istore (lv' := [(4, .int (0 : Int32)), (3, .ref a105), (0, .ref x0), (1, .int x1), (2, .int x2)]) hx hb dX8_wouldYieldNow_11 hl (by decide) rfl (fun ls hl => ?_)
  obtain ⟨n9, h⟩ := h
  exact tA_X8_wouldYieldNow_b13 C hml hr hlocks  n9 (kc + c102) (ks + d103) x1 x2 a105 (0 : Int32) S104 hk h H locs ls hR hS (lv_sub (l' := [(1, .int x1), (2, .int x2), (3, .ref a105), (4, .int (0 : Int32))]) hl [3, 4, 1, 0] rfl)
theorem mA_X8_wouldYieldNow (l : Launch) (gg : sG) (mc ms : Nat) (x0 : Nat) (x1 : Int32) (x2 : Int32) (S : sT) {Q : Int32 → sT → Prop} (h : wA_X8_wouldYieldNow mc ms x0 x1 x2 S Q) : x_Mi l gg yX8_wouldYieldNow (x_ws yX8_wouldYieldNow cX8_wouldYieldNow 5 (some .int)) (rA_X8_wouldYieldNow mc ms) [.ref x0, .int x1, .int x2] S Q mc ms := by
  refine x_ofW (cc := cX8_wouldYieldNow) (own := RX8) (by decide +kernel) rfl (Nat.le_of_ble_eq_true rfl) ?_
  intro p e s m args below meth c C hml hr hlocks hin ht H locs ls hR hS hl
  exact tA_X8_wouldYieldNow_b0 C hml hr hlocks ⟨Nat.zero_le _, Nat.zero_le _⟩ h H locs ls hR hS (lv_sub (l' := [(0, .ref x0), (1, .int x1), (2, .int x2)]) hl [0, 1, 2] rfl)
def wA_X8_wouldYield_b40 (mc ms kc ks : Nat) (y0 : Int32) (S : sT)  (Q : Int32 → sT → Prop) : Prop :=
Q y0 S
def wA_X8_wouldYield_b0 (mc ms kc ks : Nat) (x0 : Nat) (x1 : Int32) (x2 : Int32) (S : sT)  (Q : Int32 → sT → Prop) : Prop :=
s_K S x0 = 10 ∧
    ∀ S101 : sT, S101 = s_sI S 288 x0 (0 : Int32) →
    w_X8_isField x0 x1 S101 (fun x103 S102 =>
    ((¬ x103 = 0 → w_X8_isLong x2 S102 (fun x106 S105 =>
    ((x106 = 0 → s_K S105 x0 = 10 ∧
    w_X8_refuse x0 (2 : Int32) S105 (fun x109 S108 =>
    wA_X8_wouldYield_b40 mc ms kc ks x109 S108  Q)) ∧
    (¬ x106 = 0 → s_K S105 x0 = 10 ∧
    ∃ c110 d111 : Nat, kc + c110 ≤ mc ∧ ks + d111 ≤ ms ∧
    wA_X8_wouldYieldNow c110 d111 x0 x1 x2 S105 (fun x113 S112 =>
    wA_X8_wouldYield_b40 mc ms (kc + c110) (ks + d111) x113 S112  Q))))) ∧
    (x103 = 0 → s_K S102 x0 = 10 ∧
    w_X8_refuse x0 (1 : Int32) S102 (fun x115 S114 =>
    Q x115 S114))))
def wA_X8_wouldYield (mc ms : Nat) (x0 : Nat) (x1 : Int32) (x2 : Int32) (S : sT) (Q : Int32 → sT → Prop) : Prop := wA_X8_wouldYield_b0 mc ms 0 0 x0 x1 x2 S Q
def rA_X8_wouldYield (mc ms : Nat) : Room := x_rm 5 143 mc ms
theorem b_X8_wouldYield : x_BV yX8_wouldYield cX8_wouldYield 3 (some .int) 2 := ⟨q_40_16, q_40_14, q_40_15, q_1_5, by decide +kernel⟩
set_option maxHeartbeats 4000000 in
theorem tA_X8_wouldYield_b40 {Q : Int32 → sT → Prop} (C : x_C p s m args c cX8_wouldYield RX8 gg) (hml : c.maxLocals = 3) (hr : meth.sig.returnType = (some .int)) (hlocks : meth.locks = false) {mc ms kc ks : Nat} (hk : kc ≤ mc ∧ ks ≤ ms) {y0 : Int32}  {S : sT}  (h : wA_X8_wouldYield_b40 mc ms kc ks y0 S  Q) : x_X p l e (rA_X8_wouldYield mc ms) s m args below meth c gg 3 kc ks (MQ below (va_Qi Q (fun S1 t => s_Rep gg S1 t.heap) (s_A gg)) args s mc ms (s_A gg)) 40 [] [.int y0] S := by
  unfold wA_X8_wouldYield_b40 at h
  obtain ⟨hx, hb, -⟩ := id C
  intro H locs ls hR hS hl
  refine W.widen (k := mc) (n := ms) hk.1 hk.2 ?_
  exact W.iret (v := y0) hx hb hr (fun t ht hW => ⟨⟨y0, S, rfl, h, x_rt ht hR⟩, hS.F ht⟩) hS.2.2 dX8_wouldYield_40
set_option maxHeartbeats 4000000 in
theorem tA_X8_wouldYield_b0 {Q : Int32 → sT → Prop} (C : x_C p s m args c cX8_wouldYield RX8 gg) (hml : c.maxLocals = 3) (hr : meth.sig.returnType = (some .int)) (hlocks : meth.locks = false) {mc ms kc ks : Nat} (hk : kc ≤ mc ∧ ks ≤ ms) {x0 : Nat} {x1 : Int32} {x2 : Int32}  {S : sT}  (h : wA_X8_wouldYield_b0 mc ms kc ks x0 x1 x2 S  Q) : x_X p l e (rA_X8_wouldYield mc ms) s m args below meth c gg 3 kc ks (MQ below (va_Qi Q (fun S1 t => s_Rep gg S1 t.heap) (s_A gg)) args s mc ms (s_A gg)) 0 [(0, .ref x0), (1, .int x1), (2, .int x2)] [] S := by
  unfold wA_X8_wouldYield_b0 at h
  obtain ⟨hx, hb, -⟩ := id C
  intro H locs ls hR hS hl
  refine lv_aload_n hx hb dX8_wouldYield_0 rfl (lv_at hl 0 rfl) ?_
  refine lv_iconst (v := 0) hx hb dX8_wouldYield_1 (by decide) ?_
  obtain ⟨hK_x0, h⟩ := h
  refine x_p_288 (v := (0 : Int32)) C hR hK_x0 hS q_8_1 dX8_wouldYield_2 (fun H locs hR hS => ?_)
  obtain ⟨S101, eS101⟩ : ∃ z : sT, z = s_sI S 288 x0 (0 : Int32) := ⟨_, rfl⟩
  rw [← eS101] at hR
  replace h := h S101 eS101
  have hK_x0 : s_K S101 x0 = 10 := by rw [eS101]; exact hK_x0
  refine lv_aload_n hx hb dX8_wouldYield_5 rfl (lv_at hl 0 rfl) ?_
  refine lv_iload_n hx hb dX8_wouldYield_6 rfl (lv_at hl 1 rfl) ?_
  refine x_ki (x_runV (As := [.int x1]) (rest := []) C hml hR hS (m_X8_isField l gg x0 x1 S101 h) b_X8_isField q_13_7 (by rw [hK_x0]; decide) (s_E_9 hK_x0) rfl rfl rfl rfl ⟨Nat.le_of_ble_eq_true rfl, Nat.le_of_ble_eq_true rfl⟩ rfl hl.1 (Nat.le_of_ble_eq_true rfl) dX8_wouldYield_7 ⟨hk.1, hk.2⟩) hS (fun x103 S102 H locs hn hR hS => ?_)
  replace h := hn
  clear hn
  refine lv_if_ne (tgt := 19) hx hb dX8_wouldYield_10 (by decide) (fun hc104 => ?_) (fun hc104 => ?_)
  · replace h := h.1 hc104
    refine lv_iload_n hx hb dX8_wouldYield_19 rfl (lv_at hl 2 rfl) ?_
    refine x_ki (x_runS (As := [.int x2]) (rest := []) C hml hR hS (m_X8_isLong l gg x2 S102 h) b_X8_isLong q_40_17 rfl rfl ⟨Nat.le_of_ble_eq_true rfl, Nat.le_of_ble_eq_true rfl⟩ rfl hl.1 (Nat.le_of_ble_eq_true rfl) dX8_wouldYield_20 ⟨hk.1, hk.2⟩) hS (fun x106 S105 H locs hn hR hS => ?_)
    replace h := hn
    clear hn
    refine lv_if_eq (tgt := 35) hx hb dX8_wouldYield_23 (by decide) (fun hc107 => ?_) (fun hc107 => ?_)
    · replace h := h.1 hc107
      refine lv_aload_n hx hb dX8_wouldYield_35 rfl (lv_at hl 0 rfl) ?_
      refine lv_iconst (v := 2) hx hb dX8_wouldYield_36 (by decide) ?_
      obtain ⟨hK_x0, h⟩ := h
      refine x_ki (x_runV (As := [.int (2 : Int32)]) (rest := []) C hml hR hS (m_X8_refuse l gg x0 (2 : Int32) S105 h) b_X8_refuse q_8_5 (by rw [hK_x0]; decide) (s_E_9 hK_x0) rfl rfl rfl rfl ⟨Nat.le_of_ble_eq_true rfl, Nat.le_of_ble_eq_true rfl⟩ rfl hl.1 (Nat.le_of_ble_eq_true rfl) dX8_wouldYield_37 ⟨hk.1, hk.2⟩) hS (fun x109 S108 H locs hn hR hS => ?_)
      replace h := hn
      clear hn
      exact tA_X8_wouldYield_b40 C hml hr hlocks hk  h H locs ls hR hS (lv_sub (l' := []) hl [] rfl)
    · replace h := h.2 hc107
      refine lv_aload_n hx hb dX8_wouldYield_26 rfl (lv_at hl 0 rfl) ?_
      refine lv_iload_n hx hb dX8_wouldYield_27 rfl (lv_at hl 1 rfl) ?_
      refine lv_iload_n hx hb dX8_wouldYield_28 rfl (lv_at hl 2 rfl) ?_
      obtain ⟨hK_x0, h⟩ := h
      obtain ⟨c110, d111, hk1, hk2, h⟩ := h
      refine x_ki (x_runV (As := [.int x1, .int x2]) (rest := []) C hml hR hS (mA_X8_wouldYieldNow l gg c110 d111 x0 x1 x2 S105 h) b_X8_wouldYieldNow q_40_20 (by rw [hK_x0]; decide) (s_E_9 hK_x0) rfl rfl rfl rfl ⟨Nat.le_of_ble_eq_true rfl, Nat.le_of_ble_eq_true rfl⟩ rfl hl.1 (Nat.le_of_ble_eq_true rfl) dX8_wouldYield_29 ⟨hk1, hk2⟩) hS (fun x113 S112 H locs hn hR hS => ?_)
      replace h := hn
      clear hn
      have hk : (kc + c110) ≤ mc ∧ (ks + d111) ≤ ms := ⟨hk1, hk2⟩
      refine lv_goto (tgt := 40) hx hb dX8_wouldYield_32 (by decide) ?_
      exact tA_X8_wouldYield_b40 C hml hr hlocks hk  h H locs ls hR hS (lv_sub (l' := []) hl [] rfl)
  · replace h := h.2 hc104
    refine lv_aload_n hx hb dX8_wouldYield_13 rfl (lv_at hl 0 rfl) ?_
    refine lv_iconst (v := 1) hx hb dX8_wouldYield_14 (by decide) ?_
    obtain ⟨hK_x0, h⟩ := h
    refine x_ki (x_runV (As := [.int (1 : Int32)]) (rest := []) C hml hR hS (m_X8_refuse l gg x0 (1 : Int32) S102 h) b_X8_refuse q_8_5 (by rw [hK_x0]; decide) (s_E_9 hK_x0) rfl rfl rfl rfl ⟨Nat.le_of_ble_eq_true rfl, Nat.le_of_ble_eq_true rfl⟩ rfl hl.1 (Nat.le_of_ble_eq_true rfl) dX8_wouldYield_15 ⟨hk.1, hk.2⟩) hS (fun x115 S114 H locs hn hR hS => ?_)
    replace h := hn
    clear hn
    refine W.widen (k := mc) (n := ms) hk.1 hk.2 ?_
    exact W.iret (v := x115) hx hb hr (fun t ht hW => ⟨⟨x115, S114, rfl, h, x_rt ht hR⟩, hS.F ht⟩) hS.2.2 dX8_wouldYield_18
theorem mA_X8_wouldYield (l : Launch) (gg : sG) (mc ms : Nat) (x0 : Nat) (x1 : Int32) (x2 : Int32) (S : sT) {Q : Int32 → sT → Prop} (h : wA_X8_wouldYield mc ms x0 x1 x2 S Q) : x_Mi l gg yX8_wouldYield (x_ws yX8_wouldYield cX8_wouldYield 3 (some .int)) (rA_X8_wouldYield mc ms) [.ref x0, .int x1, .int x2] S Q mc ms := by
  refine x_ofW (cc := cX8_wouldYield) (own := RX8) (by decide +kernel) rfl (Nat.le_of_ble_eq_true rfl) ?_
  intro p e s m args below meth c C hml hr hlocks hin ht H locs ls hR hS hl
  exact tA_X8_wouldYield_b0 C hml hr hlocks ⟨Nat.zero_le _, Nat.zero_le _⟩ h H locs ls hR hS (lv_sub (l' := [(0, .ref x0), (1, .int x1), (2, .int x2)]) hl [0, 1, 2] rfl)
def wA_X8_ripeInNow_b12 (mc ms : Nat)  (Q : Int32 → sT → Prop) : Nat → Nat → Nat → Nat → Int32 → Nat → Int32 → sT → Prop
  | 0 => fun _ _ _ _ _ _ _ => False
  | n + 1 => fun kc ks x0 x1 x2 x3 S =>
((x1 < x3 → Q (-1 : Int32) S) ∧
    (¬ x1 < x3 → s_K S x2 = 9 ∧
    w_X7_pass x2 S (fun S102 =>
    s_K S102 x2 = 9 ∧
    w_X7_isRipe x2 S102 (fun x104 S103 =>
    s_K S103 x0 = 10 ∧
    ∃ a105 : Nat, s_R S103 289 x0 = some a105 ∧
    s_K S103 a105 = 9 ∧
    w_X7_isRipe a105 S103 (fun x107 S106 =>
    ((x104 = x107 → ∀ x109 : Int32, x109 = x3 + 1 →
    wA_X8_ripeInNow_b12 mc ms  Q n kc ks x0 x1 x2 x109 S106) ∧
    (¬ x104 = x107 → Q x3 S106)))))))
def wA_X8_ripeInNow_b0 (mc ms kc ks : Nat) (x0 : Nat) (x1 : Int32) (S : sT)  (Q : Int32 → sT → Prop) : Prop :=
s_K S x0 = 10 ∧
    ∃ a101 : Nat, s_R S 289 x0 = some a101 ∧
    s_K S a101 = 9 ∧
    ∃ c102 d103 : Nat, kc + c102 ≤ mc ∧ ks + d103 ≤ ms ∧
    wA_X7_with c102 d103 a101 (0 : Int32) (0 : Int32) S (fun a105 S104 =>
    ∃ n9 : Nat, wA_X8_ripeInNow_b12 mc ms  Q n9 (kc + c102) (ks + d103) x0 x1 a105 (1 : Int32) S104)
def wA_X8_ripeInNow (mc ms : Nat) (x0 : Nat) (x1 : Int32) (S : sT) (Q : Int32 → sT → Prop) : Prop := wA_X8_ripeInNow_b0 mc ms 0 0 x0 x1 S Q
def rA_X8_ripeInNow (mc ms : Nat) : Room := x_rm 4 119 mc ms
theorem b_X8_ripeInNow : x_BV yX8_ripeInNow cX8_ripeInNow 4 (some .int) 1 := ⟨q_41_18, q_41_16, q_41_17, q_1_5, by decide +kernel⟩
set_option maxHeartbeats 4000000 in
theorem tA_X8_ripeInNow_b12 {Q : Int32 → sT → Prop} (C : x_C p s m args c cX8_ripeInNow RX8 gg) (hml : c.maxLocals = 4) (hr : meth.sig.returnType = (some .int)) (hlocks : meth.locks = false) {mc ms : Nat}   : ∀ (n : Nat) (kc ks : Nat) (x0 : Nat) (x1 : Int32) (x2 : Nat) (x3 : Int32) (S : sT), kc ≤ mc ∧ ks ≤ ms → wA_X8_ripeInNow_b12 mc ms  Q n kc ks x0 x1 x2 x3 S → x_X p l e (rA_X8_ripeInNow mc ms) s m args below meth c gg 4 kc ks (MQ below (va_Qi Q (fun S1 t => s_Rep gg S1 t.heap) (s_A gg)) args s mc ms (s_A gg)) 12 [(0, .ref x0), (1, .int x1), (2, .ref x2), (3, .int x3)] [] S := by
  obtain ⟨hx, hb, -⟩ := id C
  intro n
  induction n with
  | zero => intro kc ks x0 x1 x2 x3 S hk h; exact absurd h id
  | succ n ih =>
    intro kc ks x0 x1 x2 x3 S hk h H locs ls hR hS hl
    unfold wA_X8_ripeInNow_b12 at h
    refine lv_iload_n hx hb dX8_ripeInNow_12 rfl (lv_at hl 3 rfl) ?_
    refine lv_iload_n hx hb dX8_ripeInNow_13 rfl (lv_at hl 1 rfl) ?_
    refine lv_icmp_gt (tgt := 43) hx hb dX8_ripeInNow_14 (by decide) (fun hc101 => ?_) (fun hc101 => ?_)
    · replace h := h.1 hc101
      refine lv_iconst (v := (-1)) hx hb dX8_ripeInNow_43 (by decide) ?_
      refine W.widen (k := mc) (n := ms) hk.1 hk.2 ?_
      exact W.iret (v := (-1 : Int32)) hx hb hr (fun t ht hW => ⟨⟨(-1 : Int32), S, rfl, h, x_rt ht hR⟩, hS.F ht⟩) hS.2.2 dX8_ripeInNow_44
    · replace h := h.2 hc101
      refine lv_aload_n hx hb dX8_ripeInNow_17 rfl (lv_at hl 2 rfl) ?_
      obtain ⟨hK_x2, h⟩ := h
      refine x_kv (x_runV (As := []) (rest := []) C hml hR hS (m_X7_pass l gg x2 S h) b_X7_pass q_26_5 (by rw [hK_x2]; decide) (s_E_8 hK_x2) rfl rfl rfl rfl ⟨Nat.le_of_ble_eq_true rfl, Nat.le_of_ble_eq_true rfl⟩ rfl hl.1 (Nat.le_of_ble_eq_true rfl) dX8_ripeInNow_18 ⟨hk.1, hk.2⟩) hS (fun S102 H locs hn hR hS => ?_)
      replace h := hn
      clear hn
      refine lv_aload_n hx hb dX8_ripeInNow_21 rfl (lv_at hl 2 rfl) ?_
      obtain ⟨hK_x2, h⟩ := h
      refine x_ki (x_runV (As := []) (rest := []) C hml hR hS (m_X7_isRipe l gg x2 S102 h) b_X7_isRipe q_41_19 (by rw [hK_x2]; decide) (s_E_8 hK_x2) rfl rfl rfl rfl ⟨Nat.le_of_ble_eq_true rfl, Nat.le_of_ble_eq_true rfl⟩ rfl hl.1 (Nat.le_of_ble_eq_true rfl) dX8_ripeInNow_22 ⟨hk.1, hk.2⟩) hS (fun x104 S103 H locs hn hR hS => ?_)
      replace h := hn
      clear hn
      refine lv_aload_n hx hb dX8_ripeInNow_25 rfl (lv_at hl 0 rfl) ?_
      obtain ⟨hK_x0, h⟩ := h
      refine x_g_289 C hR hK_x0 q_3_8 dX8_ripeInNow_26 ?_
      obtain ⟨a105, ea105, h⟩ := h
      refine x_some ea105 ?_
      obtain ⟨hK_a105, h⟩ := h
      refine x_ki (x_runV (As := []) (rest := [.int x104]) C hml hR hS (m_X7_isRipe l gg a105 S103 h) b_X7_isRipe q_41_19 (by rw [hK_a105]; decide) (s_E_8 hK_a105) rfl rfl rfl rfl ⟨Nat.le_of_ble_eq_true rfl, Nat.le_of_ble_eq_true rfl⟩ rfl hl.1 (Nat.le_of_ble_eq_true rfl) dX8_ripeInNow_29 ⟨hk.1, hk.2⟩) hS (fun x107 S106 H locs hn hR hS => ?_)
      replace h := hn
      clear hn
      refine lv_icmp_eq (tgt := 37) hx hb dX8_ripeInNow_32 (by decide) (fun hc108 => ?_) (fun hc108 => ?_)
      · replace h := h.1 hc108
        obtain ⟨x109, ex109⟩ : ∃ z : Int32, z = x3 + 1 := ⟨_, rfl⟩
        replace h := h x109 ex109
        refine lv_iinc (v := x109) (lv' := [(3, .int x109), (0, .ref x0), (1, .int x1), (2, .ref x2)]) hx hb dX8_ripeInNow_37 hl (k := 3) rfl (by rw [ex109]; rfl) (by decide) rfl (fun ls hl => ?_)
        refine lv_goto (tgt := 12) hx hb dX8_ripeInNow_40 (by decide) ?_
        exact ih kc ks x0 x1 x2 x109 S106 hk h H locs ls hR hS (lv_sub (l' := [(0, .ref x0), (1, .int x1), (2, .ref x2), (3, .int x109)]) hl [1, 2, 3, 0] rfl)
      · replace h := h.2 hc108
        refine lv_iload_n hx hb dX8_ripeInNow_35 rfl (lv_at hl 3 rfl) ?_
        refine W.widen (k := mc) (n := ms) hk.1 hk.2 ?_
        exact W.iret (v := x3) hx hb hr (fun t ht hW => ⟨⟨x3, S106, rfl, h, x_rt ht hR⟩, hS.F ht⟩) hS.2.2 dX8_ripeInNow_36
set_option maxHeartbeats 4000000 in
theorem tA_X8_ripeInNow_b0 {Q : Int32 → sT → Prop} (C : x_C p s m args c cX8_ripeInNow RX8 gg) (hml : c.maxLocals = 4) (hr : meth.sig.returnType = (some .int)) (hlocks : meth.locks = false) {mc ms kc ks : Nat} (hk : kc ≤ mc ∧ ks ≤ ms) {x0 : Nat} {x1 : Int32}  {S : sT}  (h : wA_X8_ripeInNow_b0 mc ms kc ks x0 x1 S  Q) : x_X p l e (rA_X8_ripeInNow mc ms) s m args below meth c gg 4 kc ks (MQ below (va_Qi Q (fun S1 t => s_Rep gg S1 t.heap) (s_A gg)) args s mc ms (s_A gg)) 0 [(0, .ref x0), (1, .int x1)] [] S := by
  unfold wA_X8_ripeInNow_b0 at h
  obtain ⟨hx, hb, -⟩ := id C
  intro H locs ls hR hS hl
  refine lv_aload_n hx hb dX8_ripeInNow_0 rfl (lv_at hl 0 rfl) ?_
  obtain ⟨hK_x0, h⟩ := h
  refine x_g_289 C hR hK_x0 q_3_8 dX8_ripeInNow_1 ?_
  obtain ⟨a101, ea101, h⟩ := h
  refine x_some ea101 ?_
  refine lv_iconst (v := 0) hx hb dX8_ripeInNow_4 (by decide) ?_
  refine lv_iconst (v := 0) hx hb dX8_ripeInNow_5 (by decide) ?_
  obtain ⟨hK_a101, h⟩ := h
  obtain ⟨c102, d103, hk1, hk2, h⟩ := h
  refine x_kq (x_runV (As := [.int (0 : Int32), .int (0 : Int32)]) (rest := []) C hml hR hS (mA_X7_with l gg c102 d103 a101 (0 : Int32) (0 : Int32) S h) b_X7_with q_8_9 (by rw [hK_a101]; decide) (s_E_8 hK_a101) rfl rfl rfl rfl ⟨Nat.le_of_ble_eq_true rfl, Nat.le_of_ble_eq_true rfl⟩ rfl hl.1 (Nat.le_of_ble_eq_true rfl) dX8_ripeInNow_6 ⟨hk1, hk2⟩) hS (fun ra105 S104 H locs hn hR hS => ?_)
  replace h := hn
  clear hn
  have hk : (kc + c102) ≤ mc ∧ (ks + d103) ≤ ms := ⟨hk1, hk2⟩
  obtain ⟨a105, za105, h⟩ := h
  refine x_some za105 ?_
  refine lv_astore_n (lv' := [(2, .ref a105), (0, .ref x0), (1, .int x1)]) hx hb dX8_ripeInNow_9 rfl hl (by decide) rfl (fun ls hl => ?_)
  refine lv_iconst (v := 1) hx hb dX8_ripeInNow_10 (by decide) ?_
  refine lv_istore_n (lv' := [(3, .int (1 : Int32)), (2, .ref a105), (0, .ref x0), (1, .int x1)]) hx hb dX8_ripeInNow_11 rfl hl (by decide) rfl (fun ls hl => ?_)
  obtain ⟨n9, h⟩ := h
  exact tA_X8_ripeInNow_b12 C hml hr hlocks  n9 (kc + c102) (ks + d103) x0 x1 a105 (1 : Int32) S104 hk h H locs ls hR hS (lv_sub (l' := [(0, .ref x0), (1, .int x1), (2, .ref a105), (3, .int (1 : Int32))]) hl [2, 3, 1, 0] rfl)
theorem mA_X8_ripeInNow (l : Launch) (gg : sG) (mc ms : Nat) (x0 : Nat) (x1 : Int32) (S : sT) {Q : Int32 → sT → Prop} (h : wA_X8_ripeInNow mc ms x0 x1 S Q) : x_Mi l gg yX8_ripeInNow (x_ws yX8_ripeInNow cX8_ripeInNow 4 (some .int)) (rA_X8_ripeInNow mc ms) [.ref x0, .int x1] S Q mc ms := by
  refine x_ofW (cc := cX8_ripeInNow) (own := RX8) (by decide +kernel) rfl (Nat.le_of_ble_eq_true rfl) ?_
  intro p e s m args below meth c C hml hr hlocks hin ht H locs ls hR hS hl
  exact tA_X8_ripeInNow_b0 C hml hr hlocks ⟨Nat.zero_le _, Nat.zero_le _⟩ h H locs ls hR hS (lv_sub (l' := [(0, .ref x0), (1, .int x1)]) hl [0, 1] rfl)
def wA_X8_ripeIn_b25 (mc ms kc ks : Nat) (y0 : Int32) (S : sT)  (Q : Int32 → sT → Prop) : Prop :=
Q y0 S
def wA_X8_ripeIn_b0 (mc ms kc ks : Nat) (x0 : Nat) (x1 : Int32) (S : sT)  (Q : Int32 → sT → Prop) : Prop :=
s_K S x0 = 10 ∧
    ∀ S101 : sT, S101 = s_sI S 288 x0 (0 : Int32) →
    w_X8_isLong x1 S101 (fun x103 S102 =>
    ((x103 = 0 → s_K S102 x0 = 10 ∧
    w_X8_refuse x0 (1 : Int32) S102 (fun x106 S105 =>
    wA_X8_ripeIn_b25 mc ms kc ks x106 S105  Q)) ∧
    (¬ x103 = 0 → s_K S102 x0 = 10 ∧
    ∃ c107 d108 : Nat, kc + c107 ≤ mc ∧ ks + d108 ≤ ms ∧
    wA_X8_ripeInNow c107 d108 x0 x1 S102 (fun x110 S109 =>
    wA_X8_ripeIn_b25 mc ms (kc + c107) (ks + d108) x110 S109  Q))))
def wA_X8_ripeIn (mc ms : Nat) (x0 : Nat) (x1 : Int32) (S : sT) (Q : Int32 → sT → Prop) : Prop := wA_X8_ripeIn_b0 mc ms 0 0 x0 x1 S Q
def rA_X8_ripeIn (mc ms : Nat) : Room := x_rm 5 142 mc ms
theorem b_X8_ripeIn : x_BV yX8_ripeIn cX8_ripeIn 2 (some .int) 1 := ⟨q_41_14, q_41_12, q_41_13, q_1_5, by decide +kernel⟩
set_option maxHeartbeats 4000000 in
theorem tA_X8_ripeIn_b25 {Q : Int32 → sT → Prop} (C : x_C p s m args c cX8_ripeIn RX8 gg) (hml : c.maxLocals = 2) (hr : meth.sig.returnType = (some .int)) (hlocks : meth.locks = false) {mc ms kc ks : Nat} (hk : kc ≤ mc ∧ ks ≤ ms) {y0 : Int32}  {S : sT}  (h : wA_X8_ripeIn_b25 mc ms kc ks y0 S  Q) : x_X p l e (rA_X8_ripeIn mc ms) s m args below meth c gg 2 kc ks (MQ below (va_Qi Q (fun S1 t => s_Rep gg S1 t.heap) (s_A gg)) args s mc ms (s_A gg)) 25 [] [.int y0] S := by
  unfold wA_X8_ripeIn_b25 at h
  obtain ⟨hx, hb, -⟩ := id C
  intro H locs ls hR hS hl
  refine W.widen (k := mc) (n := ms) hk.1 hk.2 ?_
  exact W.iret (v := y0) hx hb hr (fun t ht hW => ⟨⟨y0, S, rfl, h, x_rt ht hR⟩, hS.F ht⟩) hS.2.2 dX8_ripeIn_25
set_option maxHeartbeats 4000000 in
theorem tA_X8_ripeIn_b0 {Q : Int32 → sT → Prop} (C : x_C p s m args c cX8_ripeIn RX8 gg) (hml : c.maxLocals = 2) (hr : meth.sig.returnType = (some .int)) (hlocks : meth.locks = false) {mc ms kc ks : Nat} (hk : kc ≤ mc ∧ ks ≤ ms) {x0 : Nat} {x1 : Int32}  {S : sT}  (h : wA_X8_ripeIn_b0 mc ms kc ks x0 x1 S  Q) : x_X p l e (rA_X8_ripeIn mc ms) s m args below meth c gg 2 kc ks (MQ below (va_Qi Q (fun S1 t => s_Rep gg S1 t.heap) (s_A gg)) args s mc ms (s_A gg)) 0 [(0, .ref x0), (1, .int x1)] [] S := by
  unfold wA_X8_ripeIn_b0 at h
  obtain ⟨hx, hb, -⟩ := id C
  intro H locs ls hR hS hl
  refine lv_aload_n hx hb dX8_ripeIn_0 rfl (lv_at hl 0 rfl) ?_
  refine lv_iconst (v := 0) hx hb dX8_ripeIn_1 (by decide) ?_
  obtain ⟨hK_x0, h⟩ := h
  refine x_p_288 (v := (0 : Int32)) C hR hK_x0 hS q_8_1 dX8_ripeIn_2 (fun H locs hR hS => ?_)
  obtain ⟨S101, eS101⟩ : ∃ z : sT, z = s_sI S 288 x0 (0 : Int32) := ⟨_, rfl⟩
  rw [← eS101] at hR
  replace h := h S101 eS101
  have hK_x0 : s_K S101 x0 = 10 := by rw [eS101]; exact hK_x0
  refine lv_iload_n hx hb dX8_ripeIn_5 rfl (lv_at hl 1 rfl) ?_
  refine x_ki (x_runS (As := [.int x1]) (rest := []) C hml hR hS (m_X8_isLong l gg x1 S101 h) b_X8_isLong q_40_17 rfl rfl ⟨Nat.le_of_ble_eq_true rfl, Nat.le_of_ble_eq_true rfl⟩ rfl hl.1 (Nat.le_of_ble_eq_true rfl) dX8_ripeIn_6 ⟨hk.1, hk.2⟩) hS (fun x103 S102 H locs hn hR hS => ?_)
  replace h := hn
  clear hn
  refine lv_if_eq (tgt := 20) hx hb dX8_ripeIn_9 (by decide) (fun hc104 => ?_) (fun hc104 => ?_)
  · replace h := h.1 hc104
    refine lv_aload_n hx hb dX8_ripeIn_20 rfl (lv_at hl 0 rfl) ?_
    refine lv_iconst (v := 1) hx hb dX8_ripeIn_21 (by decide) ?_
    obtain ⟨hK_x0, h⟩ := h
    refine x_ki (x_runV (As := [.int (1 : Int32)]) (rest := []) C hml hR hS (m_X8_refuse l gg x0 (1 : Int32) S102 h) b_X8_refuse q_8_5 (by rw [hK_x0]; decide) (s_E_9 hK_x0) rfl rfl rfl rfl ⟨Nat.le_of_ble_eq_true rfl, Nat.le_of_ble_eq_true rfl⟩ rfl hl.1 (Nat.le_of_ble_eq_true rfl) dX8_ripeIn_22 ⟨hk.1, hk.2⟩) hS (fun x106 S105 H locs hn hR hS => ?_)
    replace h := hn
    clear hn
    exact tA_X8_ripeIn_b25 C hml hr hlocks hk  h H locs ls hR hS (lv_sub (l' := []) hl [] rfl)
  · replace h := h.2 hc104
    refine lv_aload_n hx hb dX8_ripeIn_12 rfl (lv_at hl 0 rfl) ?_
    refine lv_iload_n hx hb dX8_ripeIn_13 rfl (lv_at hl 1 rfl) ?_
    obtain ⟨hK_x0, h⟩ := h
    obtain ⟨c107, d108, hk1, hk2, h⟩ := h
    refine x_ki (x_runV (As := [.int x1]) (rest := []) C hml hR hS (mA_X8_ripeInNow l gg c107 d108 x0 x1 S102 h) b_X8_ripeInNow q_41_15 (by rw [hK_x0]; decide) (s_E_9 hK_x0) rfl rfl rfl rfl ⟨Nat.le_of_ble_eq_true rfl, Nat.le_of_ble_eq_true rfl⟩ rfl hl.1 (Nat.le_of_ble_eq_true rfl) dX8_ripeIn_14 ⟨hk1, hk2⟩) hS (fun x110 S109 H locs hn hR hS => ?_)
    replace h := hn
    clear hn
    have hk : (kc + c107) ≤ mc ∧ (ks + d108) ≤ ms := ⟨hk1, hk2⟩
    refine lv_goto (tgt := 25) hx hb dX8_ripeIn_17 (by decide) ?_
    exact tA_X8_ripeIn_b25 C hml hr hlocks hk  h H locs ls hR hS (lv_sub (l' := []) hl [] rfl)
theorem mA_X8_ripeIn (l : Launch) (gg : sG) (mc ms : Nat) (x0 : Nat) (x1 : Int32) (S : sT) {Q : Int32 → sT → Prop} (h : wA_X8_ripeIn mc ms x0 x1 S Q) : x_Mi l gg yX8_ripeIn (x_ws yX8_ripeIn cX8_ripeIn 2 (some .int)) (rA_X8_ripeIn mc ms) [.ref x0, .int x1] S Q mc ms := by
  refine x_ofW (cc := cX8_ripeIn) (own := RX8) (by decide +kernel) rfl (Nat.le_of_ble_eq_true rfl) ?_
  intro p e s m args below meth c C hml hr hlocks hin ht H locs ls hR hS hl
  exact tA_X8_ripeIn_b0 C hml hr hlocks ⟨Nat.zero_le _, Nat.zero_le _⟩ h H locs ls hR hS (lv_sub (l' := [(0, .ref x0), (1, .int x1)]) hl [0, 1] rfl)
def wA_X8_yieldOf_b56 (mc ms kc ks : Nat) (x1 : Int32) (x2 : Int32) (x3 : Int32) (x4 : Nat) (x5 : Int32) (x6 : Int32) (x7 : Int32) (S : sT) (kk14 : Nat → Nat → Int32 → Int32 → Int32 → Nat → Int32 → sT → Prop) (kk26 : Nat → Nat → Int32 → Int32 → Int32 → Nat → Int32 → Int32 → Int32 → sT → Prop) (Q : Int32 → sT → Prop) : Prop :=
∀ x101 : Int32, x101 = x6 / (3 : Int32) →
    ∀ x102 : Int32, x102 = x7 + 1 →
    kk26 kc ks x1 x2 x3 x4 x5 x101 x102 S
def wA_X8_yieldOf_b26 (mc ms : Nat) (kk14 : Nat → Nat → Int32 → Int32 → Int32 → Nat → Int32 → sT → Prop) (Q : Int32 → sT → Prop) : Nat → Nat → Nat → Int32 → Int32 → Int32 → Nat → Int32 → Int32 → Int32 → sT → Prop
  | 0 => fun _ _ _ _ _ _ _ _ _ _ => False
  | n + 1 => fun kc ks x1 x2 x3 x4 x5 x6 x7 S =>
s_K S x4 = 9 ∧
    ∃ a101 : Nat, s_R S 256 x4 = some a101 ∧
    s_K S a101 = 13 ∧
    ∀ x102 : Int32, x102 = nI (s_N S a101) →
    ((x102 ≤ x7 → w_X7_pass x4 S (fun S104 =>
    ∀ x105 : Int32, x105 = x5 + 1 →
    kk14 kc ks x1 x2 x3 x4 x105 S104)) ∧
    (¬ x102 ≤ x7 → ∀ x106 : Int32, x106 = x6 - x6 / (3 : Int32) * (3 : Int32) →
    ∀ x107 : Int32, x107 = x106 * (5 : Int32) →
    ((¬ x107 = x5 → wA_X8_yieldOf_b56 mc ms kc ks x1 x2 x3 x4 x5 x6 x7 S kk14 (fun kc ks x1 x2 x3 x4 x5 x6 x7 S => wA_X8_yieldOf_b26 mc ms kk14 Q n kc ks x1 x2 x3 x4 x5 x6 x7 S) Q) ∧
    (x107 = x5 → w_X8_plantAll x4 x7 x2 S (fun S109 =>
    wA_X8_yieldOf_b56 mc ms kc ks x1 x2 x3 x4 x5 x6 x7 S109 kk14 (fun kc ks x1 x2 x3 x4 x5 x6 x7 S => wA_X8_yieldOf_b26 mc ms kk14 Q n kc ks x1 x2 x3 x4 x5 x6 x7 S) Q)))))
def wA_X8_yieldOf_b97 (mc ms : Nat)  (Q : Int32 → sT → Prop) : Nat → Nat → Nat → Nat → Int32 → Nat → Int32 → Int32 → sT → Prop
  | 0 => fun _ _ _ _ _ _ _ _ => False
  | n + 1 => fun kc ks x4 x5 x6 x7 x8 S =>
((x7 ≤ x8 → Q x5 S) ∧
    (¬ x7 ≤ x8 → s_K S x6 = 13 ∧
    vp_in x8 (s_N S x6) ∧
    ∃ a103 : Nat, s_P S x6 (Int32.toNatClampNeg x8) = some a103 ∧
    s_K S x4 = 9 ∧
    w_X7_yield x4 a103 S (fun x105 S104 =>
    ∀ x106 : Int32, x106 = x5 + x105 →
    ∀ x107 : Int32, x107 = x8 + 1 →
    wA_X8_yieldOf_b97 mc ms  Q n kc ks x4 x106 x6 x7 x107 S104)))
def wA_X8_yieldOf_b14 (mc ms : Nat)  (Q : Int32 → sT → Prop) : Nat → Nat → Nat → Int32 → Int32 → Int32 → Nat → Int32 → sT → Prop
  | 0 => fun _ _ _ _ _ _ _ _ => False
  | n + 1 => fun kc ks x1 x2 x3 x4 x5 S =>
((x3 ≤ x5 → s_K S x4 = 9 ∧
    ∃ a102 : Nat, s_R S 257 x4 = some a102 ∧
    s_K S a102 = 13 ∧
    ∀ x103 : Int32, x103 = nI (s_N S a102) →
    ∃ n9 : Nat, wA_X8_yieldOf_b97 mc ms  Q n9 kc ks x4 (0 : Int32) a102 x103 (0 : Int32) S) ∧
    (¬ x3 ≤ x5 → ∃ n9 : Nat, wA_X8_yieldOf_b26 mc ms (fun kc ks x1 x2 x3 x4 x5 S => wA_X8_yieldOf_b14 mc ms  Q n kc ks x1 x2 x3 x4 x5 S) Q n9 kc ks x1 x2 x3 x4 x5 x1 (0 : Int32) S))
def wA_X8_yieldOf_b0 (mc ms kc ks : Nat) (x0 : Nat) (x1 : Int32) (x2 : Int32) (x3 : Int32) (S : sT)  (Q : Int32 → sT → Prop) : Prop :=
s_K S x0 = 10 ∧
    ∃ a101 : Nat, s_R S 289 x0 = some a101 ∧
    s_K S a101 = 9 ∧
    ∃ c102 d103 : Nat, kc + c102 ≤ mc ∧ ks + d103 ≤ ms ∧
    wA_X7_with c102 d103 a101 (0 : Int32) (0 : Int32) S (fun a105 S104 =>
    ∃ n9 : Nat, wA_X8_yieldOf_b14 mc ms  Q n9 (kc + c102) (ks + d103) x1 x2 x3 a105 (0 : Int32) S104)
def wA_X8_yieldOf (mc ms : Nat) (x0 : Nat) (x1 : Int32) (x2 : Int32) (x3 : Int32) (S : sT) (Q : Int32 → sT → Prop) : Prop := wA_X8_yieldOf_b0 mc ms 0 0 x0 x1 x2 x3 S Q
def rA_X8_yieldOf (mc ms : Nat) : Room := x_rm 4 119 mc ms
theorem b_X8_yieldOf : x_BV yX8_yieldOf cX8_yieldOf 10 (some .int) 3 := ⟨q_43_13, q_43_11, q_43_12, q_1_5, by decide +kernel⟩
set_option maxHeartbeats 4000000 in
theorem tA_X8_yieldOf_b56 {Q : Int32 → sT → Prop} (C : x_C p s m args c cX8_yieldOf RX8 gg) (hml : c.maxLocals = 10) (hr : meth.sig.returnType = (some .int)) (hlocks : meth.locks = false) {mc ms kc ks : Nat} (hk : kc ≤ mc ∧ ks ≤ ms) {x1 : Int32} {x2 : Int32} {x3 : Int32} {x4 : Nat} {x5 : Int32} {x6 : Int32} {x7 : Int32} {kk14 : Nat → Nat → Int32 → Int32 → Int32 → Nat → Int32 → sT → Prop} {kk26 : Nat → Nat → Int32 → Int32 → Int32 → Nat → Int32 → Int32 → Int32 → sT → Prop} {S : sT} (hk14 : ∀ (kc ks : Nat) (x1 : Int32) (x2 : Int32) (x3 : Int32) (x4 : Nat) (x5 : Int32) (S : sT), kc ≤ mc ∧ ks ≤ ms → kk14 kc ks x1 x2 x3 x4 x5 S → x_X p l e (rA_X8_yieldOf mc ms) s m args below meth c gg 10 kc ks (MQ below (va_Qi Q (fun S1 t => s_Rep gg S1 t.heap) (s_A gg)) args s mc ms (s_A gg)) 14 [(1, .int x1), (2, .int x2), (3, .int x3), (4, .ref x4), (5, .int x5)] [] S) (hk26 : ∀ (kc ks : Nat) (x1 : Int32) (x2 : Int32) (x3 : Int32) (x4 : Nat) (x5 : Int32) (x6 : Int32) (x7 : Int32) (S : sT), kc ≤ mc ∧ ks ≤ ms → kk26 kc ks x1 x2 x3 x4 x5 x6 x7 S → x_X p l e (rA_X8_yieldOf mc ms) s m args below meth c gg 10 kc ks (MQ below (va_Qi Q (fun S1 t => s_Rep gg S1 t.heap) (s_A gg)) args s mc ms (s_A gg)) 26 [(1, .int x1), (2, .int x2), (3, .int x3), (4, .ref x4), (5, .int x5), (6, .int x6), (7, .int x7)] [] S) (h : wA_X8_yieldOf_b56 mc ms kc ks x1 x2 x3 x4 x5 x6 x7 S kk14 kk26 Q) : x_X p l e (rA_X8_yieldOf mc ms) s m args below meth c gg 10 kc ks (MQ below (va_Qi Q (fun S1 t => s_Rep gg S1 t.heap) (s_A gg)) args s mc ms (s_A gg)) 56 [(1, .int x1), (2, .int x2), (3, .int x3), (4, .ref x4), (5, .int x5), (6, .int x6), (7, .int x7)] [] S := by
  unfold wA_X8_yieldOf_b56 at h
  obtain ⟨hx, hb, -⟩ := id C
  intro H locs ls hR hS hl
  refine lv_iload hx hb dX8_yieldOf_56 (lv_at hl 5 rfl) ?_
  refine lv_iconst (v := 3) hx hb dX8_yieldOf_58 (by decide) ?_
  refine lv_idiv hx hb dX8_yieldOf_59 (by decide) ?_
  refine lv_topi (fun x101 ex101 => ?_)
  replace h := h x101 ex101
  refine lv_istore (lv' := [(6, .int x101), (1, .int x1), (2, .int x2), (3, .int x3), (4, .ref x4), (5, .int x5), (7, .int x7)]) hx hb dX8_yieldOf_60 hl (by decide) rfl (fun ls hl => ?_)
  obtain ⟨x102, ex102⟩ : ∃ z : Int32, z = x7 + 1 := ⟨_, rfl⟩
  replace h := h x102 ex102
  refine lv_iinc (v := x102) (lv' := [(7, .int x102), (6, .int x101), (1, .int x1), (2, .int x2), (3, .int x3), (4, .ref x4), (5, .int x5)]) hx hb dX8_yieldOf_62 hl (k := 6) rfl (by rw [ex102]; rfl) (by decide) rfl (fun ls hl => ?_)
  refine lv_goto (tgt := 26) hx hb dX8_yieldOf_65 (by decide) ?_
  exact hk26 kc ks x1 x2 x3 x4 x5 x101 x102 S hk h H locs ls hR hS (lv_sub (l' := [(1, .int x1), (2, .int x2), (3, .int x3), (4, .ref x4), (5, .int x5), (6, .int x101), (7, .int x102)]) hl [2, 3, 4, 5, 6, 1, 0] rfl)
set_option maxHeartbeats 4000000 in
theorem tA_X8_yieldOf_b26 {Q : Int32 → sT → Prop} (C : x_C p s m args c cX8_yieldOf RX8 gg) (hml : c.maxLocals = 10) (hr : meth.sig.returnType = (some .int)) (hlocks : meth.locks = false) {mc ms : Nat} {kk14 : Nat → Nat → Int32 → Int32 → Int32 → Nat → Int32 → sT → Prop} (hk14 : ∀ (kc ks : Nat) (x1 : Int32) (x2 : Int32) (x3 : Int32) (x4 : Nat) (x5 : Int32) (S : sT), kc ≤ mc ∧ ks ≤ ms → kk14 kc ks x1 x2 x3 x4 x5 S → x_X p l e (rA_X8_yieldOf mc ms) s m args below meth c gg 10 kc ks (MQ below (va_Qi Q (fun S1 t => s_Rep gg S1 t.heap) (s_A gg)) args s mc ms (s_A gg)) 14 [(1, .int x1), (2, .int x2), (3, .int x3), (4, .ref x4), (5, .int x5)] [] S) : ∀ (n : Nat) (kc ks : Nat) (x1 : Int32) (x2 : Int32) (x3 : Int32) (x4 : Nat) (x5 : Int32) (x6 : Int32) (x7 : Int32) (S : sT), kc ≤ mc ∧ ks ≤ ms → wA_X8_yieldOf_b26 mc ms kk14 Q n kc ks x1 x2 x3 x4 x5 x6 x7 S → x_X p l e (rA_X8_yieldOf mc ms) s m args below meth c gg 10 kc ks (MQ below (va_Qi Q (fun S1 t => s_Rep gg S1 t.heap) (s_A gg)) args s mc ms (s_A gg)) 26 [(1, .int x1), (2, .int x2), (3, .int x3), (4, .ref x4), (5, .int x5), (6, .int x6), (7, .int x7)] [] S := by
  obtain ⟨hx, hb, -⟩ := id C
  intro n
  induction n with
  | zero => intro kc ks x1 x2 x3 x4 x5 x6 x7 S hk h; exact absurd h id
  | succ n ih =>
    intro kc ks x1 x2 x3 x4 x5 x6 x7 S hk h H locs ls hR hS hl
    unfold wA_X8_yieldOf_b26 at h
    refine lv_iload hx hb dX8_yieldOf_26 (lv_at hl 6 rfl) ?_
    refine lv_aload hx hb dX8_yieldOf_28 (lv_at hl 3 rfl) ?_
    obtain ⟨hK_x4, h⟩ := h
    refine x_gN_256 C hR hK_x4 (xn_2 C) dX8_yieldOf_30 ?_
    obtain ⟨a101, ea101, h⟩ := h
    refine x_some ea101 ?_
    obtain ⟨hK_a101, h⟩ := h
    refine x_alen13 C hR hK_a101 dX8_yieldOf_33 ?_
    refine lv_topi (fun x102 ex102 => ?_)
    replace h := h x102 ex102
    refine lv_icmp_ge (tgt := 68) hx hb dX8_yieldOf_34 (by decide) (fun hc103 => ?_) (fun hc103 => ?_)
    · replace h := h.1 hc103
      refine lv_aload hx hb dX8_yieldOf_68 (lv_at hl 3 rfl) ?_
      refine x_kv (x_runV (As := []) (rest := []) C hml hR hS (m_X7_pass l gg x4 S h) b_X7_pass q_26_5 (by rw [hK_x4]; decide) (s_E_8 hK_x4) rfl rfl rfl rfl ⟨Nat.le_of_ble_eq_true rfl, Nat.le_of_ble_eq_true rfl⟩ rfl hl.1 (Nat.le_of_ble_eq_true rfl) dX8_yieldOf_70 ⟨hk.1, hk.2⟩) hS (fun S104 H locs hn hR hS => ?_)
      replace h := hn
      clear hn
      obtain ⟨x105, ex105⟩ : ∃ z : Int32, z = x5 + 1 := ⟨_, rfl⟩
      replace h := h x105 ex105
      refine lv_iinc (v := x105) (lv' := [(5, .int x105), (1, .int x1), (2, .int x2), (3, .int x3), (4, .ref x4), (6, .int x6), (7, .int x7)]) hx hb dX8_yieldOf_73 hl (k := 4) rfl (by rw [ex105]; rfl) (by decide) rfl (fun ls hl => ?_)
      refine lv_goto (tgt := 14) hx hb dX8_yieldOf_76 (by decide) ?_
      exact hk14 kc ks x1 x2 x3 x4 x105 S104 hk h H locs ls hR hS (lv_sub (l' := [(1, .int x1), (2, .int x2), (3, .int x3), (4, .ref x4), (5, .int x105)]) hl [1, 2, 3, 4, 0] rfl)
    · replace h := h.2 hc103
      refine lv_iload hx hb dX8_yieldOf_37 (lv_at hl 5 rfl) ?_
      refine lv_iconst (v := 3) hx hb dX8_yieldOf_39 (by decide) ?_
      refine lv_irem hx hb dX8_yieldOf_40 (by decide) ?_
      refine lv_topi (fun x106 ex106 => ?_)
      replace h := h x106 ex106
      refine lv_iconst (v := 5) hx hb dX8_yieldOf_41 (by decide) ?_
      refine lv_imul hx hb dX8_yieldOf_42 ?_
      refine lv_topi (fun x107 ex107 => ?_)
      replace h := h x107 ex107
      refine lv_iload hx hb dX8_yieldOf_43 (lv_at hl 4 rfl) ?_
      refine lv_icmp_ne (tgt := 56) hx hb dX8_yieldOf_45 (by decide) (fun hc108 => ?_) (fun hc108 => ?_)
      · replace h := h.1 hc108
        exact tA_X8_yieldOf_b56 C hml hr hlocks hk hk14 (fun kc ks x1 x2 x3 x4 x5 x6 x7 S hk h => ih kc ks x1 x2 x3 x4 x5 x6 x7 S hk h) h H locs ls hR hS (lv_sub (l' := [(1, .int x1), (2, .int x2), (3, .int x3), (4, .ref x4), (5, .int x5), (6, .int x6), (7, .int x7)]) hl [0, 1, 2, 3, 4, 5, 6] rfl)
      · replace h := h.2 hc108
        refine lv_aload hx hb dX8_yieldOf_48 (lv_at hl 3 rfl) ?_
        refine lv_iload hx hb dX8_yieldOf_50 (lv_at hl 6 rfl) ?_
        refine lv_iload_n hx hb dX8_yieldOf_52 rfl (lv_at hl 1 rfl) ?_
        refine x_kv (x_runS (As := [.ref x4, .int x7, .int x2]) (rest := []) C hml hR hS (m_X8_plantAll l gg x4 x7 x2 S h) b_X8_plantAll q_43_14 rfl rfl ⟨Nat.le_of_ble_eq_true rfl, Nat.le_of_ble_eq_true rfl⟩ rfl hl.1 (Nat.le_of_ble_eq_true rfl) dX8_yieldOf_53 ⟨hk.1, hk.2⟩) hS (fun S109 H locs hn hR hS => ?_)
        replace h := hn
        clear hn
        exact tA_X8_yieldOf_b56 C hml hr hlocks hk hk14 (fun kc ks x1 x2 x3 x4 x5 x6 x7 S hk h => ih kc ks x1 x2 x3 x4 x5 x6 x7 S hk h) h H locs ls hR hS (lv_sub (l' := [(1, .int x1), (2, .int x2), (3, .int x3), (4, .ref x4), (5, .int x5), (6, .int x6), (7, .int x7)]) hl [0, 1, 2, 3, 4, 5, 6] rfl)
set_option maxHeartbeats 4000000 in
theorem tA_X8_yieldOf_b97 {Q : Int32 → sT → Prop} (C : x_C p s m args c cX8_yieldOf RX8 gg) (hml : c.maxLocals = 10) (hr : meth.sig.returnType = (some .int)) (hlocks : meth.locks = false) {mc ms : Nat}   : ∀ (n : Nat) (kc ks : Nat) (x4 : Nat) (x5 : Int32) (x6 : Nat) (x7 : Int32) (x8 : Int32) (S : sT), kc ≤ mc ∧ ks ≤ ms → wA_X8_yieldOf_b97 mc ms  Q n kc ks x4 x5 x6 x7 x8 S → x_X p l e (rA_X8_yieldOf mc ms) s m args below meth c gg 10 kc ks (MQ below (va_Qi Q (fun S1 t => s_Rep gg S1 t.heap) (s_A gg)) args s mc ms (s_A gg)) 97 [(4, .ref x4), (5, .int x5), (6, .ref x6), (7, .int x7), (8, .int x8)] [] S := by
  obtain ⟨hx, hb, -⟩ := id C
  intro n
  induction n with
  | zero => intro kc ks x4 x5 x6 x7 x8 S hk h; exact absurd h id
  | succ n ih =>
    intro kc ks x4 x5 x6 x7 x8 S hk h H locs ls hR hS hl
    unfold wA_X8_yieldOf_b97 at h
    refine lv_iload hx hb dX8_yieldOf_97 (lv_at hl 4 rfl) ?_
    refine lv_iload hx hb dX8_yieldOf_99 (lv_at hl 3 rfl) ?_
    refine lv_icmp_ge (tgt := 129) hx hb dX8_yieldOf_101 (by decide) (fun hc101 => ?_) (fun hc101 => ?_)
    · replace h := h.1 hc101
      refine lv_iload hx hb dX8_yieldOf_129 (lv_at hl 1 rfl) ?_
      refine W.widen (k := mc) (n := ms) hk.1 hk.2 ?_
      exact W.iret (v := x5) hx hb hr (fun t ht hW => ⟨⟨x5, S, rfl, h, x_rt ht hR⟩, hS.F ht⟩) hS.2.2 dX8_yieldOf_131
    · replace h := h.2 hc101
      refine lv_aload hx hb dX8_yieldOf_104 (lv_at hl 2 rfl) ?_
      refine lv_iload hx hb dX8_yieldOf_106 (lv_at hl 4 rfl) ?_
      obtain ⟨hK_x6, h⟩ := h
      obtain ⟨hi102, a103, ea103, h⟩ := h
      refine x_aald13 C hR hK_x6 hi102 dX8_yieldOf_108 ?_
      refine x_some ea103 ?_
      refine lv_astore (lv' := [(9, .ref a103), (4, .ref x4), (5, .int x5), (6, .ref x6), (7, .int x7), (8, .int x8)]) hx hb dX8_yieldOf_109 hl (by decide) rfl (fun ls hl => ?_)
      refine lv_iload hx hb dX8_yieldOf_111 (lv_at hl 2 rfl) ?_
      refine lv_aload hx hb dX8_yieldOf_113 (lv_at hl 1 rfl) ?_
      refine lv_aload hx hb dX8_yieldOf_115 (lv_at hl 0 rfl) ?_
      obtain ⟨hK_x4, h⟩ := h
      refine x_ki (x_runV (As := [.ref a103]) (rest := [.int x5]) C hml hR hS (m_X7_yield l gg x4 a103 S h) b_X7_yield q_19_6 (by rw [hK_x4]; decide) (s_E_8 hK_x4) rfl rfl rfl rfl ⟨Nat.le_of_ble_eq_true rfl, Nat.le_of_ble_eq_true rfl⟩ rfl hl.1 (Nat.le_of_ble_eq_true rfl) dX8_yieldOf_117 ⟨hk.1, hk.2⟩) hS (fun x105 S104 H locs hn hR hS => ?_)
      replace h := hn
      clear hn
      refine lv_iadd hx hb dX8_yieldOf_120 ?_
      refine lv_topi (fun x106 ex106 => ?_)
      replace h := h x106 ex106
      refine lv_istore (lv' := [(5, .int x106), (9, .ref a103), (4, .ref x4), (6, .ref x6), (7, .int x7), (8, .int x8)]) hx hb dX8_yieldOf_121 hl (by decide) rfl (fun ls hl => ?_)
      obtain ⟨x107, ex107⟩ : ∃ z : Int32, z = x8 + 1 := ⟨_, rfl⟩
      replace h := h x107 ex107
      refine lv_iinc (v := x107) (lv' := [(8, .int x107), (5, .int x106), (9, .ref a103), (4, .ref x4), (6, .ref x6), (7, .int x7)]) hx hb dX8_yieldOf_123 hl (k := 5) rfl (by rw [ex107]; rfl) (by decide) rfl (fun ls hl => ?_)
      refine lv_goto (tgt := 97) hx hb dX8_yieldOf_126 (by decide) ?_
      exact ih kc ks x4 x106 x6 x7 x107 S104 hk h H locs ls hR hS (lv_sub (l' := [(4, .ref x4), (5, .int x106), (6, .ref x6), (7, .int x7), (8, .int x107)]) hl [3, 1, 4, 5, 0] rfl)
set_option maxHeartbeats 4000000 in
theorem tA_X8_yieldOf_b14 {Q : Int32 → sT → Prop} (C : x_C p s m args c cX8_yieldOf RX8 gg) (hml : c.maxLocals = 10) (hr : meth.sig.returnType = (some .int)) (hlocks : meth.locks = false) {mc ms : Nat}   : ∀ (n : Nat) (kc ks : Nat) (x1 : Int32) (x2 : Int32) (x3 : Int32) (x4 : Nat) (x5 : Int32) (S : sT), kc ≤ mc ∧ ks ≤ ms → wA_X8_yieldOf_b14 mc ms  Q n kc ks x1 x2 x3 x4 x5 S → x_X p l e (rA_X8_yieldOf mc ms) s m args below meth c gg 10 kc ks (MQ below (va_Qi Q (fun S1 t => s_Rep gg S1 t.heap) (s_A gg)) args s mc ms (s_A gg)) 14 [(1, .int x1), (2, .int x2), (3, .int x3), (4, .ref x4), (5, .int x5)] [] S := by
  obtain ⟨hx, hb, -⟩ := id C
  intro n
  induction n with
  | zero => intro kc ks x1 x2 x3 x4 x5 S hk h; exact absurd h id
  | succ n ih =>
    intro kc ks x1 x2 x3 x4 x5 S hk h H locs ls hR hS hl
    unfold wA_X8_yieldOf_b14 at h
    refine lv_iload hx hb dX8_yieldOf_14 (lv_at hl 4 rfl) ?_
    refine lv_iload_n hx hb dX8_yieldOf_16 rfl (lv_at hl 2 rfl) ?_
    refine lv_icmp_ge (tgt := 79) hx hb dX8_yieldOf_17 (by decide) (fun hc101 => ?_) (fun hc101 => ?_)
    · replace h := h.1 hc101
      refine lv_iconst (v := 0) hx hb dX8_yieldOf_79 (by decide) ?_
      refine lv_istore (lv' := [(5, .int (0 : Int32)), (1, .int x1), (2, .int x2), (3, .int x3), (4, .ref x4)]) hx hb dX8_yieldOf_80 hl (by decide) rfl (fun ls hl => ?_)
      refine lv_aload hx hb dX8_yieldOf_82 (lv_at hl 4 rfl) ?_
      obtain ⟨hK_x4, h⟩ := h
      refine x_gN_257 C hR hK_x4 (xn_1 C) dX8_yieldOf_84 ?_
      obtain ⟨a102, ea102, h⟩ := h
      refine x_some ea102 ?_
      refine lv_astore (lv' := [(6, .ref a102), (5, .int (0 : Int32)), (1, .int x1), (2, .int x2), (3, .int x3), (4, .ref x4)]) hx hb dX8_yieldOf_87 hl (by decide) rfl (fun ls hl => ?_)
      refine lv_aload hx hb dX8_yieldOf_89 (lv_at hl 0 rfl) ?_
      obtain ⟨hK_a102, h⟩ := h
      refine x_alen13 C hR hK_a102 dX8_yieldOf_91 ?_
      refine lv_topi (fun x103 ex103 => ?_)
      replace h := h x103 ex103
      refine lv_istore (lv' := [(7, .int x103), (6, .ref a102), (5, .int (0 : Int32)), (1, .int x1), (2, .int x2), (3, .int x3), (4, .ref x4)]) hx hb dX8_yieldOf_92 hl (by decide) rfl (fun ls hl => ?_)
      refine lv_iconst (v := 0) hx hb dX8_yieldOf_94 (by decide) ?_
      refine lv_istore (lv' := [(8, .int (0 : Int32)), (7, .int x103), (6, .ref a102), (5, .int (0 : Int32)), (1, .int x1), (2, .int x2), (3, .int x3), (4, .ref x4)]) hx hb dX8_yieldOf_95 hl (by decide) rfl (fun ls hl => ?_)
      obtain ⟨n9, h⟩ := h
      exact tA_X8_yieldOf_b97 C hml hr hlocks  n9 kc ks x4 (0 : Int32) a102 x103 (0 : Int32) S hk h H locs ls hR hS (lv_sub (l' := [(4, .ref x4), (5, .int (0 : Int32)), (6, .ref a102), (7, .int x103), (8, .int (0 : Int32))]) hl [7, 3, 2, 1, 0] rfl)
    · replace h := h.2 hc101
      refine lv_iload_n hx hb dX8_yieldOf_20 rfl (lv_at hl 0 rfl) ?_
      refine lv_istore (lv' := [(6, .int x1), (1, .int x1), (2, .int x2), (3, .int x3), (4, .ref x4), (5, .int x5)]) hx hb dX8_yieldOf_21 hl (by decide) rfl (fun ls hl => ?_)
      refine lv_iconst (v := 0) hx hb dX8_yieldOf_23 (by decide) ?_
      refine lv_istore (lv' := [(7, .int (0 : Int32)), (6, .int x1), (1, .int x1), (2, .int x2), (3, .int x3), (4, .ref x4), (5, .int x5)]) hx hb dX8_yieldOf_24 hl (by decide) rfl (fun ls hl => ?_)
      obtain ⟨n9, h⟩ := h
      exact tA_X8_yieldOf_b26 C hml hr hlocks (fun kc ks x1 x2 x3 x4 x5 S hk h => ih kc ks x1 x2 x3 x4 x5 S hk h) n9 kc ks x1 x2 x3 x4 x5 x1 (0 : Int32) S hk h H locs ls hR hS (lv_sub (l' := [(1, .int x1), (2, .int x2), (3, .int x3), (4, .ref x4), (5, .int x5), (6, .int x1), (7, .int (0 : Int32))]) hl [2, 3, 4, 5, 6, 1, 0] rfl)
set_option maxHeartbeats 4000000 in
theorem tA_X8_yieldOf_b0 {Q : Int32 → sT → Prop} (C : x_C p s m args c cX8_yieldOf RX8 gg) (hml : c.maxLocals = 10) (hr : meth.sig.returnType = (some .int)) (hlocks : meth.locks = false) {mc ms kc ks : Nat} (hk : kc ≤ mc ∧ ks ≤ ms) {x0 : Nat} {x1 : Int32} {x2 : Int32} {x3 : Int32}  {S : sT}  (h : wA_X8_yieldOf_b0 mc ms kc ks x0 x1 x2 x3 S  Q) : x_X p l e (rA_X8_yieldOf mc ms) s m args below meth c gg 10 kc ks (MQ below (va_Qi Q (fun S1 t => s_Rep gg S1 t.heap) (s_A gg)) args s mc ms (s_A gg)) 0 [(0, .ref x0), (1, .int x1), (2, .int x2), (3, .int x3)] [] S := by
  unfold wA_X8_yieldOf_b0 at h
  obtain ⟨hx, hb, -⟩ := id C
  intro H locs ls hR hS hl
  refine lv_aload_n hx hb dX8_yieldOf_0 rfl (lv_at hl 0 rfl) ?_
  obtain ⟨hK_x0, h⟩ := h
  refine x_g_289 C hR hK_x0 q_3_8 dX8_yieldOf_1 ?_
  obtain ⟨a101, ea101, h⟩ := h
  refine x_some ea101 ?_
  refine lv_iconst (v := 0) hx hb dX8_yieldOf_4 (by decide) ?_
  refine lv_iconst (v := 0) hx hb dX8_yieldOf_5 (by decide) ?_
  obtain ⟨hK_a101, h⟩ := h
  obtain ⟨c102, d103, hk1, hk2, h⟩ := h
  refine x_kq (x_runV (As := [.int (0 : Int32), .int (0 : Int32)]) (rest := []) C hml hR hS (mA_X7_with l gg c102 d103 a101 (0 : Int32) (0 : Int32) S h) b_X7_with q_8_9 (by rw [hK_a101]; decide) (s_E_8 hK_a101) rfl rfl rfl rfl ⟨Nat.le_of_ble_eq_true rfl, Nat.le_of_ble_eq_true rfl⟩ rfl hl.1 (Nat.le_of_ble_eq_true rfl) dX8_yieldOf_6 ⟨hk1, hk2⟩) hS (fun ra105 S104 H locs hn hR hS => ?_)
  replace h := hn
  clear hn
  have hk : (kc + c102) ≤ mc ∧ (ks + d103) ≤ ms := ⟨hk1, hk2⟩
  obtain ⟨a105, za105, h⟩ := h
  refine x_some za105 ?_
  refine lv_astore (lv' := [(4, .ref a105), (0, .ref x0), (1, .int x1), (2, .int x2), (3, .int x3)]) hx hb dX8_yieldOf_9 hl (by decide) rfl (fun ls hl => ?_)
  refine lv_iconst (v := 0) hx hb dX8_yieldOf_11 (by decide) ?_
  refine lv_istore (lv' := [(5, .int (0 : Int32)), (4, .ref a105), (0, .ref x0), (1, .int x1), (2, .int x2), (3, .int x3)]) hx hb dX8_yieldOf_12 hl (by decide) rfl (fun ls hl => ?_)
  obtain ⟨n9, h⟩ := h
  exact tA_X8_yieldOf_b14 C hml hr hlocks  n9 (kc + c102) (ks + d103) x1 x2 x3 a105 (0 : Int32) S104 hk h H locs ls hR hS (lv_sub (l' := [(1, .int x1), (2, .int x2), (3, .int x3), (4, .ref a105), (5, .int (0 : Int32))]) hl [3, 4, 5, 1, 0] rfl)
theorem mA_X8_yieldOf (l : Launch) (gg : sG) (mc ms : Nat) (x0 : Nat) (x1 : Int32) (x2 : Int32) (x3 : Int32) (S : sT) {Q : Int32 → sT → Prop} (h : wA_X8_yieldOf mc ms x0 x1 x2 x3 S Q) : x_Mi l gg yX8_yieldOf (x_ws yX8_yieldOf cX8_yieldOf 10 (some .int)) (rA_X8_yieldOf mc ms) [.ref x0, .int x1, .int x2, .int x3] S Q mc ms := by
  refine x_ofW (cc := cX8_yieldOf) (own := RX8) (by decide +kernel) rfl (Nat.le_of_ble_eq_true rfl) ?_
  intro p e s m args below meth c C hml hr hlocks hin ht H locs ls hR hS hl
  exact tA_X8_yieldOf_b0 C hml hr hlocks ⟨Nat.zero_le _, Nat.zero_le _⟩ h H locs ls hR hS (lv_sub (l' := [(0, .ref x0), (1, .int x1), (2, .int x2), (3, .int x3)]) hl [0, 1, 2, 3] rfl)
def wA_X8_planNow_b71 (mc ms kc ks : Nat) (x0 : Nat) (x1 : Int32) (x2 : Int32) (x3 : Int32) (x4 : Int32) (x5 : Int32) (x6 : Int32) (S : sT) (kk37 : Nat → Nat → Nat → Int32 → Int32 → Int32 → Int32 → Int32 → Int32 → sT → Prop) (Q : Int32 → sT → Prop) : Prop :=
∀ x101 : Int32, x101 = x6 + 1 →
    kk37 kc ks x0 x1 x2 x3 x4 x5 x101 S
def wA_X8_planNow_b37 (mc ms : Nat)  (Q : Int32 → sT → Prop) : Nat → Nat → Nat → Nat → Int32 → Int32 → Int32 → Int32 → Int32 → Int32 → sT → Prop
  | 0 => fun _ _ _ _ _ _ _ _ _ _ => False
  | n + 1 => fun kc ks x0 x1 x2 x3 x4 x5 x6 S =>
((x3 ≤ x6 → Q x4 S) ∧
    (¬ x3 ≤ x6 → s_K S x0 = 10 ∧
    ∃ c102 d103 : Nat, kc + c102 ≤ mc ∧ ks + d103 ≤ ms ∧
    wA_X8_yieldOf c102 d103 x0 x6 x1 x2 S (fun x105 S104 =>
    ((x5 < x105 → wA_X8_planNow_b71 mc ms (kc + c102) (ks + d103) x0 x1 x2 x3 x6 x105 x6 S104 (fun kc ks x0 x1 x2 x3 x4 x5 x6 S => wA_X8_planNow_b37 mc ms  Q n kc ks x0 x1 x2 x3 x4 x5 x6 S) Q) ∧
    (¬ x5 < x105 → wA_X8_planNow_b71 mc ms (kc + c102) (ks + d103) x0 x1 x2 x3 x4 x5 x6 S104 (fun kc ks x0 x1 x2 x3 x4 x5 x6 S => wA_X8_planNow_b37 mc ms  Q n kc ks x0 x1 x2 x3 x4 x5 x6 S) Q)))))
def wA_X8_planNow_b5 (mc ms : Nat)  (Q : Int32 → sT → Prop) : Nat → Nat → Nat → Nat → Int32 → Int32 → Int32 → Int32 → sT → Prop
  | 0 => fun _ _ _ _ _ _ _ _ => False
  | n + 1 => fun kc ks x0 x1 x2 x3 x4 S =>
s_K S x0 = 10 ∧
    ∃ a101 : Nat, s_R S 289 x0 = some a101 ∧
    s_K S a101 = 9 ∧
    ∃ a102 : Nat, s_R S 256 a101 = some a102 ∧
    s_K S a102 = 13 ∧
    ∀ x103 : Int32, x103 = nI (s_N S a102) →
    ((x103 ≤ x4 → ∃ n9 : Nat, wA_X8_planNow_b37 mc ms  Q n9 kc ks x0 x1 x2 x3 (-1 : Int32) (-1 : Int32) (0 : Int32) S) ∧
    (¬ x103 ≤ x4 → ∀ x105 : Int32, x105 = x3 * (3 : Int32) →
    ∀ x106 : Int32, x106 = x4 + 1 →
    wA_X8_planNow_b5 mc ms  Q n kc ks x0 x1 x2 x105 x106 S))
def wA_X8_planNow_b0 (mc ms kc ks : Nat) (x0 : Nat) (x1 : Int32) (x2 : Int32) (S : sT)  (Q : Int32 → sT → Prop) : Prop :=
∃ n9 : Nat, wA_X8_planNow_b5 mc ms  Q n9 kc ks x0 x1 x2 (1 : Int32) (0 : Int32) S
def wA_X8_planNow (mc ms : Nat) (x0 : Nat) (x1 : Int32) (x2 : Int32) (S : sT) (Q : Int32 → sT → Prop) : Prop := wA_X8_planNow_b0 mc ms 0 0 x0 x1 x2 S Q
def rA_X8_planNow (mc ms : Nat) : Room := x_rm 5 148 mc ms
theorem b_X8_planNow : x_BV yX8_planNow cX8_planNow 8 (some .int) 2 := ⟨q_43_9, q_43_7, q_43_8, q_1_5, by decide +kernel⟩
set_option maxHeartbeats 4000000 in
theorem tA_X8_planNow_b71 {Q : Int32 → sT → Prop} (C : x_C p s m args c cX8_planNow RX8 gg) (hml : c.maxLocals = 8) (hr : meth.sig.returnType = (some .int)) (hlocks : meth.locks = false) {mc ms kc ks : Nat} (hk : kc ≤ mc ∧ ks ≤ ms) {x0 : Nat} {x1 : Int32} {x2 : Int32} {x3 : Int32} {x4 : Int32} {x5 : Int32} {x6 : Int32} {kk37 : Nat → Nat → Nat → Int32 → Int32 → Int32 → Int32 → Int32 → Int32 → sT → Prop} {S : sT} (hk37 : ∀ (kc ks : Nat) (x0 : Nat) (x1 : Int32) (x2 : Int32) (x3 : Int32) (x4 : Int32) (x5 : Int32) (x6 : Int32) (S : sT), kc ≤ mc ∧ ks ≤ ms → kk37 kc ks x0 x1 x2 x3 x4 x5 x6 S → x_X p l e (rA_X8_planNow mc ms) s m args below meth c gg 8 kc ks (MQ below (va_Qi Q (fun S1 t => s_Rep gg S1 t.heap) (s_A gg)) args s mc ms (s_A gg)) 37 [(0, .ref x0), (1, .int x1), (2, .int x2), (3, .int x3), (4, .int x4), (5, .int x5), (6, .int x6)] [] S) (h : wA_X8_planNow_b71 mc ms kc ks x0 x1 x2 x3 x4 x5 x6 S kk37 Q) : x_X p l e (rA_X8_planNow mc ms) s m args below meth c gg 8 kc ks (MQ below (va_Qi Q (fun S1 t => s_Rep gg S1 t.heap) (s_A gg)) args s mc ms (s_A gg)) 71 [(0, .ref x0), (1, .int x1), (2, .int x2), (3, .int x3), (4, .int x4), (5, .int x5), (6, .int x6)] [] S := by
  unfold wA_X8_planNow_b71 at h
  obtain ⟨hx, hb, -⟩ := id C
  intro H locs ls hR hS hl
  obtain ⟨x101, ex101⟩ : ∃ z : Int32, z = x6 + 1 := ⟨_, rfl⟩
  replace h := h x101 ex101
  refine lv_iinc (v := x101) (lv' := [(6, .int x101), (0, .ref x0), (1, .int x1), (2, .int x2), (3, .int x3), (4, .int x4), (5, .int x5)]) hx hb dX8_planNow_71 hl (k := 6) rfl (by rw [ex101]; rfl) (by decide) rfl (fun ls hl => ?_)
  refine lv_goto (tgt := 37) hx hb dX8_planNow_74 (by decide) ?_
  exact hk37 kc ks x0 x1 x2 x3 x4 x5 x101 S hk h H locs ls hR hS (lv_sub (l' := [(0, .ref x0), (1, .int x1), (2, .int x2), (3, .int x3), (4, .int x4), (5, .int x5), (6, .int x101)]) hl [1, 2, 3, 4, 5, 6, 0] rfl)
set_option maxHeartbeats 4000000 in
theorem tA_X8_planNow_b37 {Q : Int32 → sT → Prop} (C : x_C p s m args c cX8_planNow RX8 gg) (hml : c.maxLocals = 8) (hr : meth.sig.returnType = (some .int)) (hlocks : meth.locks = false) {mc ms : Nat}   : ∀ (n : Nat) (kc ks : Nat) (x0 : Nat) (x1 : Int32) (x2 : Int32) (x3 : Int32) (x4 : Int32) (x5 : Int32) (x6 : Int32) (S : sT), kc ≤ mc ∧ ks ≤ ms → wA_X8_planNow_b37 mc ms  Q n kc ks x0 x1 x2 x3 x4 x5 x6 S → x_X p l e (rA_X8_planNow mc ms) s m args below meth c gg 8 kc ks (MQ below (va_Qi Q (fun S1 t => s_Rep gg S1 t.heap) (s_A gg)) args s mc ms (s_A gg)) 37 [(0, .ref x0), (1, .int x1), (2, .int x2), (3, .int x3), (4, .int x4), (5, .int x5), (6, .int x6)] [] S := by
  obtain ⟨hx, hb, -⟩ := id C
  intro n
  induction n with
  | zero => intro kc ks x0 x1 x2 x3 x4 x5 x6 S hk h; exact absurd h id
  | succ n ih =>
    intro kc ks x0 x1 x2 x3 x4 x5 x6 S hk h H locs ls hR hS hl
    unfold wA_X8_planNow_b37 at h
    refine lv_iload hx hb dX8_planNow_37 (lv_at hl 6 rfl) ?_
    refine lv_iload_n hx hb dX8_planNow_39 rfl (lv_at hl 3 rfl) ?_
    refine lv_icmp_ge (tgt := 77) hx hb dX8_planNow_40 (by decide) (fun hc101 => ?_) (fun hc101 => ?_)
    · replace h := h.1 hc101
      refine lv_iload hx hb dX8_planNow_77 (lv_at hl 4 rfl) ?_
      refine W.widen (k := mc) (n := ms) hk.1 hk.2 ?_
      exact W.iret (v := x4) hx hb hr (fun t ht hW => ⟨⟨x4, S, rfl, h, x_rt ht hR⟩, hS.F ht⟩) hS.2.2 dX8_planNow_79
    · replace h := h.2 hc101
      refine lv_aload_n hx hb dX8_planNow_43 rfl (lv_at hl 0 rfl) ?_
      refine lv_iload hx hb dX8_planNow_44 (lv_at hl 6 rfl) ?_
      refine lv_iload_n hx hb dX8_planNow_46 rfl (lv_at hl 1 rfl) ?_
      refine lv_iload_n hx hb dX8_planNow_47 rfl (lv_at hl 2 rfl) ?_
      obtain ⟨hK_x0, h⟩ := h
      obtain ⟨c102, d103, hk1, hk2, h⟩ := h
      refine x_ki (x_runV (As := [.int x6, .int x1, .int x2]) (rest := []) C hml hR hS (mA_X8_yieldOf l gg c102 d103 x0 x6 x1 x2 S h) b_X8_yieldOf q_43_10 (by rw [hK_x0]; decide) (s_E_9 hK_x0) rfl rfl rfl rfl ⟨Nat.le_of_ble_eq_true rfl, Nat.le_of_ble_eq_true rfl⟩ rfl hl.1 (Nat.le_of_ble_eq_true rfl) dX8_planNow_48 ⟨hk1, hk2⟩) hS (fun x105 S104 H locs hn hR hS => ?_)
      replace h := hn
      clear hn
      have hk : (kc + c102) ≤ mc ∧ (ks + d103) ≤ ms := ⟨hk1, hk2⟩
      refine lv_istore (lv' := [(7, .int x105), (0, .ref x0), (1, .int x1), (2, .int x2), (3, .int x3), (4, .int x4), (5, .int x5), (6, .int x6)]) hx hb dX8_planNow_51 hl (by decide) rfl (fun ls hl => ?_)
      refine lv_iload hx hb dX8_planNow_53 (lv_at hl 0 rfl) ?_
      refine lv_iload hx hb dX8_planNow_55 (lv_at hl 6 rfl) ?_
      refine lv_icmp_gt (tgt := 63) hx hb dX8_planNow_57 (by decide) (fun hc106 => ?_) (fun hc106 => ?_)
      · replace h := h.1 hc106
        refine lv_iload hx hb dX8_planNow_63 (lv_at hl 7 rfl) ?_
        refine lv_istore (lv' := [(4, .int x6), (7, .int x105), (0, .ref x0), (1, .int x1), (2, .int x2), (3, .int x3), (5, .int x5), (6, .int x6)]) hx hb dX8_planNow_65 hl (by decide) rfl (fun ls hl => ?_)
        refine lv_iload hx hb dX8_planNow_67 (lv_at hl 1 rfl) ?_
        refine lv_istore (lv' := [(5, .int x105), (4, .int x6), (7, .int x105), (0, .ref x0), (1, .int x1), (2, .int x2), (3, .int x3), (6, .int x6)]) hx hb dX8_planNow_69 hl (by decide) rfl (fun ls hl => ?_)
        exact tA_X8_planNow_b71 C hml hr hlocks hk (fun kc ks x0 x1 x2 x3 x4 x5 x6 S hk h => ih kc ks x0 x1 x2 x3 x4 x5 x6 S hk h) h H locs ls hR hS (lv_sub (l' := [(0, .ref x0), (1, .int x1), (2, .int x2), (3, .int x3), (4, .int x6), (5, .int x105), (6, .int x6)]) hl [3, 4, 5, 6, 1, 0, 7] rfl)
      · replace h := h.2 hc106
        refine lv_goto (tgt := 71) hx hb dX8_planNow_60 (by decide) ?_
        exact tA_X8_planNow_b71 C hml hr hlocks hk (fun kc ks x0 x1 x2 x3 x4 x5 x6 S hk h => ih kc ks x0 x1 x2 x3 x4 x5 x6 S hk h) h H locs ls hR hS (lv_sub (l' := [(0, .ref x0), (1, .int x1), (2, .int x2), (3, .int x3), (4, .int x4), (5, .int x5), (6, .int x6)]) hl [1, 2, 3, 4, 5, 6, 7] rfl)
set_option maxHeartbeats 4000000 in
theorem tA_X8_planNow_b5 {Q : Int32 → sT → Prop} (C : x_C p s m args c cX8_planNow RX8 gg) (hml : c.maxLocals = 8) (hr : meth.sig.returnType = (some .int)) (hlocks : meth.locks = false) {mc ms : Nat}   : ∀ (n : Nat) (kc ks : Nat) (x0 : Nat) (x1 : Int32) (x2 : Int32) (x3 : Int32) (x4 : Int32) (S : sT), kc ≤ mc ∧ ks ≤ ms → wA_X8_planNow_b5 mc ms  Q n kc ks x0 x1 x2 x3 x4 S → x_X p l e (rA_X8_planNow mc ms) s m args below meth c gg 8 kc ks (MQ below (va_Qi Q (fun S1 t => s_Rep gg S1 t.heap) (s_A gg)) args s mc ms (s_A gg)) 5 [(0, .ref x0), (1, .int x1), (2, .int x2), (3, .int x3), (4, .int x4)] [] S := by
  obtain ⟨hx, hb, -⟩ := id C
  intro n
  induction n with
  | zero => intro kc ks x0 x1 x2 x3 x4 S hk h; exact absurd h id
  | succ n ih =>
    intro kc ks x0 x1 x2 x3 x4 S hk h H locs ls hR hS hl
    unfold wA_X8_planNow_b5 at h
    refine lv_iload hx hb dX8_planNow_5 (lv_at hl 4 rfl) ?_
    refine lv_aload_n hx hb dX8_planNow_7 rfl (lv_at hl 0 rfl) ?_
    obtain ⟨hK_x0, h⟩ := h
    refine x_g_289 C hR hK_x0 q_3_8 dX8_planNow_8 ?_
    obtain ⟨a101, ea101, h⟩ := h
    refine x_some ea101 ?_
    obtain ⟨hK_a101, h⟩ := h
    refine x_gN_256 C hR hK_a101 (xn_2 C) dX8_planNow_11 ?_
    obtain ⟨a102, ea102, h⟩ := h
    refine x_some ea102 ?_
    obtain ⟨hK_a102, h⟩ := h
    refine x_alen13 C hR hK_a102 dX8_planNow_14 ?_
    refine lv_topi (fun x103 ex103 => ?_)
    replace h := h x103 ex103
    refine lv_icmp_ge (tgt := 28) hx hb dX8_planNow_15 (by decide) (fun hc104 => ?_) (fun hc104 => ?_)
    · replace h := h.1 hc104
      refine lv_iconst (v := (-1)) hx hb dX8_planNow_28 (by decide) ?_
      refine lv_istore (lv' := [(4, .int (-1 : Int32)), (0, .ref x0), (1, .int x1), (2, .int x2), (3, .int x3)]) hx hb dX8_planNow_29 hl (by decide) rfl (fun ls hl => ?_)
      refine lv_iconst (v := (-1)) hx hb dX8_planNow_31 (by decide) ?_
      refine lv_istore (lv' := [(5, .int (-1 : Int32)), (4, .int (-1 : Int32)), (0, .ref x0), (1, .int x1), (2, .int x2), (3, .int x3)]) hx hb dX8_planNow_32 hl (by decide) rfl (fun ls hl => ?_)
      refine lv_iconst (v := 0) hx hb dX8_planNow_34 (by decide) ?_
      refine lv_istore (lv' := [(6, .int (0 : Int32)), (5, .int (-1 : Int32)), (4, .int (-1 : Int32)), (0, .ref x0), (1, .int x1), (2, .int x2), (3, .int x3)]) hx hb dX8_planNow_35 hl (by decide) rfl (fun ls hl => ?_)
      obtain ⟨n9, h⟩ := h
      exact tA_X8_planNow_b37 C hml hr hlocks  n9 kc ks x0 x1 x2 x3 (-1 : Int32) (-1 : Int32) (0 : Int32) S hk h H locs ls hR hS (lv_sub (l' := [(0, .ref x0), (1, .int x1), (2, .int x2), (3, .int x3), (4, .int (-1 : Int32)), (5, .int (-1 : Int32)), (6, .int (0 : Int32))]) hl [3, 4, 5, 6, 2, 1, 0] rfl)
    · replace h := h.2 hc104
      refine lv_iload_n hx hb dX8_planNow_18 rfl (lv_at hl 3 rfl) ?_
      refine lv_iconst (v := 3) hx hb dX8_planNow_19 (by decide) ?_
      refine lv_imul hx hb dX8_planNow_20 ?_
      refine lv_topi (fun x105 ex105 => ?_)
      replace h := h x105 ex105
      refine lv_istore_n (lv' := [(3, .int x105), (0, .ref x0), (1, .int x1), (2, .int x2), (4, .int x4)]) hx hb dX8_planNow_21 rfl hl (by decide) rfl (fun ls hl => ?_)
      obtain ⟨x106, ex106⟩ : ∃ z : Int32, z = x4 + 1 := ⟨_, rfl⟩
      replace h := h x106 ex106
      refine lv_iinc (v := x106) (lv' := [(4, .int x106), (3, .int x105), (0, .ref x0), (1, .int x1), (2, .int x2)]) hx hb dX8_planNow_22 hl (k := 4) rfl (by rw [ex106]; rfl) (by decide) rfl (fun ls hl => ?_)
      refine lv_goto (tgt := 5) hx hb dX8_planNow_25 (by decide) ?_
      exact ih kc ks x0 x1 x2 x105 x106 S hk h H locs ls hR hS (lv_sub (l' := [(0, .ref x0), (1, .int x1), (2, .int x2), (3, .int x105), (4, .int x106)]) hl [2, 3, 4, 1, 0] rfl)
set_option maxHeartbeats 4000000 in
theorem tA_X8_planNow_b0 {Q : Int32 → sT → Prop} (C : x_C p s m args c cX8_planNow RX8 gg) (hml : c.maxLocals = 8) (hr : meth.sig.returnType = (some .int)) (hlocks : meth.locks = false) {mc ms kc ks : Nat} (hk : kc ≤ mc ∧ ks ≤ ms) {x0 : Nat} {x1 : Int32} {x2 : Int32}  {S : sT}  (h : wA_X8_planNow_b0 mc ms kc ks x0 x1 x2 S  Q) : x_X p l e (rA_X8_planNow mc ms) s m args below meth c gg 8 kc ks (MQ below (va_Qi Q (fun S1 t => s_Rep gg S1 t.heap) (s_A gg)) args s mc ms (s_A gg)) 0 [(0, .ref x0), (1, .int x1), (2, .int x2)] [] S := by
  unfold wA_X8_planNow_b0 at h
  obtain ⟨hx, hb, -⟩ := id C
  intro H locs ls hR hS hl
  refine lv_iconst (v := 1) hx hb dX8_planNow_0 (by decide) ?_
  refine lv_istore_n (lv' := [(3, .int (1 : Int32)), (0, .ref x0), (1, .int x1), (2, .int x2)]) hx hb dX8_planNow_1 rfl hl (by decide) rfl (fun ls hl => ?_)
  refine lv_iconst (v := 0) hx hb dX8_planNow_2 (by decide) ?_
  refine lv_istore (lv' := [(4, .int (0 : Int32)), (3, .int (1 : Int32)), (0, .ref x0), (1, .int x1), (2, .int x2)]) hx hb dX8_planNow_3 hl (by decide) rfl (fun ls hl => ?_)
  obtain ⟨n9, h⟩ := h
  exact tA_X8_planNow_b5 C hml hr hlocks  n9 kc ks x0 x1 x2 (1 : Int32) (0 : Int32) S hk h H locs ls hR hS (lv_sub (l' := [(0, .ref x0), (1, .int x1), (2, .int x2), (3, .int (1 : Int32)), (4, .int (0 : Int32))]) hl [2, 3, 4, 1, 0] rfl)
theorem mA_X8_planNow (l : Launch) (gg : sG) (mc ms : Nat) (x0 : Nat) (x1 : Int32) (x2 : Int32) (S : sT) {Q : Int32 → sT → Prop} (h : wA_X8_planNow mc ms x0 x1 x2 S Q) : x_Mi l gg yX8_planNow (x_ws yX8_planNow cX8_planNow 8 (some .int)) (rA_X8_planNow mc ms) [.ref x0, .int x1, .int x2] S Q mc ms := by
  refine x_ofW (cc := cX8_planNow) (own := RX8) (by decide +kernel) rfl (Nat.le_of_ble_eq_true rfl) ?_
  intro p e s m args below meth c C hml hr hlocks hin ht H locs ls hR hS hl
  exact tA_X8_planNow_b0 C hml hr hlocks ⟨Nat.zero_le _, Nat.zero_le _⟩ h H locs ls hR hS (lv_sub (l' := [(0, .ref x0), (1, .int x1), (2, .int x2)]) hl [0, 1, 2] rfl)
def wA_X8_plan_b36 (mc ms kc ks : Nat) (y0 : Int32) (S : sT)  (Q : Int32 → sT → Prop) : Prop :=
Q y0 S
def wA_X8_plan_b31 (mc ms kc ks : Nat) (x0 : Nat) (S : sT)  (Q : Int32 → sT → Prop) : Prop :=
s_K S x0 = 10 ∧
    w_X8_refuse x0 (1 : Int32) S (fun x102 S101 =>
    wA_X8_plan_b36 mc ms kc ks x102 S101  Q)
def wA_X8_plan_b0 (mc ms kc ks : Nat) (x0 : Nat) (x1 : Int32) (x2 : Int32) (S : sT)  (Q : Int32 → sT → Prop) : Prop :=
s_K S x0 = 10 ∧
    ∀ S101 : sT, S101 = s_sI S 288 x0 (0 : Int32) →
    w_X8_isKind x1 S101 (fun x103 S102 =>
    ((x103 = 0 → wA_X8_plan_b31 mc ms kc ks x0 S102  Q) ∧
    (¬ x103 = 0 → w_X8_is x2 (1 : Int32) (30 : Int32) S102 (fun x106 S105 =>
    ((x106 = 0 → wA_X8_plan_b31 mc ms kc ks x0 S105  Q) ∧
    (¬ x106 = 0 → s_K S105 x0 = 10 ∧
    ∃ c108 d109 : Nat, kc + c108 ≤ mc ∧ ks + d109 ≤ ms ∧
    wA_X8_planNow c108 d109 x0 x1 x2 S105 (fun x111 S110 =>
    wA_X8_plan_b36 mc ms (kc + c108) (ks + d109) x111 S110  Q)))))))
def wA_X8_plan (mc ms : Nat) (x0 : Nat) (x1 : Int32) (x2 : Int32) (S : sT) (Q : Int32 → sT → Prop) : Prop := wA_X8_plan_b0 mc ms 0 0 x0 x1 x2 S Q
def rA_X8_plan (mc ms : Nat) : Room := x_rm 6 175 mc ms
theorem b_X8_plan : x_BV yX8_plan cX8_plan 3 (some .int) 2 := ⟨q_43_5, q_43_3, q_43_4, q_1_5, by decide +kernel⟩
set_option maxHeartbeats 4000000 in
theorem tA_X8_plan_b36 {Q : Int32 → sT → Prop} (C : x_C p s m args c cX8_plan RX8 gg) (hml : c.maxLocals = 3) (hr : meth.sig.returnType = (some .int)) (hlocks : meth.locks = false) {mc ms kc ks : Nat} (hk : kc ≤ mc ∧ ks ≤ ms) {y0 : Int32}  {S : sT}  (h : wA_X8_plan_b36 mc ms kc ks y0 S  Q) : x_X p l e (rA_X8_plan mc ms) s m args below meth c gg 3 kc ks (MQ below (va_Qi Q (fun S1 t => s_Rep gg S1 t.heap) (s_A gg)) args s mc ms (s_A gg)) 36 [] [.int y0] S := by
  unfold wA_X8_plan_b36 at h
  obtain ⟨hx, hb, -⟩ := id C
  intro H locs ls hR hS hl
  refine W.widen (k := mc) (n := ms) hk.1 hk.2 ?_
  exact W.iret (v := y0) hx hb hr (fun t ht hW => ⟨⟨y0, S, rfl, h, x_rt ht hR⟩, hS.F ht⟩) hS.2.2 dX8_plan_36
set_option maxHeartbeats 4000000 in
theorem tA_X8_plan_b31 {Q : Int32 → sT → Prop} (C : x_C p s m args c cX8_plan RX8 gg) (hml : c.maxLocals = 3) (hr : meth.sig.returnType = (some .int)) (hlocks : meth.locks = false) {mc ms kc ks : Nat} (hk : kc ≤ mc ∧ ks ≤ ms) {x0 : Nat}  {S : sT}  (h : wA_X8_plan_b31 mc ms kc ks x0 S  Q) : x_X p l e (rA_X8_plan mc ms) s m args below meth c gg 3 kc ks (MQ below (va_Qi Q (fun S1 t => s_Rep gg S1 t.heap) (s_A gg)) args s mc ms (s_A gg)) 31 [(0, .ref x0)] [] S := by
  unfold wA_X8_plan_b31 at h
  obtain ⟨hx, hb, -⟩ := id C
  intro H locs ls hR hS hl
  refine lv_aload_n hx hb dX8_plan_31 rfl (lv_at hl 0 rfl) ?_
  refine lv_iconst (v := 1) hx hb dX8_plan_32 (by decide) ?_
  obtain ⟨hK_x0, h⟩ := h
  refine x_ki (x_runV (As := [.int (1 : Int32)]) (rest := []) C hml hR hS (m_X8_refuse l gg x0 (1 : Int32) S h) b_X8_refuse q_8_5 (by rw [hK_x0]; decide) (s_E_9 hK_x0) rfl rfl rfl rfl ⟨Nat.le_of_ble_eq_true rfl, Nat.le_of_ble_eq_true rfl⟩ rfl hl.1 (Nat.le_of_ble_eq_true rfl) dX8_plan_33 ⟨hk.1, hk.2⟩) hS (fun x102 S101 H locs hn hR hS => ?_)
  replace h := hn
  clear hn
  exact tA_X8_plan_b36 C hml hr hlocks hk  h H locs ls hR hS (lv_sub (l' := []) hl [] rfl)
set_option maxHeartbeats 4000000 in
theorem tA_X8_plan_b0 {Q : Int32 → sT → Prop} (C : x_C p s m args c cX8_plan RX8 gg) (hml : c.maxLocals = 3) (hr : meth.sig.returnType = (some .int)) (hlocks : meth.locks = false) {mc ms kc ks : Nat} (hk : kc ≤ mc ∧ ks ≤ ms) {x0 : Nat} {x1 : Int32} {x2 : Int32}  {S : sT}  (h : wA_X8_plan_b0 mc ms kc ks x0 x1 x2 S  Q) : x_X p l e (rA_X8_plan mc ms) s m args below meth c gg 3 kc ks (MQ below (va_Qi Q (fun S1 t => s_Rep gg S1 t.heap) (s_A gg)) args s mc ms (s_A gg)) 0 [(0, .ref x0), (1, .int x1), (2, .int x2)] [] S := by
  unfold wA_X8_plan_b0 at h
  obtain ⟨hx, hb, -⟩ := id C
  intro H locs ls hR hS hl
  refine lv_aload_n hx hb dX8_plan_0 rfl (lv_at hl 0 rfl) ?_
  refine lv_iconst (v := 0) hx hb dX8_plan_1 (by decide) ?_
  obtain ⟨hK_x0, h⟩ := h
  refine x_p_288 (v := (0 : Int32)) C hR hK_x0 hS q_8_1 dX8_plan_2 (fun H locs hR hS => ?_)
  obtain ⟨S101, eS101⟩ : ∃ z : sT, z = s_sI S 288 x0 (0 : Int32) := ⟨_, rfl⟩
  rw [← eS101] at hR
  replace h := h S101 eS101
  have hK_x0 : s_K S101 x0 = 10 := by rw [eS101]; exact hK_x0
  refine lv_iload_n hx hb dX8_plan_5 rfl (lv_at hl 1 rfl) ?_
  refine x_ki (x_runS (As := [.int x1]) (rest := []) C hml hR hS (m_X8_isKind l gg x1 S101 h) b_X8_isKind q_16_7 rfl rfl ⟨Nat.le_of_ble_eq_true rfl, Nat.le_of_ble_eq_true rfl⟩ rfl hl.1 (Nat.le_of_ble_eq_true rfl) dX8_plan_6 ⟨hk.1, hk.2⟩) hS (fun x103 S102 H locs hn hR hS => ?_)
  replace h := hn
  clear hn
  refine lv_if_eq (tgt := 31) hx hb dX8_plan_9 (by decide) (fun hc104 => ?_) (fun hc104 => ?_)
  · replace h := h.1 hc104
    exact tA_X8_plan_b31 C hml hr hlocks hk  h H locs ls hR hS (lv_sub (l' := [(0, .ref x0)]) hl [0] rfl)
  · replace h := h.2 hc104
    refine lv_iload_n hx hb dX8_plan_12 rfl (lv_at hl 2 rfl) ?_
    refine lv_iconst (v := 1) hx hb dX8_plan_13 (by decide) ?_
    refine lv_bipush (v := 30) hx hb dX8_plan_14 (by decide) ?_
    refine x_ki (x_runS (As := [.int x2, .int (1 : Int32), .int (30 : Int32)]) (rest := []) C hml hR hS (m_X8_is l gg x2 (1 : Int32) (30 : Int32) S102 h) b_X8_is q_8_2 rfl rfl ⟨Nat.le_of_ble_eq_true rfl, Nat.le_of_ble_eq_true rfl⟩ rfl hl.1 (Nat.le_of_ble_eq_true rfl) dX8_plan_16 ⟨hk.1, hk.2⟩) hS (fun x106 S105 H locs hn hR hS => ?_)
    replace h := hn
    clear hn
    refine lv_if_eq (tgt := 31) hx hb dX8_plan_19 (by decide) (fun hc107 => ?_) (fun hc107 => ?_)
    · replace h := h.1 hc107
      exact tA_X8_plan_b31 C hml hr hlocks hk  h H locs ls hR hS (lv_sub (l' := [(0, .ref x0)]) hl [0] rfl)
    · replace h := h.2 hc107
      refine lv_aload_n hx hb dX8_plan_22 rfl (lv_at hl 0 rfl) ?_
      refine lv_iload_n hx hb dX8_plan_23 rfl (lv_at hl 1 rfl) ?_
      refine lv_iload_n hx hb dX8_plan_24 rfl (lv_at hl 2 rfl) ?_
      obtain ⟨hK_x0, h⟩ := h
      obtain ⟨c108, d109, hk1, hk2, h⟩ := h
      refine x_ki (x_runV (As := [.int x1, .int x2]) (rest := []) C hml hR hS (mA_X8_planNow l gg c108 d109 x0 x1 x2 S105 h) b_X8_planNow q_43_6 (by rw [hK_x0]; decide) (s_E_9 hK_x0) rfl rfl rfl rfl ⟨Nat.le_of_ble_eq_true rfl, Nat.le_of_ble_eq_true rfl⟩ rfl hl.1 (Nat.le_of_ble_eq_true rfl) dX8_plan_25 ⟨hk1, hk2⟩) hS (fun x111 S110 H locs hn hR hS => ?_)
      replace h := hn
      clear hn
      have hk : (kc + c108) ≤ mc ∧ (ks + d109) ≤ ms := ⟨hk1, hk2⟩
      refine lv_goto (tgt := 36) hx hb dX8_plan_28 (by decide) ?_
      exact tA_X8_plan_b36 C hml hr hlocks hk  h H locs ls hR hS (lv_sub (l' := []) hl [] rfl)
theorem mA_X8_plan (l : Launch) (gg : sG) (mc ms : Nat) (x0 : Nat) (x1 : Int32) (x2 : Int32) (S : sT) {Q : Int32 → sT → Prop} (h : wA_X8_plan mc ms x0 x1 x2 S Q) : x_Mi l gg yX8_plan (x_ws yX8_plan cX8_plan 3 (some .int)) (rA_X8_plan mc ms) [.ref x0, .int x1, .int x2] S Q mc ms := by
  refine x_ofW (cc := cX8_plan) (own := RX8) (by decide +kernel) rfl (Nat.le_of_ble_eq_true rfl) ?_
  intro p e s m args below meth c C hml hr hlocks hin ht H locs ls hR hS hl
  exact tA_X8_plan_b0 C hml hr hlocks ⟨Nat.zero_le _, Nat.zero_le _⟩ h H locs ls hR hS (lv_sub (l' := [(0, .ref x0), (1, .int x1), (2, .int x2)]) hl [0, 1, 2] rfl)
def wA_X8_addField_b26 (mc ms : Nat)  (Q : sT → Prop) : Nat → Nat → Nat → Nat → Int32 → Int32 → sT → Prop
  | 0 => fun _ _ _ _ _ _ => False
  | n + 1 => fun kc ks x0 x1 x2 S =>
(((4 : Int32) ≤ x2 → s_K S x0 = 10 ∧
    ∃ a102 : Nat, s_R S 289 x0 = some a102 ∧
    s_K S a102 = 9 ∧
    ∃ a103 : Nat, s_R S 257 a102 = some a103 ∧
    s_K S a103 = 13 ∧
    vp_in x1 (s_N S a103) ∧
    ∃ a105 : Nat, s_P S a103 (Int32.toNatClampNeg x1) = some a105 ∧
    s_K S a105 = 11 ∧
    vp_in (20 : Int32) (s_N S a105) ∧
    ∀ x107 : Int32, x107 = s_B S a105 (Int32.toNatClampNeg (20 : Int32)) →
    w_X8_add x0 x107 S (fun S108 =>
    s_K S108 x0 = 10 ∧
    ∃ a109 : Nat, s_R S108 289 x0 = some a109 ∧
    s_K S108 a109 = 9 ∧
    ∃ a110 : Nat, s_R S108 257 a109 = some a110 ∧
    s_K S108 a110 = 13 ∧
    vp_in x1 (s_N S108 a110) ∧
    ∃ a112 : Nat, s_P S108 a110 (Int32.toNatClampNeg x1) = some a112 ∧
    s_K S108 a112 = 11 ∧
    vp_in (21 : Int32) (s_N S108 a112) ∧
    ∀ x114 : Int32, x114 = s_B S108 a112 (Int32.toNatClampNeg (21 : Int32)) →
    w_X8_add x0 x114 S108 (fun S115 =>
    s_K S115 x0 = 10 ∧
    ∃ c116 d117 : Nat, kc + c116 ≤ mc ∧ ks + d117 ≤ ms ∧
    wA_X8_wouldYieldNow c116 d117 x0 x1 (5 : Int32) S115 (fun x119 S118 =>
    s_K S118 x0 = 10 ∧
    w_X8_add x0 x119 S118 (fun S120 =>
    Q S120))))) ∧
    (¬ (4 : Int32) ≤ x2 → s_K S x0 = 10 ∧
    ∃ c121 d122 : Nat, kc + c121 ≤ mc ∧ ks + d122 ≤ ms ∧
    wA_X8_ofOwnerNow c121 d122 x0 x1 x2 S (fun x124 S123 =>
    s_K S123 x0 = 10 ∧
    w_X8_add x0 x124 S123 (fun S125 =>
    ∀ x126 : Int32, x126 = x2 + 1 →
    wA_X8_addField_b26 mc ms  Q n (kc + c121) (ks + d122) x0 x1 x126 S125))))
def wA_X8_addField_b2 (mc ms : Nat)  (Q : sT → Prop) : Nat → Nat → Nat → Nat → Int32 → Int32 → sT → Prop
  | 0 => fun _ _ _ _ _ _ => False
  | n + 1 => fun kc ks x0 x1 x2 S =>
(((14 : Int32) ≤ x2 → ∃ n9 : Nat, wA_X8_addField_b26 mc ms  Q n9 kc ks x0 x1 (0 : Int32) S) ∧
    (¬ (14 : Int32) ≤ x2 → s_K S x0 = 10 ∧
    w_X8_ofFieldNow x0 x1 x2 S (fun x103 S102 =>
    s_K S102 x0 = 10 ∧
    w_X8_add x0 x103 S102 (fun S104 =>
    ∀ x105 : Int32, x105 = x2 + 1 →
    wA_X8_addField_b2 mc ms  Q n kc ks x0 x1 x105 S104))))
def wA_X8_addField_b0 (mc ms kc ks : Nat) (x0 : Nat) (x1 : Int32) (S : sT)  (Q : sT → Prop) : Prop :=
∃ n9 : Nat, wA_X8_addField_b2 mc ms  Q n9 kc ks x0 x1 (0 : Int32) S
def wA_X8_addField (mc ms : Nat) (x0 : Nat) (x1 : Int32) (S : sT) (Q : sT → Prop) : Prop := wA_X8_addField_b0 mc ms 0 0 x0 x1 S Q
def rA_X8_addField (mc ms : Nat) : Room := x_rm 5 143 mc ms
theorem b_X8_addField : x_BV yX8_addField cX8_addField 3 none 1 := ⟨q_45_7, q_45_5, q_45_6, q_1_5, by decide +kernel⟩
set_option maxHeartbeats 4000000 in
theorem tA_X8_addField_b26 {Q : sT → Prop} (C : x_C p s m args c cX8_addField RX8 gg) (hml : c.maxLocals = 3) (hr : meth.sig.returnType = none) (hlocks : meth.locks = false) {mc ms : Nat}   : ∀ (n : Nat) (kc ks : Nat) (x0 : Nat) (x1 : Int32) (x2 : Int32) (S : sT), kc ≤ mc ∧ ks ≤ ms → wA_X8_addField_b26 mc ms  Q n kc ks x0 x1 x2 S → x_X p l e (rA_X8_addField mc ms) s m args below meth c gg 3 kc ks (MQ below (va_Qv Q (fun S1 t => s_Rep gg S1 t.heap) (s_A gg)) args s mc ms (s_A gg)) 26 [(0, .ref x0), (1, .int x1), (2, .int x2)] [] S := by
  obtain ⟨hx, hb, -⟩ := id C
  intro n
  induction n with
  | zero => intro kc ks x0 x1 x2 S hk h; exact absurd h id
  | succ n ih =>
    intro kc ks x0 x1 x2 S hk h H locs ls hR hS hl
    unfold wA_X8_addField_b26 at h
    refine lv_iload_n hx hb dX8_addField_26 rfl (lv_at hl 2 rfl) ?_
    refine lv_iconst (v := 4) hx hb dX8_addField_27 (by decide) ?_
    refine lv_icmp_ge (tgt := 47) hx hb dX8_addField_28 (by decide) (fun hc101 => ?_) (fun hc101 => ?_)
    · replace h := h.1 hc101
      refine lv_aload_n hx hb dX8_addField_47 rfl (lv_at hl 0 rfl) ?_
      refine lv_aload_n hx hb dX8_addField_48 rfl (lv_at hl 0 rfl) ?_
      obtain ⟨hK_x0, h⟩ := h
      refine x_g_289 C hR hK_x0 q_3_8 dX8_addField_49 ?_
      obtain ⟨a102, ea102, h⟩ := h
      refine x_some ea102 ?_
      obtain ⟨hK_a102, h⟩ := h
      refine x_gN_257 C hR hK_a102 (xn_1 C) dX8_addField_52 ?_
      obtain ⟨a103, ea103, h⟩ := h
      refine x_some ea103 ?_
      refine lv_iload_n hx hb dX8_addField_55 rfl (lv_at hl 1 rfl) ?_
      obtain ⟨hK_a103, h⟩ := h
      obtain ⟨hi104, a105, ea105, h⟩ := h
      refine x_aald13 C hR hK_a103 hi104 dX8_addField_56 ?_
      refine x_some ea105 ?_
      refine lv_bipush (v := 20) hx hb dX8_addField_57 (by decide) ?_
      obtain ⟨hK_a105, h⟩ := h
      obtain ⟨hi106, h⟩ := h
      refine x_iald C hR hK_a105 hi106 dX8_addField_59 ?_
      refine lv_topi (fun x107 ex107 => ?_)
      replace h := h x107 ex107
      refine x_kv (x_runV (As := [.int x107]) (rest := []) C hml hR hS (m_X8_add l gg x0 x107 S h) b_X8_add q_44_23 (by rw [hK_x0]; decide) (s_E_9 hK_x0) rfl rfl rfl rfl ⟨Nat.le_of_ble_eq_true rfl, Nat.le_of_ble_eq_true rfl⟩ rfl hl.1 (Nat.le_of_ble_eq_true rfl) dX8_addField_60 ⟨hk.1, hk.2⟩) hS (fun S108 H locs hn hR hS => ?_)
      replace h := hn
      clear hn
      refine lv_aload_n hx hb dX8_addField_63 rfl (lv_at hl 0 rfl) ?_
      refine lv_aload_n hx hb dX8_addField_64 rfl (lv_at hl 0 rfl) ?_
      obtain ⟨hK_x0, h⟩ := h
      refine x_g_289 C hR hK_x0 q_3_8 dX8_addField_65 ?_
      obtain ⟨a109, ea109, h⟩ := h
      refine x_some ea109 ?_
      obtain ⟨hK_a109, h⟩ := h
      refine x_gN_257 C hR hK_a109 (xn_1 C) dX8_addField_68 ?_
      obtain ⟨a110, ea110, h⟩ := h
      refine x_some ea110 ?_
      refine lv_iload_n hx hb dX8_addField_71 rfl (lv_at hl 1 rfl) ?_
      obtain ⟨hK_a110, h⟩ := h
      obtain ⟨hi111, a112, ea112, h⟩ := h
      refine x_aald13 C hR hK_a110 hi111 dX8_addField_72 ?_
      refine x_some ea112 ?_
      refine lv_bipush (v := 21) hx hb dX8_addField_73 (by decide) ?_
      obtain ⟨hK_a112, h⟩ := h
      obtain ⟨hi113, h⟩ := h
      refine x_iald C hR hK_a112 hi113 dX8_addField_75 ?_
      refine lv_topi (fun x114 ex114 => ?_)
      replace h := h x114 ex114
      refine x_kv (x_runV (As := [.int x114]) (rest := []) C hml hR hS (m_X8_add l gg x0 x114 S108 h) b_X8_add q_44_23 (by rw [hK_x0]; decide) (s_E_9 hK_x0) rfl rfl rfl rfl ⟨Nat.le_of_ble_eq_true rfl, Nat.le_of_ble_eq_true rfl⟩ rfl hl.1 (Nat.le_of_ble_eq_true rfl) dX8_addField_76 ⟨hk.1, hk.2⟩) hS (fun S115 H locs hn hR hS => ?_)
      replace h := hn
      clear hn
      refine lv_aload_n hx hb dX8_addField_79 rfl (lv_at hl 0 rfl) ?_
      refine lv_aload_n hx hb dX8_addField_80 rfl (lv_at hl 0 rfl) ?_
      refine lv_iload_n hx hb dX8_addField_81 rfl (lv_at hl 1 rfl) ?_
      refine lv_iconst (v := 5) hx hb dX8_addField_82 (by decide) ?_
      obtain ⟨hK_x0, h⟩ := h
      obtain ⟨c116, d117, hk1, hk2, h⟩ := h
      refine x_ki (x_runV (As := [.int x1, .int (5 : Int32)]) (rest := [.ref x0]) C hml hR hS (mA_X8_wouldYieldNow l gg c116 d117 x0 x1 (5 : Int32) S115 h) b_X8_wouldYieldNow q_40_20 (by rw [hK_x0]; decide) (s_E_9 hK_x0) rfl rfl rfl rfl ⟨Nat.le_of_ble_eq_true rfl, Nat.le_of_ble_eq_true rfl⟩ rfl hl.1 (Nat.le_of_ble_eq_true rfl) dX8_addField_83 ⟨hk1, hk2⟩) hS (fun x119 S118 H locs hn hR hS => ?_)
      replace h := hn
      clear hn
      have hk : (kc + c116) ≤ mc ∧ (ks + d117) ≤ ms := ⟨hk1, hk2⟩
      obtain ⟨hK_x0, h⟩ := h
      refine x_kv (x_runV (As := [.int x119]) (rest := []) C hml hR hS (m_X8_add l gg x0 x119 S118 h) b_X8_add q_44_23 (by rw [hK_x0]; decide) (s_E_9 hK_x0) rfl rfl rfl rfl ⟨Nat.le_of_ble_eq_true rfl, Nat.le_of_ble_eq_true rfl⟩ rfl hl.1 (Nat.le_of_ble_eq_true rfl) dX8_addField_86 ⟨hk.1, hk.2⟩) hS (fun S120 H locs hn hR hS => ?_)
      replace h := hn
      clear hn
      refine W.widen (k := mc) (n := ms) hk.1 hk.2 ?_
      exact W.vret hx hb hr (fun t ht hW => ⟨⟨S120, rfl, h, x_rt ht hR⟩, hS.F ht⟩) hS.2.2 dX8_addField_89
    · replace h := h.2 hc101
      refine lv_aload_n hx hb dX8_addField_31 rfl (lv_at hl 0 rfl) ?_
      refine lv_aload_n hx hb dX8_addField_32 rfl (lv_at hl 0 rfl) ?_
      refine lv_iload_n hx hb dX8_addField_33 rfl (lv_at hl 1 rfl) ?_
      refine lv_iload_n hx hb dX8_addField_34 rfl (lv_at hl 2 rfl) ?_
      obtain ⟨hK_x0, h⟩ := h
      obtain ⟨c121, d122, hk1, hk2, h⟩ := h
      refine x_ki (x_runV (As := [.int x1, .int x2]) (rest := [.ref x0]) C hml hR hS (mA_X8_ofOwnerNow l gg c121 d122 x0 x1 x2 S h) b_X8_ofOwnerNow q_32_15 (by rw [hK_x0]; decide) (s_E_9 hK_x0) rfl rfl rfl rfl ⟨Nat.le_of_ble_eq_true rfl, Nat.le_of_ble_eq_true rfl⟩ rfl hl.1 (Nat.le_of_ble_eq_true rfl) dX8_addField_35 ⟨hk1, hk2⟩) hS (fun x124 S123 H locs hn hR hS => ?_)
      replace h := hn
      clear hn
      have hk : (kc + c121) ≤ mc ∧ (ks + d122) ≤ ms := ⟨hk1, hk2⟩
      obtain ⟨hK_x0, h⟩ := h
      refine x_kv (x_runV (As := [.int x124]) (rest := []) C hml hR hS (m_X8_add l gg x0 x124 S123 h) b_X8_add q_44_23 (by rw [hK_x0]; decide) (s_E_9 hK_x0) rfl rfl rfl rfl ⟨Nat.le_of_ble_eq_true rfl, Nat.le_of_ble_eq_true rfl⟩ rfl hl.1 (Nat.le_of_ble_eq_true rfl) dX8_addField_38 ⟨hk.1, hk.2⟩) hS (fun S125 H locs hn hR hS => ?_)
      replace h := hn
      clear hn
      obtain ⟨x126, ex126⟩ : ∃ z : Int32, z = x2 + 1 := ⟨_, rfl⟩
      replace h := h x126 ex126
      refine lv_iinc (v := x126) (lv' := [(2, .int x126), (0, .ref x0), (1, .int x1)]) hx hb dX8_addField_41 hl (k := 2) rfl (by rw [ex126]; rfl) (by decide) rfl (fun ls hl => ?_)
      refine lv_goto (tgt := 26) hx hb dX8_addField_44 (by decide) ?_
      exact ih (kc + c121) (ks + d122) x0 x1 x126 S125 hk h H locs ls hR hS (lv_sub (l' := [(0, .ref x0), (1, .int x1), (2, .int x126)]) hl [1, 2, 0] rfl)
set_option maxHeartbeats 4000000 in
theorem tA_X8_addField_b2 {Q : sT → Prop} (C : x_C p s m args c cX8_addField RX8 gg) (hml : c.maxLocals = 3) (hr : meth.sig.returnType = none) (hlocks : meth.locks = false) {mc ms : Nat}   : ∀ (n : Nat) (kc ks : Nat) (x0 : Nat) (x1 : Int32) (x2 : Int32) (S : sT), kc ≤ mc ∧ ks ≤ ms → wA_X8_addField_b2 mc ms  Q n kc ks x0 x1 x2 S → x_X p l e (rA_X8_addField mc ms) s m args below meth c gg 3 kc ks (MQ below (va_Qv Q (fun S1 t => s_Rep gg S1 t.heap) (s_A gg)) args s mc ms (s_A gg)) 2 [(0, .ref x0), (1, .int x1), (2, .int x2)] [] S := by
  obtain ⟨hx, hb, -⟩ := id C
  intro n
  induction n with
  | zero => intro kc ks x0 x1 x2 S hk h; exact absurd h id
  | succ n ih =>
    intro kc ks x0 x1 x2 S hk h H locs ls hR hS hl
    unfold wA_X8_addField_b2 at h
    refine lv_iload_n hx hb dX8_addField_2 rfl (lv_at hl 2 rfl) ?_
    refine lv_bipush (v := 14) hx hb dX8_addField_3 (by decide) ?_
    refine lv_icmp_ge (tgt := 24) hx hb dX8_addField_5 (by decide) (fun hc101 => ?_) (fun hc101 => ?_)
    · replace h := h.1 hc101
      refine lv_iconst (v := 0) hx hb dX8_addField_24 (by decide) ?_
      refine lv_istore_n (lv' := [(2, .int (0 : Int32)), (0, .ref x0), (1, .int x1)]) hx hb dX8_addField_25 rfl hl (by decide) rfl (fun ls hl => ?_)
      obtain ⟨n9, h⟩ := h
      exact tA_X8_addField_b26 C hml hr hlocks  n9 kc ks x0 x1 (0 : Int32) S hk h H locs ls hR hS (lv_sub (l' := [(0, .ref x0), (1, .int x1), (2, .int (0 : Int32))]) hl [1, 2, 0] rfl)
    · replace h := h.2 hc101
      refine lv_aload_n hx hb dX8_addField_8 rfl (lv_at hl 0 rfl) ?_
      refine lv_aload_n hx hb dX8_addField_9 rfl (lv_at hl 0 rfl) ?_
      refine lv_iload_n hx hb dX8_addField_10 rfl (lv_at hl 1 rfl) ?_
      refine lv_iload_n hx hb dX8_addField_11 rfl (lv_at hl 2 rfl) ?_
      obtain ⟨hK_x0, h⟩ := h
      refine x_ki (x_runV (As := [.int x1, .int x2]) (rest := [.ref x0]) C hml hR hS (m_X8_ofFieldNow l gg x0 x1 x2 S h) b_X8_ofFieldNow q_31_20 (by rw [hK_x0]; decide) (s_E_9 hK_x0) rfl rfl rfl rfl ⟨Nat.le_of_ble_eq_true rfl, Nat.le_of_ble_eq_true rfl⟩ rfl hl.1 (Nat.le_of_ble_eq_true rfl) dX8_addField_12 ⟨hk.1, hk.2⟩) hS (fun x103 S102 H locs hn hR hS => ?_)
      replace h := hn
      clear hn
      obtain ⟨hK_x0, h⟩ := h
      refine x_kv (x_runV (As := [.int x103]) (rest := []) C hml hR hS (m_X8_add l gg x0 x103 S102 h) b_X8_add q_44_23 (by rw [hK_x0]; decide) (s_E_9 hK_x0) rfl rfl rfl rfl ⟨Nat.le_of_ble_eq_true rfl, Nat.le_of_ble_eq_true rfl⟩ rfl hl.1 (Nat.le_of_ble_eq_true rfl) dX8_addField_15 ⟨hk.1, hk.2⟩) hS (fun S104 H locs hn hR hS => ?_)
      replace h := hn
      clear hn
      obtain ⟨x105, ex105⟩ : ∃ z : Int32, z = x2 + 1 := ⟨_, rfl⟩
      replace h := h x105 ex105
      refine lv_iinc (v := x105) (lv' := [(2, .int x105), (0, .ref x0), (1, .int x1)]) hx hb dX8_addField_18 hl (k := 2) rfl (by rw [ex105]; rfl) (by decide) rfl (fun ls hl => ?_)
      refine lv_goto (tgt := 2) hx hb dX8_addField_21 (by decide) ?_
      exact ih kc ks x0 x1 x105 S104 hk h H locs ls hR hS (lv_sub (l' := [(0, .ref x0), (1, .int x1), (2, .int x105)]) hl [1, 2, 0] rfl)
set_option maxHeartbeats 4000000 in
theorem tA_X8_addField_b0 {Q : sT → Prop} (C : x_C p s m args c cX8_addField RX8 gg) (hml : c.maxLocals = 3) (hr : meth.sig.returnType = none) (hlocks : meth.locks = false) {mc ms kc ks : Nat} (hk : kc ≤ mc ∧ ks ≤ ms) {x0 : Nat} {x1 : Int32}  {S : sT}  (h : wA_X8_addField_b0 mc ms kc ks x0 x1 S  Q) : x_X p l e (rA_X8_addField mc ms) s m args below meth c gg 3 kc ks (MQ below (va_Qv Q (fun S1 t => s_Rep gg S1 t.heap) (s_A gg)) args s mc ms (s_A gg)) 0 [(0, .ref x0), (1, .int x1)] [] S := by
  unfold wA_X8_addField_b0 at h
  obtain ⟨hx, hb, -⟩ := id C
  intro H locs ls hR hS hl
  refine lv_iconst (v := 0) hx hb dX8_addField_0 (by decide) ?_
  refine lv_istore_n (lv' := [(2, .int (0 : Int32)), (0, .ref x0), (1, .int x1)]) hx hb dX8_addField_1 rfl hl (by decide) rfl (fun ls hl => ?_)
  obtain ⟨n9, h⟩ := h
  exact tA_X8_addField_b2 C hml hr hlocks  n9 kc ks x0 x1 (0 : Int32) S hk h H locs ls hR hS (lv_sub (l' := [(0, .ref x0), (1, .int x1), (2, .int (0 : Int32))]) hl [1, 2, 0] rfl)
theorem mA_X8_addField (l : Launch) (gg : sG) (mc ms : Nat) (x0 : Nat) (x1 : Int32) (S : sT) {Q : sT → Prop} (h : wA_X8_addField mc ms x0 x1 S Q) : x_Mv l gg yX8_addField (x_ws yX8_addField cX8_addField 3 none) (rA_X8_addField mc ms) [.ref x0, .int x1] S Q mc ms := by
  refine x_ofW (cc := cX8_addField) (own := RX8) (by decide +kernel) rfl (Nat.le_of_ble_eq_true rfl) ?_
  intro p e s m args below meth c C hml hr hlocks hin ht H locs ls hR hS hl
  exact tA_X8_addField_b0 C hml hr hlocks ⟨Nat.zero_le _, Nat.zero_le _⟩ h H locs ls hR hS (lv_sub (l' := [(0, .ref x0), (1, .int x1)]) hl [0, 1] rfl)
def wA_X8_digest_b90 (mc ms : Nat) (kk76 : Nat → Nat → Nat → Int32 → sT → Prop) (Q : Int64 → sT → Prop) : Nat → Nat → Nat → Nat → Int32 → Int32 → sT → Prop
  | 0 => fun _ _ _ _ _ _ => False
  | n + 1 => fun kc ks x0 x1 x2 S =>
(((9 : Int32) ≤ x2 → s_K S x0 = 10 ∧
    w_X8_suspectNow x0 x1 S (fun x103 S102 =>
    s_K S102 x0 = 10 ∧
    w_X8_add x0 x103 S102 (fun S104 =>
    ∀ x105 : Int32, x105 = x1 + 1 →
    kk76 kc ks x0 x105 S104))) ∧
    (¬ (9 : Int32) ≤ x2 → s_K S x0 = 10 ∧
    ∃ c106 d107 : Nat, kc + c106 ≤ mc ∧ ks + d107 ≤ ms ∧
    wA_X8_ofSocietyNow c106 d107 x0 x1 x2 S (fun x109 S108 =>
    s_K S108 x0 = 10 ∧
    w_X8_add x0 x109 S108 (fun S110 =>
    ∀ x111 : Int32, x111 = x2 + 1 →
    wA_X8_digest_b90 mc ms kk76 Q n (kc + c106) (ks + d107) x0 x1 x111 S110))))
def wA_X8_digest_b129 (mc ms : Nat)  (Q : Int64 → sT → Prop) : Nat → Nat → Nat → Nat → Int32 → sT → Prop
  | 0 => fun _ _ _ _ _ => False
  | n + 1 => fun kc ks x0 x1 S =>
s_K S x0 = 10 ∧
    ∃ a101 : Nat, s_R S 289 x0 = some a101 ∧
    s_K S a101 = 9 ∧
    ∃ a102 : Nat, s_R S 257 a101 = some a102 ∧
    s_K S a102 = 13 ∧
    ∀ x103 : Int32, x103 = nI (s_N S a102) →
    ((x103 ≤ x1 → ∃ c105 d106 : Nat, kc + c105 ≤ mc ∧ ks + d106 ≤ ms ∧
    wA_X8_ripeInNow c105 d106 x0 (10 : Int32) S (fun x108 S107 =>
    s_K S107 x0 = 10 ∧
    w_X8_add x0 x108 S107 (fun S109 =>
    s_K S109 x0 = 10 ∧
    ∃ c110 d111 : Nat, (kc + c105) + c110 ≤ mc ∧ (ks + d106) + d111 ≤ ms ∧
    wA_X8_planNow c110 d111 x0 (0 : Int32) (12 : Int32) S109 (fun x113 S112 =>
    s_K S112 x0 = 10 ∧
    w_X8_add x0 x113 S112 (fun S114 =>
    s_K S114 x0 = 10 ∧
    ∀ j115 : Int64, j115 = s_J S114 x0 →
    Q j115 S114))))) ∧
    (¬ x103 ≤ x1 → ∃ c116 d117 : Nat, kc + c116 ≤ mc ∧ ks + d117 ≤ ms ∧
    wA_X8_addField c116 d117 x0 x1 S (fun S118 =>
    ∀ x119 : Int32, x119 = x1 + 1 →
    wA_X8_digest_b129 mc ms  Q n (kc + c116) (ks + d117) x0 x119 S118)))
def wA_X8_digest_b76 (mc ms : Nat)  (Q : Int64 → sT → Prop) : Nat → Nat → Nat → Nat → Int32 → sT → Prop
  | 0 => fun _ _ _ _ _ => False
  | n + 1 => fun kc ks x0 x1 S =>
s_K S x0 = 10 ∧
    ∃ a101 : Nat, s_R S 289 x0 = some a101 ∧
    s_K S a101 = 9 ∧
    ∃ a102 : Nat, s_R S 256 a101 = some a102 ∧
    s_K S a102 = 13 ∧
    ∀ x103 : Int32, x103 = nI (s_N S a102) →
    ((x103 ≤ x1 → ∃ n9 : Nat, wA_X8_digest_b129 mc ms  Q n9 kc ks x0 (0 : Int32) S) ∧
    (¬ x103 ≤ x1 → ∃ n9 : Nat, wA_X8_digest_b90 mc ms (fun kc ks x0 x1 S => wA_X8_digest_b76 mc ms  Q n kc ks x0 x1 S) Q n9 kc ks x0 x1 (0 : Int32) S))
def wA_X8_digest_b71 (mc ms kc ks : Nat) (x0 : Nat) (y0 : Int32) (y1 : Nat) (S : sT)  (Q : Int64 → sT → Prop) : Prop :=
s_K S y1 = 10 ∧
    w_X8_add y1 y0 S (fun S101 =>
    ∃ n9 : Nat, wA_X8_digest_b76 mc ms  Q n9 kc ks x0 (0 : Int32) S101)
def wA_X8_digest_b37 (mc ms : Nat)  (Q : Int64 → sT → Prop) : Nat → Nat → Nat → Nat → Int32 → sT → Prop
  | 0 => fun _ _ _ _ _ => False
  | n + 1 => fun kc ks x0 x1 S =>
(((7 : Int32) ≤ x1 → s_K S x0 = 10 ∧
    ∃ c102 d103 : Nat, kc + c102 ≤ mc ∧ ks + d103 ≤ ms ∧
    wA_X8_isClosedNow c102 d103 x0 S (fun x105 S104 =>
    ((x105 = 0 → wA_X8_digest_b71 mc ms (kc + c102) (ks + d103) x0 (0 : Int32) x0 S104  Q) ∧
    (¬ x105 = 0 → wA_X8_digest_b71 mc ms (kc + c102) (ks + d103) x0 (1 : Int32) x0 S104  Q)))) ∧
    (¬ (7 : Int32) ≤ x1 → s_K S x0 = 10 ∧
    ∃ c107 d108 : Nat, kc + c107 ≤ mc ∧ ks + d108 ≤ ms ∧
    wA_X8_waterNow c107 d108 x0 x1 S (fun x110 S109 =>
    s_K S109 x0 = 10 ∧
    w_X8_add x0 x110 S109 (fun S111 =>
    ∀ x112 : Int32, x112 = x1 + 1 →
    wA_X8_digest_b37 mc ms  Q n (kc + c107) (ks + d108) x0 x112 S111))))
def wA_X8_digest_b14 (mc ms : Nat)  (Q : Int64 → sT → Prop) : Nat → Nat → Nat → Nat → Int32 → sT → Prop
  | 0 => fun _ _ _ _ _ => False
  | n + 1 => fun kc ks x0 x1 S =>
(((12 : Int32) ≤ x1 → ∃ n9 : Nat, wA_X8_digest_b37 mc ms  Q n9 kc ks x0 (0 : Int32) S) ∧
    (¬ (12 : Int32) ≤ x1 → s_K S x0 = 10 ∧
    ∃ c102 d103 : Nat, kc + c102 ≤ mc ∧ ks + d103 ≤ ms ∧
    wA_X8_manyNow c102 d103 x0 x1 S (fun x105 S104 =>
    s_K S104 x0 = 10 ∧
    w_X8_add x0 x105 S104 (fun S106 =>
    ∀ x107 : Int32, x107 = x1 + 1 →
    wA_X8_digest_b14 mc ms  Q n (kc + c102) (ks + d103) x0 x107 S106))))
def wA_X8_digest_b0 (mc ms kc ks : Nat) (x0 : Nat) (S : sT)  (Q : Int64 → sT → Prop) : Prop :=
s_K S x0 = 10 ∧
    ∀ S101 : sT, S101 = s_sI S 288 x0 (0 : Int32) →
    ∀ S102 : sT, S102 = s_sJ S101 x0 (58173 : Int64) →
    ∃ n9 : Nat, wA_X8_digest_b14 mc ms  Q n9 kc ks x0 (0 : Int32) S102
def wA_X8_digest (mc ms : Nat) (x0 : Nat) (S : sT) (Q : Int64 → sT → Prop) : Prop := wA_X8_digest_b0 mc ms 0 0 x0 S Q
def rA_X8_digest (mc ms : Nat) : Room := x_rm 6 175 mc ms
theorem b_X8_digest : x_BV yX8_digest cX8_digest 3 (some .long) 0 := ⟨q_44_20, q_44_18, q_44_19, q_1_5, by decide +kernel⟩
set_option maxHeartbeats 4000000 in
theorem tA_X8_digest_b90 {Q : Int64 → sT → Prop} (C : x_C p s m args c cX8_digest RX8 gg) (hml : c.maxLocals = 3) (hr : meth.sig.returnType = (some .long)) (hlocks : meth.locks = false) {mc ms : Nat} {kk76 : Nat → Nat → Nat → Int32 → sT → Prop} (hk76 : ∀ (kc ks : Nat) (x0 : Nat) (x1 : Int32) (S : sT), kc ≤ mc ∧ ks ≤ ms → kk76 kc ks x0 x1 S → x_X p l e (rA_X8_digest mc ms) s m args below meth c gg 3 kc ks (MQ below (va_Ql Q (fun S1 t => s_Rep gg S1 t.heap) (s_A gg)) args s mc ms (s_A gg)) 76 [(0, .ref x0), (1, .int x1)] [] S) : ∀ (n : Nat) (kc ks : Nat) (x0 : Nat) (x1 : Int32) (x2 : Int32) (S : sT), kc ≤ mc ∧ ks ≤ ms → wA_X8_digest_b90 mc ms kk76 Q n kc ks x0 x1 x2 S → x_X p l e (rA_X8_digest mc ms) s m args below meth c gg 3 kc ks (MQ below (va_Ql Q (fun S1 t => s_Rep gg S1 t.heap) (s_A gg)) args s mc ms (s_A gg)) 90 [(0, .ref x0), (1, .int x1), (2, .int x2)] [] S := by
  obtain ⟨hx, hb, -⟩ := id C
  intro n
  induction n with
  | zero => intro kc ks x0 x1 x2 S hk h; exact absurd h id
  | succ n ih =>
    intro kc ks x0 x1 x2 S hk h H locs ls hR hS hl
    unfold wA_X8_digest_b90 at h
    refine lv_iload_n hx hb dX8_digest_90 rfl (lv_at hl 2 rfl) ?_
    refine lv_bipush (v := 9) hx hb dX8_digest_91 (by decide) ?_
    refine lv_icmp_ge (tgt := 112) hx hb dX8_digest_93 (by decide) (fun hc101 => ?_) (fun hc101 => ?_)
    · replace h := h.1 hc101
      refine lv_aload_n hx hb dX8_digest_112 rfl (lv_at hl 0 rfl) ?_
      refine lv_aload_n hx hb dX8_digest_113 rfl (lv_at hl 0 rfl) ?_
      refine lv_iload_n hx hb dX8_digest_114 rfl (lv_at hl 1 rfl) ?_
      obtain ⟨hK_x0, h⟩ := h
      refine x_ki (x_runV (As := [.int x1]) (rest := [.ref x0]) C hml hR hS (m_X8_suspectNow l gg x0 x1 S h) b_X8_suspectNow q_38_19 (by rw [hK_x0]; decide) (s_E_9 hK_x0) rfl rfl rfl rfl ⟨Nat.le_of_ble_eq_true rfl, Nat.le_of_ble_eq_true rfl⟩ rfl hl.1 (Nat.le_of_ble_eq_true rfl) dX8_digest_115 ⟨hk.1, hk.2⟩) hS (fun x103 S102 H locs hn hR hS => ?_)
      replace h := hn
      clear hn
      obtain ⟨hK_x0, h⟩ := h
      refine x_kv (x_runV (As := [.int x103]) (rest := []) C hml hR hS (m_X8_add l gg x0 x103 S102 h) b_X8_add q_44_23 (by rw [hK_x0]; decide) (s_E_9 hK_x0) rfl rfl rfl rfl ⟨Nat.le_of_ble_eq_true rfl, Nat.le_of_ble_eq_true rfl⟩ rfl hl.1 (Nat.le_of_ble_eq_true rfl) dX8_digest_118 ⟨hk.1, hk.2⟩) hS (fun S104 H locs hn hR hS => ?_)
      replace h := hn
      clear hn
      obtain ⟨x105, ex105⟩ : ∃ z : Int32, z = x1 + 1 := ⟨_, rfl⟩
      replace h := h x105 ex105
      refine lv_iinc (v := x105) (lv' := [(1, .int x105), (0, .ref x0), (2, .int x2)]) hx hb dX8_digest_121 hl (k := 1) rfl (by rw [ex105]; rfl) (by decide) rfl (fun ls hl => ?_)
      refine lv_goto (tgt := 76) hx hb dX8_digest_124 (by decide) ?_
      exact hk76 kc ks x0 x105 S104 hk h H locs ls hR hS (lv_sub (l' := [(0, .ref x0), (1, .int x105)]) hl [1, 0] rfl)
    · replace h := h.2 hc101
      refine lv_aload_n hx hb dX8_digest_96 rfl (lv_at hl 0 rfl) ?_
      refine lv_aload_n hx hb dX8_digest_97 rfl (lv_at hl 0 rfl) ?_
      refine lv_iload_n hx hb dX8_digest_98 rfl (lv_at hl 1 rfl) ?_
      refine lv_iload_n hx hb dX8_digest_99 rfl (lv_at hl 2 rfl) ?_
      obtain ⟨hK_x0, h⟩ := h
      obtain ⟨c106, d107, hk1, hk2, h⟩ := h
      refine x_ki (x_runV (As := [.int x1, .int x2]) (rest := [.ref x0]) C hml hR hS (mA_X8_ofSocietyNow l gg c106 d107 x0 x1 x2 S h) b_X8_ofSocietyNow q_33_14 (by rw [hK_x0]; decide) (s_E_9 hK_x0) rfl rfl rfl rfl ⟨Nat.le_of_ble_eq_true rfl, Nat.le_of_ble_eq_true rfl⟩ rfl hl.1 (Nat.le_of_ble_eq_true rfl) dX8_digest_100 ⟨hk1, hk2⟩) hS (fun x109 S108 H locs hn hR hS => ?_)
      replace h := hn
      clear hn
      have hk : (kc + c106) ≤ mc ∧ (ks + d107) ≤ ms := ⟨hk1, hk2⟩
      obtain ⟨hK_x0, h⟩ := h
      refine x_kv (x_runV (As := [.int x109]) (rest := []) C hml hR hS (m_X8_add l gg x0 x109 S108 h) b_X8_add q_44_23 (by rw [hK_x0]; decide) (s_E_9 hK_x0) rfl rfl rfl rfl ⟨Nat.le_of_ble_eq_true rfl, Nat.le_of_ble_eq_true rfl⟩ rfl hl.1 (Nat.le_of_ble_eq_true rfl) dX8_digest_103 ⟨hk.1, hk.2⟩) hS (fun S110 H locs hn hR hS => ?_)
      replace h := hn
      clear hn
      obtain ⟨x111, ex111⟩ : ∃ z : Int32, z = x2 + 1 := ⟨_, rfl⟩
      replace h := h x111 ex111
      refine lv_iinc (v := x111) (lv' := [(2, .int x111), (0, .ref x0), (1, .int x1)]) hx hb dX8_digest_106 hl (k := 2) rfl (by rw [ex111]; rfl) (by decide) rfl (fun ls hl => ?_)
      refine lv_goto (tgt := 90) hx hb dX8_digest_109 (by decide) ?_
      exact ih (kc + c106) (ks + d107) x0 x1 x111 S110 hk h H locs ls hR hS (lv_sub (l' := [(0, .ref x0), (1, .int x1), (2, .int x111)]) hl [1, 2, 0] rfl)
set_option maxHeartbeats 4000000 in
theorem tA_X8_digest_b129 {Q : Int64 → sT → Prop} (C : x_C p s m args c cX8_digest RX8 gg) (hml : c.maxLocals = 3) (hr : meth.sig.returnType = (some .long)) (hlocks : meth.locks = false) {mc ms : Nat}   : ∀ (n : Nat) (kc ks : Nat) (x0 : Nat) (x1 : Int32) (S : sT), kc ≤ mc ∧ ks ≤ ms → wA_X8_digest_b129 mc ms  Q n kc ks x0 x1 S → x_X p l e (rA_X8_digest mc ms) s m args below meth c gg 3 kc ks (MQ below (va_Ql Q (fun S1 t => s_Rep gg S1 t.heap) (s_A gg)) args s mc ms (s_A gg)) 129 [(0, .ref x0), (1, .int x1)] [] S := by
  obtain ⟨hx, hb, -⟩ := id C
  intro n
  induction n with
  | zero => intro kc ks x0 x1 S hk h; exact absurd h id
  | succ n ih =>
    intro kc ks x0 x1 S hk h H locs ls hR hS hl
    unfold wA_X8_digest_b129 at h
    refine lv_iload_n hx hb dX8_digest_129 rfl (lv_at hl 1 rfl) ?_
    refine lv_aload_n hx hb dX8_digest_130 rfl (lv_at hl 0 rfl) ?_
    obtain ⟨hK_x0, h⟩ := h
    refine x_g_289 C hR hK_x0 q_3_8 dX8_digest_131 ?_
    obtain ⟨a101, ea101, h⟩ := h
    refine x_some ea101 ?_
    obtain ⟨hK_a101, h⟩ := h
    refine x_gN_257 C hR hK_a101 (xn_1 C) dX8_digest_134 ?_
    obtain ⟨a102, ea102, h⟩ := h
    refine x_some ea102 ?_
    obtain ⟨hK_a102, h⟩ := h
    refine x_alen13 C hR hK_a102 dX8_digest_137 ?_
    refine lv_topi (fun x103 ex103 => ?_)
    replace h := h x103 ex103
    refine lv_icmp_ge (tgt := 152) hx hb dX8_digest_138 (by decide) (fun hc104 => ?_) (fun hc104 => ?_)
    · replace h := h.1 hc104
      refine lv_aload_n hx hb dX8_digest_152 rfl (lv_at hl 0 rfl) ?_
      refine lv_aload_n hx hb dX8_digest_153 rfl (lv_at hl 0 rfl) ?_
      refine lv_bipush (v := 10) hx hb dX8_digest_154 (by decide) ?_
      obtain ⟨c105, d106, hk1, hk2, h⟩ := h
      refine x_ki (x_runV (As := [.int (10 : Int32)]) (rest := [.ref x0]) C hml hR hS (mA_X8_ripeInNow l gg c105 d106 x0 (10 : Int32) S h) b_X8_ripeInNow q_41_15 (by rw [hK_x0]; decide) (s_E_9 hK_x0) rfl rfl rfl rfl ⟨Nat.le_of_ble_eq_true rfl, Nat.le_of_ble_eq_true rfl⟩ rfl hl.1 (Nat.le_of_ble_eq_true rfl) dX8_digest_156 ⟨hk1, hk2⟩) hS (fun x108 S107 H locs hn hR hS => ?_)
      replace h := hn
      clear hn
      have hk : (kc + c105) ≤ mc ∧ (ks + d106) ≤ ms := ⟨hk1, hk2⟩
      obtain ⟨hK_x0, h⟩ := h
      refine x_kv (x_runV (As := [.int x108]) (rest := []) C hml hR hS (m_X8_add l gg x0 x108 S107 h) b_X8_add q_44_23 (by rw [hK_x0]; decide) (s_E_9 hK_x0) rfl rfl rfl rfl ⟨Nat.le_of_ble_eq_true rfl, Nat.le_of_ble_eq_true rfl⟩ rfl hl.1 (Nat.le_of_ble_eq_true rfl) dX8_digest_159 ⟨hk.1, hk.2⟩) hS (fun S109 H locs hn hR hS => ?_)
      replace h := hn
      clear hn
      refine lv_aload_n hx hb dX8_digest_162 rfl (lv_at hl 0 rfl) ?_
      refine lv_aload_n hx hb dX8_digest_163 rfl (lv_at hl 0 rfl) ?_
      refine lv_iconst (v := 0) hx hb dX8_digest_164 (by decide) ?_
      refine lv_bipush (v := 12) hx hb dX8_digest_165 (by decide) ?_
      obtain ⟨hK_x0, h⟩ := h
      obtain ⟨c110, d111, hk1, hk2, h⟩ := h
      refine x_ki (x_runV (As := [.int (0 : Int32), .int (12 : Int32)]) (rest := [.ref x0]) C hml hR hS (mA_X8_planNow l gg c110 d111 x0 (0 : Int32) (12 : Int32) S109 h) b_X8_planNow q_43_6 (by rw [hK_x0]; decide) (s_E_9 hK_x0) rfl rfl rfl rfl ⟨Nat.le_of_ble_eq_true rfl, Nat.le_of_ble_eq_true rfl⟩ rfl hl.1 (Nat.le_of_ble_eq_true rfl) dX8_digest_167 ⟨hk1, hk2⟩) hS (fun x113 S112 H locs hn hR hS => ?_)
      replace h := hn
      clear hn
      have hk : ((kc + c105) + c110) ≤ mc ∧ ((ks + d106) + d111) ≤ ms := ⟨hk1, hk2⟩
      obtain ⟨hK_x0, h⟩ := h
      refine x_kv (x_runV (As := [.int x113]) (rest := []) C hml hR hS (m_X8_add l gg x0 x113 S112 h) b_X8_add q_44_23 (by rw [hK_x0]; decide) (s_E_9 hK_x0) rfl rfl rfl rfl ⟨Nat.le_of_ble_eq_true rfl, Nat.le_of_ble_eq_true rfl⟩ rfl hl.1 (Nat.le_of_ble_eq_true rfl) dX8_digest_170 ⟨hk.1, hk.2⟩) hS (fun S114 H locs hn hR hS => ?_)
      replace h := hn
      clear hn
      refine lv_aload_n hx hb dX8_digest_173 rfl (lv_at hl 0 rfl) ?_
      obtain ⟨hK_x0, h⟩ := h
      refine x_g_290 C hR hK_x0 q_44_22 dX8_digest_174 ?_
      refine lv_topl (fun j115 ej115 => ?_)
      replace h := h j115 ej115
      refine W.widen (k := mc) (n := ms) hk.1 hk.2 ?_
      exact W.lret (v := j115) hx hb hr (fun t ht hW => ⟨⟨j115, S114, rfl, h, x_rt ht hR⟩, hS.F ht⟩) hS.2.2 dX8_digest_177
    · replace h := h.2 hc104
      refine lv_aload_n hx hb dX8_digest_141 rfl (lv_at hl 0 rfl) ?_
      refine lv_iload_n hx hb dX8_digest_142 rfl (lv_at hl 1 rfl) ?_
      obtain ⟨c116, d117, hk1, hk2, h⟩ := h
      refine x_kv (x_runV (As := [.int x1]) (rest := []) C hml hR hS (mA_X8_addField l gg c116 d117 x0 x1 S h) b_X8_addField q_45_4 (by rw [hK_x0]; decide) (s_E_9 hK_x0) rfl rfl rfl rfl ⟨Nat.le_of_ble_eq_true rfl, Nat.le_of_ble_eq_true rfl⟩ rfl hl.1 (Nat.le_of_ble_eq_true rfl) dX8_digest_143 ⟨hk1, hk2⟩) hS (fun S118 H locs hn hR hS => ?_)
      replace h := hn
      clear hn
      have hk : (kc + c116) ≤ mc ∧ (ks + d117) ≤ ms := ⟨hk1, hk2⟩
      obtain ⟨x119, ex119⟩ : ∃ z : Int32, z = x1 + 1 := ⟨_, rfl⟩
      replace h := h x119 ex119
      refine lv_iinc (v := x119) (lv' := [(1, .int x119), (0, .ref x0)]) hx hb dX8_digest_146 hl (k := 1) rfl (by rw [ex119]; rfl) (by decide) rfl (fun ls hl => ?_)
      refine lv_goto (tgt := 129) hx hb dX8_digest_149 (by decide) ?_
      exact ih (kc + c116) (ks + d117) x0 x119 S118 hk h H locs ls hR hS (lv_sub (l' := [(0, .ref x0), (1, .int x119)]) hl [1, 0] rfl)
set_option maxHeartbeats 4000000 in
theorem tA_X8_digest_b76 {Q : Int64 → sT → Prop} (C : x_C p s m args c cX8_digest RX8 gg) (hml : c.maxLocals = 3) (hr : meth.sig.returnType = (some .long)) (hlocks : meth.locks = false) {mc ms : Nat}   : ∀ (n : Nat) (kc ks : Nat) (x0 : Nat) (x1 : Int32) (S : sT), kc ≤ mc ∧ ks ≤ ms → wA_X8_digest_b76 mc ms  Q n kc ks x0 x1 S → x_X p l e (rA_X8_digest mc ms) s m args below meth c gg 3 kc ks (MQ below (va_Ql Q (fun S1 t => s_Rep gg S1 t.heap) (s_A gg)) args s mc ms (s_A gg)) 76 [(0, .ref x0), (1, .int x1)] [] S := by
  obtain ⟨hx, hb, -⟩ := id C
  intro n
  induction n with
  | zero => intro kc ks x0 x1 S hk h; exact absurd h id
  | succ n ih =>
    intro kc ks x0 x1 S hk h H locs ls hR hS hl
    unfold wA_X8_digest_b76 at h
    refine lv_iload_n hx hb dX8_digest_76 rfl (lv_at hl 1 rfl) ?_
    refine lv_aload_n hx hb dX8_digest_77 rfl (lv_at hl 0 rfl) ?_
    obtain ⟨hK_x0, h⟩ := h
    refine x_g_289 C hR hK_x0 q_3_8 dX8_digest_78 ?_
    obtain ⟨a101, ea101, h⟩ := h
    refine x_some ea101 ?_
    obtain ⟨hK_a101, h⟩ := h
    refine x_gN_256 C hR hK_a101 (xn_2 C) dX8_digest_81 ?_
    obtain ⟨a102, ea102, h⟩ := h
    refine x_some ea102 ?_
    obtain ⟨hK_a102, h⟩ := h
    refine x_alen13 C hR hK_a102 dX8_digest_84 ?_
    refine lv_topi (fun x103 ex103 => ?_)
    replace h := h x103 ex103
    refine lv_icmp_ge (tgt := 127) hx hb dX8_digest_85 (by decide) (fun hc104 => ?_) (fun hc104 => ?_)
    · replace h := h.1 hc104
      refine lv_iconst (v := 0) hx hb dX8_digest_127 (by decide) ?_
      refine lv_istore_n (lv' := [(1, .int (0 : Int32)), (0, .ref x0)]) hx hb dX8_digest_128 rfl hl (by decide) rfl (fun ls hl => ?_)
      obtain ⟨n9, h⟩ := h
      exact tA_X8_digest_b129 C hml hr hlocks  n9 kc ks x0 (0 : Int32) S hk h H locs ls hR hS (lv_sub (l' := [(0, .ref x0), (1, .int (0 : Int32))]) hl [1, 0] rfl)
    · replace h := h.2 hc104
      refine lv_iconst (v := 0) hx hb dX8_digest_88 (by decide) ?_
      refine lv_istore_n (lv' := [(2, .int (0 : Int32)), (0, .ref x0), (1, .int x1)]) hx hb dX8_digest_89 rfl hl (by decide) rfl (fun ls hl => ?_)
      obtain ⟨n9, h⟩ := h
      exact tA_X8_digest_b90 C hml hr hlocks (fun kc ks x0 x1 S hk h => ih kc ks x0 x1 S hk h) n9 kc ks x0 x1 (0 : Int32) S hk h H locs ls hR hS (lv_sub (l' := [(0, .ref x0), (1, .int x1), (2, .int (0 : Int32))]) hl [1, 2, 0] rfl)
set_option maxHeartbeats 4000000 in
theorem tA_X8_digest_b71 {Q : Int64 → sT → Prop} (C : x_C p s m args c cX8_digest RX8 gg) (hml : c.maxLocals = 3) (hr : meth.sig.returnType = (some .long)) (hlocks : meth.locks = false) {mc ms kc ks : Nat} (hk : kc ≤ mc ∧ ks ≤ ms) {x0 : Nat} {y0 : Int32} {y1 : Nat}  {S : sT}  (h : wA_X8_digest_b71 mc ms kc ks x0 y0 y1 S  Q) : x_X p l e (rA_X8_digest mc ms) s m args below meth c gg 3 kc ks (MQ below (va_Ql Q (fun S1 t => s_Rep gg S1 t.heap) (s_A gg)) args s mc ms (s_A gg)) 71 [(0, .ref x0)] [.int y0, .ref y1] S := by
  unfold wA_X8_digest_b71 at h
  obtain ⟨hx, hb, -⟩ := id C
  intro H locs ls hR hS hl
  obtain ⟨hK_y1, h⟩ := h
  refine x_kv (x_runV (As := [.int y0]) (rest := []) C hml hR hS (m_X8_add l gg y1 y0 S h) b_X8_add q_44_23 (by rw [hK_y1]; decide) (s_E_9 hK_y1) rfl rfl rfl rfl ⟨Nat.le_of_ble_eq_true rfl, Nat.le_of_ble_eq_true rfl⟩ rfl hl.1 (Nat.le_of_ble_eq_true rfl) dX8_digest_71 ⟨hk.1, hk.2⟩) hS (fun S101 H locs hn hR hS => ?_)
  replace h := hn
  clear hn
  refine lv_iconst (v := 0) hx hb dX8_digest_74 (by decide) ?_
  refine lv_istore_n (lv' := [(1, .int (0 : Int32)), (0, .ref x0)]) hx hb dX8_digest_75 rfl hl (by decide) rfl (fun ls hl => ?_)
  obtain ⟨n9, h⟩ := h
  exact tA_X8_digest_b76 C hml hr hlocks  n9 kc ks x0 (0 : Int32) S101 hk h H locs ls hR hS (lv_sub (l' := [(0, .ref x0), (1, .int (0 : Int32))]) hl [1, 0] rfl)
set_option maxHeartbeats 4000000 in
theorem tA_X8_digest_b37 {Q : Int64 → sT → Prop} (C : x_C p s m args c cX8_digest RX8 gg) (hml : c.maxLocals = 3) (hr : meth.sig.returnType = (some .long)) (hlocks : meth.locks = false) {mc ms : Nat}   : ∀ (n : Nat) (kc ks : Nat) (x0 : Nat) (x1 : Int32) (S : sT), kc ≤ mc ∧ ks ≤ ms → wA_X8_digest_b37 mc ms  Q n kc ks x0 x1 S → x_X p l e (rA_X8_digest mc ms) s m args below meth c gg 3 kc ks (MQ below (va_Ql Q (fun S1 t => s_Rep gg S1 t.heap) (s_A gg)) args s mc ms (s_A gg)) 37 [(0, .ref x0), (1, .int x1)] [] S := by
  obtain ⟨hx, hb, -⟩ := id C
  intro n
  induction n with
  | zero => intro kc ks x0 x1 S hk h; exact absurd h id
  | succ n ih =>
    intro kc ks x0 x1 S hk h H locs ls hR hS hl
    unfold wA_X8_digest_b37 at h
    refine lv_iload_n hx hb dX8_digest_37 rfl (lv_at hl 1 rfl) ?_
    refine lv_bipush (v := 7) hx hb dX8_digest_38 (by decide) ?_
    refine lv_icmp_ge (tgt := 58) hx hb dX8_digest_40 (by decide) (fun hc101 => ?_) (fun hc101 => ?_)
    · replace h := h.1 hc101
      refine lv_aload_n hx hb dX8_digest_58 rfl (lv_at hl 0 rfl) ?_
      refine lv_aload_n hx hb dX8_digest_59 rfl (lv_at hl 0 rfl) ?_
      obtain ⟨hK_x0, h⟩ := h
      obtain ⟨c102, d103, hk1, hk2, h⟩ := h
      refine x_ki (x_runV (As := []) (rest := [.ref x0]) C hml hR hS (mA_X8_isClosedNow l gg c102 d103 x0 S h) b_X8_isClosedNow q_35_18 (by rw [hK_x0]; decide) (s_E_9 hK_x0) rfl rfl rfl rfl ⟨Nat.le_of_ble_eq_true rfl, Nat.le_of_ble_eq_true rfl⟩ rfl hl.1 (Nat.le_of_ble_eq_true rfl) dX8_digest_60 ⟨hk1, hk2⟩) hS (fun x105 S104 H locs hn hR hS => ?_)
      replace h := hn
      clear hn
      have hk : (kc + c102) ≤ mc ∧ (ks + d103) ≤ ms := ⟨hk1, hk2⟩
      refine lv_if_eq (tgt := 70) hx hb dX8_digest_63 (by decide) (fun hc106 => ?_) (fun hc106 => ?_)
      · replace h := h.1 hc106
        refine lv_iconst (v := 0) hx hb dX8_digest_70 (by decide) ?_
        exact tA_X8_digest_b71 C hml hr hlocks hk  h H locs ls hR hS (lv_sub (l' := [(0, .ref x0)]) hl [0] rfl)
      · replace h := h.2 hc106
        refine lv_iconst (v := 1) hx hb dX8_digest_66 (by decide) ?_
        refine lv_goto (tgt := 71) hx hb dX8_digest_67 (by decide) ?_
        exact tA_X8_digest_b71 C hml hr hlocks hk  h H locs ls hR hS (lv_sub (l' := [(0, .ref x0)]) hl [0] rfl)
    · replace h := h.2 hc101
      refine lv_aload_n hx hb dX8_digest_43 rfl (lv_at hl 0 rfl) ?_
      refine lv_aload_n hx hb dX8_digest_44 rfl (lv_at hl 0 rfl) ?_
      refine lv_iload_n hx hb dX8_digest_45 rfl (lv_at hl 1 rfl) ?_
      obtain ⟨hK_x0, h⟩ := h
      obtain ⟨c107, d108, hk1, hk2, h⟩ := h
      refine x_ki (x_runV (As := [.int x1]) (rest := [.ref x0]) C hml hR hS (mA_X8_waterNow l gg c107 d108 x0 x1 S h) b_X8_waterNow q_34_23 (by rw [hK_x0]; decide) (s_E_9 hK_x0) rfl rfl rfl rfl ⟨Nat.le_of_ble_eq_true rfl, Nat.le_of_ble_eq_true rfl⟩ rfl hl.1 (Nat.le_of_ble_eq_true rfl) dX8_digest_46 ⟨hk1, hk2⟩) hS (fun x110 S109 H locs hn hR hS => ?_)
      replace h := hn
      clear hn
      have hk : (kc + c107) ≤ mc ∧ (ks + d108) ≤ ms := ⟨hk1, hk2⟩
      obtain ⟨hK_x0, h⟩ := h
      refine x_kv (x_runV (As := [.int x110]) (rest := []) C hml hR hS (m_X8_add l gg x0 x110 S109 h) b_X8_add q_44_23 (by rw [hK_x0]; decide) (s_E_9 hK_x0) rfl rfl rfl rfl ⟨Nat.le_of_ble_eq_true rfl, Nat.le_of_ble_eq_true rfl⟩ rfl hl.1 (Nat.le_of_ble_eq_true rfl) dX8_digest_49 ⟨hk.1, hk.2⟩) hS (fun S111 H locs hn hR hS => ?_)
      replace h := hn
      clear hn
      obtain ⟨x112, ex112⟩ : ∃ z : Int32, z = x1 + 1 := ⟨_, rfl⟩
      replace h := h x112 ex112
      refine lv_iinc (v := x112) (lv' := [(1, .int x112), (0, .ref x0)]) hx hb dX8_digest_52 hl (k := 1) rfl (by rw [ex112]; rfl) (by decide) rfl (fun ls hl => ?_)
      refine lv_goto (tgt := 37) hx hb dX8_digest_55 (by decide) ?_
      exact ih (kc + c107) (ks + d108) x0 x112 S111 hk h H locs ls hR hS (lv_sub (l' := [(0, .ref x0), (1, .int x112)]) hl [1, 0] rfl)
set_option maxHeartbeats 4000000 in
theorem tA_X8_digest_b14 {Q : Int64 → sT → Prop} (C : x_C p s m args c cX8_digest RX8 gg) (hml : c.maxLocals = 3) (hr : meth.sig.returnType = (some .long)) (hlocks : meth.locks = false) {mc ms : Nat}   : ∀ (n : Nat) (kc ks : Nat) (x0 : Nat) (x1 : Int32) (S : sT), kc ≤ mc ∧ ks ≤ ms → wA_X8_digest_b14 mc ms  Q n kc ks x0 x1 S → x_X p l e (rA_X8_digest mc ms) s m args below meth c gg 3 kc ks (MQ below (va_Ql Q (fun S1 t => s_Rep gg S1 t.heap) (s_A gg)) args s mc ms (s_A gg)) 14 [(0, .ref x0), (1, .int x1)] [] S := by
  obtain ⟨hx, hb, -⟩ := id C
  intro n
  induction n with
  | zero => intro kc ks x0 x1 S hk h; exact absurd h id
  | succ n ih =>
    intro kc ks x0 x1 S hk h H locs ls hR hS hl
    unfold wA_X8_digest_b14 at h
    refine lv_iload_n hx hb dX8_digest_14 rfl (lv_at hl 1 rfl) ?_
    refine lv_bipush (v := 12) hx hb dX8_digest_15 (by decide) ?_
    refine lv_icmp_ge (tgt := 35) hx hb dX8_digest_17 (by decide) (fun hc101 => ?_) (fun hc101 => ?_)
    · replace h := h.1 hc101
      refine lv_iconst (v := 0) hx hb dX8_digest_35 (by decide) ?_
      refine lv_istore_n (lv' := [(1, .int (0 : Int32)), (0, .ref x0)]) hx hb dX8_digest_36 rfl hl (by decide) rfl (fun ls hl => ?_)
      obtain ⟨n9, h⟩ := h
      exact tA_X8_digest_b37 C hml hr hlocks  n9 kc ks x0 (0 : Int32) S hk h H locs ls hR hS (lv_sub (l' := [(0, .ref x0), (1, .int (0 : Int32))]) hl [1, 0] rfl)
    · replace h := h.2 hc101
      refine lv_aload_n hx hb dX8_digest_20 rfl (lv_at hl 0 rfl) ?_
      refine lv_aload_n hx hb dX8_digest_21 rfl (lv_at hl 0 rfl) ?_
      refine lv_iload_n hx hb dX8_digest_22 rfl (lv_at hl 1 rfl) ?_
      obtain ⟨hK_x0, h⟩ := h
      obtain ⟨c102, d103, hk1, hk2, h⟩ := h
      refine x_ki (x_runV (As := [.int x1]) (rest := [.ref x0]) C hml hR hS (mA_X8_manyNow l gg c102 d103 x0 x1 S h) b_X8_manyNow q_37_7 (by rw [hK_x0]; decide) (s_E_9 hK_x0) rfl rfl rfl rfl ⟨Nat.le_of_ble_eq_true rfl, Nat.le_of_ble_eq_true rfl⟩ rfl hl.1 (Nat.le_of_ble_eq_true rfl) dX8_digest_23 ⟨hk1, hk2⟩) hS (fun x105 S104 H locs hn hR hS => ?_)
      replace h := hn
      clear hn
      have hk : (kc + c102) ≤ mc ∧ (ks + d103) ≤ ms := ⟨hk1, hk2⟩
      obtain ⟨hK_x0, h⟩ := h
      refine x_kv (x_runV (As := [.int x105]) (rest := []) C hml hR hS (m_X8_add l gg x0 x105 S104 h) b_X8_add q_44_23 (by rw [hK_x0]; decide) (s_E_9 hK_x0) rfl rfl rfl rfl ⟨Nat.le_of_ble_eq_true rfl, Nat.le_of_ble_eq_true rfl⟩ rfl hl.1 (Nat.le_of_ble_eq_true rfl) dX8_digest_26 ⟨hk.1, hk.2⟩) hS (fun S106 H locs hn hR hS => ?_)
      replace h := hn
      clear hn
      obtain ⟨x107, ex107⟩ : ∃ z : Int32, z = x1 + 1 := ⟨_, rfl⟩
      replace h := h x107 ex107
      refine lv_iinc (v := x107) (lv' := [(1, .int x107), (0, .ref x0)]) hx hb dX8_digest_29 hl (k := 1) rfl (by rw [ex107]; rfl) (by decide) rfl (fun ls hl => ?_)
      refine lv_goto (tgt := 14) hx hb dX8_digest_32 (by decide) ?_
      exact ih (kc + c102) (ks + d103) x0 x107 S106 hk h H locs ls hR hS (lv_sub (l' := [(0, .ref x0), (1, .int x107)]) hl [1, 0] rfl)
set_option maxHeartbeats 4000000 in
theorem tA_X8_digest_b0 {Q : Int64 → sT → Prop} (C : x_C p s m args c cX8_digest RX8 gg) (hml : c.maxLocals = 3) (hr : meth.sig.returnType = (some .long)) (hlocks : meth.locks = false) {mc ms kc ks : Nat} (hk : kc ≤ mc ∧ ks ≤ ms) {x0 : Nat}  {S : sT}  (h : wA_X8_digest_b0 mc ms kc ks x0 S  Q) : x_X p l e (rA_X8_digest mc ms) s m args below meth c gg 3 kc ks (MQ below (va_Ql Q (fun S1 t => s_Rep gg S1 t.heap) (s_A gg)) args s mc ms (s_A gg)) 0 [(0, .ref x0)] [] S := by
  unfold wA_X8_digest_b0 at h
  obtain ⟨hx, hb, -⟩ := id C
  intro H locs ls hR hS hl
  refine lv_aload_n hx hb dX8_digest_0 rfl (lv_at hl 0 rfl) ?_
  refine lv_iconst (v := 0) hx hb dX8_digest_1 (by decide) ?_
  obtain ⟨hK_x0, h⟩ := h
  refine x_p_288 (v := (0 : Int32)) C hR hK_x0 hS q_8_1 dX8_digest_2 (fun H locs hR hS => ?_)
  obtain ⟨S101, eS101⟩ : ∃ z : sT, z = s_sI S 288 x0 (0 : Int32) := ⟨_, rfl⟩
  rw [← eS101] at hR
  replace h := h S101 eS101
  have hK_x0 : s_K S101 x0 = 10 := by rw [eS101]; exact hK_x0
  refine lv_aload_n hx hb dX8_digest_5 rfl (lv_at hl 0 rfl) ?_
  refine lv_ldc2 hx hb C.2.2.2.1 (C.2.2.1 _ q_44_21) dX8_digest_6 ?_
  refine x_p_290 (v := (58173 : Int64)) C hR hK_x0 hS q_44_22 dX8_digest_9 (fun H locs hR hS => ?_)
  obtain ⟨S102, eS102⟩ : ∃ z : sT, z = s_sJ S101 x0 (58173 : Int64) := ⟨_, rfl⟩
  rw [← eS102] at hR
  replace h := h S102 eS102
  have hK_x0 : s_K S102 x0 = 10 := by rw [eS102]; exact hK_x0
  refine lv_iconst (v := 0) hx hb dX8_digest_12 (by decide) ?_
  refine lv_istore_n (lv' := [(1, .int (0 : Int32)), (0, .ref x0)]) hx hb dX8_digest_13 rfl hl (by decide) rfl (fun ls hl => ?_)
  obtain ⟨n9, h⟩ := h
  exact tA_X8_digest_b14 C hml hr hlocks  n9 kc ks x0 (0 : Int32) S102 hk h H locs ls hR hS (lv_sub (l' := [(0, .ref x0), (1, .int (0 : Int32))]) hl [1, 0] rfl)
theorem mA_X8_digest (l : Launch) (gg : sG) (mc ms : Nat) (x0 : Nat) (S : sT) {Q : Int64 → sT → Prop} (h : wA_X8_digest mc ms x0 S Q) : x_Ml l gg yX8_digest (x_ws yX8_digest cX8_digest 3 (some .long)) (rA_X8_digest mc ms) [.ref x0] S Q mc ms := by
  refine x_ofW (cc := cX8_digest) (own := RX8) (by decide +kernel) rfl (Nat.le_of_ble_eq_true rfl) ?_
  intro p e s m args below meth c C hml hr hlocks hin ht H locs ls hR hS hl
  exact tA_X8_digest_b0 C hml hr hlocks ⟨Nat.zero_le _, Nat.zero_le _⟩ h H locs ls hR hS (lv_sub (l' := [(0, .ref x0)]) hl [0] rfl)
end
