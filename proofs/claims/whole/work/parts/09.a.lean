section
variable {p : Program} {l : Launch} {e : Env} {s : State} {m : MethodId} {args : Array Value} {below : List Frame} {meth : Method} {c : Code} {gg : sG}
def wA_L_society_b0 (mc ms kc ks : Nat) (x0 : Nat) (x1 : Int32) (x2 : Int32) (x3 : Int32) (x4 : Int32) (x5 : Nat) (S : sT)  (Q : Int32 → sT → Prop) : Prop :=
s_K S x0 = 8 ∧
    ((∃ c101 d102 : Nat, kc + c101 ≤ mc ∧ ks + d102 ≤ ms ∧
    wA_X6_society c101 d102 x0 x1 x2 x3 x4 S (fun x104 S103 =>
    ∀ j105 : Int64, j105 = Int32.toInt64 x104 →
    s_K S103 x5 = 14 ∧
    vp_in (0 : Int32) (s_N S103 x5) ∧
    ∀ S107 : sT, S107 = s_sG S103 x5 (Int32.toNatClampNeg (0 : Int32)) j105 →
    Q (0 : Int32) S107)) ∨
    ((kc + 1) ≤ mc ∧ (ks + 6) ≤ ms ∧ wT_X6_society x0 x1 x2 x3 x4 S (fun E9 S108 =>
    (E9 = "java/lang/IllegalArgumentException" → Q (1 : Int32) S108) ∧
    (E9 = "java/lang/IllegalStateException" → Q (2 : Int32) S108) ∧
    (E9 = "java/lang/IllegalArgumentException" ∨ E9 = "java/lang/IllegalStateException"))))
def wA_L_society (mc ms : Nat) (x0 : Nat) (x1 : Int32) (x2 : Int32) (x3 : Int32) (x4 : Int32) (x5 : Nat) (S : sT) (Q : Int32 → sT → Prop) : Prop := wA_L_society_b0 mc ms 0 0 x0 x1 x2 x3 x4 x5 S Q
def rA_L_society (mc ms : Nat) : Room := x_rm 9 240 mc ms
theorem b_L_society : x_BH yL_society cL_society 7 (some .int) [(0, 14, 17, 13), (0, 14, 21, 15)] 6 := ⟨q_3_23, q_3_21, q_3_22, by decide +kernel⟩
set_option maxHeartbeats 4000000 in
theorem tA_L_society_b0 {Q : Int32 → sT → Prop} (C : x_C p s m args c cL_society RL gg) (hml : c.maxLocals = 7) (hr : meth.sig.returnType = (some .int)) (hlocks : meth.locks = false) (hst : l.stackTraces = false) (ht : c.exceptionTable.toList = tableOf [(0, 14, 17, 13), (0, 14, 21, 15)]) {mc ms kc ks : Nat} (hk : kc ≤ mc ∧ ks ≤ ms) {x0 : Nat} {x1 : Int32} {x2 : Int32} {x3 : Int32} {x4 : Int32} {x5 : Nat}  {S : sT}  (h : wA_L_society_b0 mc ms kc ks x0 x1 x2 x3 x4 x5 S  Q) : x_X p l e (rA_L_society mc ms) s m args below meth c gg 7 kc ks (MQ below (va_Qi Q (fun S1 t => s_Rep gg S1 t.heap) (s_A gg)) args s mc ms (s_A gg)) 0 [(0, .ref x0), (1, .int x1), (2, .int x2), (3, .int x3), (4, .int x4), (5, .ref x5)] [] S := by
  unfold wA_L_society_b0 at h
  obtain ⟨hx, hb, -⟩ := id C
  intro H locs ls hR hS hl
  refine lv_aload hx hb dL_society_0 (lv_at hl 5 rfl) ?_
  refine lv_iconst (v := 0) hx hb dL_society_2 (by decide) ?_
  refine lv_aload_n hx hb dL_society_3 rfl (lv_at hl 0 rfl) ?_
  refine lv_iload_n hx hb dL_society_4 rfl (lv_at hl 1 rfl) ?_
  refine lv_iload_n hx hb dL_society_5 rfl (lv_at hl 2 rfl) ?_
  refine lv_iload_n hx hb dL_society_6 rfl (lv_at hl 3 rfl) ?_
  refine lv_iload hx hb dL_society_7 (lv_at hl 4 rfl) ?_
  obtain ⟨hK_x0, h⟩ := h
  rcases h with h | h
  · obtain ⟨c101, d102, hk1, hk2, h⟩ := h
    refine x_ki (x_runV (As := [.int x1, .int x2, .int x3, .int x4]) (rest := [.int (0 : Int32), .ref x5]) C hml hR hS (mA_X6_society l gg c101 d102 x0 x1 x2 x3 x4 S h) b_X6_society q_4_2 (by rw [hK_x0]; decide) (s_E_7 hK_x0) rfl rfl rfl rfl ⟨Nat.le_of_ble_eq_true rfl, Nat.le_of_ble_eq_true rfl⟩ rfl hl.1 (Nat.le_of_ble_eq_true rfl) dL_society_9 ⟨hk1, hk2⟩) hS (fun x104 S103 H locs hn hR hS => ?_)
    replace h := hn
    clear hn
    have hk : (kc + c101) ≤ mc ∧ (ks + d102) ≤ ms := ⟨hk1, hk2⟩
    refine lv_i2l hx hb dL_society_12 rfl ?_
    refine lv_topl (fun j105 ej105 => ?_)
    replace h := h j105 ej105
    obtain ⟨hK_x5, h⟩ := h
    obtain ⟨hi106, h⟩ := h
    refine x_last C hR hK_x5 hS hi106 dL_society_13 (fun H locs hR hS => ?_)
    obtain ⟨S107, eS107⟩ : ∃ z : sT, z = s_sG S103 x5 (Int32.toNatClampNeg (0 : Int32)) j105 := ⟨_, rfl⟩
    rw [← eS107] at hR
    replace h := h S107 eS107
    have hK_x5 : s_K S107 x5 = 14 := by rw [eS107]; exact hK_x5
    refine lv_goto (tgt := 25) hx hb dL_society_14 (by decide) ?_
    refine lv_iconst (v := 0) hx hb dL_society_25 (by decide) ?_
    refine W.widen (k := mc) (n := ms) hk.1 hk.2 ?_
    exact W.iret (v := (0 : Int32)) hx hb hr (fun t ht hW => ⟨⟨(0 : Int32), S107, rfl, h, x_rt ht hR⟩, hS.F ht⟩) hS.2.2 dL_society_26
  · obtain ⟨hk1, hk2, h⟩ := h
    refine x_ze (x_runVT (As := [.int x1, .int x2, .int x3, .int x4]) (rest := [.int (0 : Int32), .ref x5]) C hml hR hS (mT_X6_society l gg x0 x1 x2 x3 x4 S hst h) b_X6_society q_4_2 (by rw [hK_x0]; decide) (s_E_7 hK_x0) rfl rfl rfl rfl ⟨Nat.le_of_ble_eq_true rfl, Nat.le_of_ble_eq_true rfl⟩ rfl hl.1 (Nat.le_of_ble_eq_true rfl) dL_society_9 ⟨hk1, hk2⟩) hS (fun E9 ce q9 S108 H locs hq hR hS hce hcv hcl => ?_)
    have hk : (kc + 1) ≤ mc ∧ (ks + 6) ≤ ms := ⟨hk1, hk2⟩
    clear h
    obtain ⟨g0, g1, hE⟩ := hq
    rcases hE with rfl | rfl
    · have h := g0 rfl
      refine x_catch C [] ⟨0, 14, 17, 13⟩ [⟨0, 14, 21, 15⟩] (by rw [ht]; rfl) (fun z hz => absurd hz List.not_mem_nil) (by decide) (by decide) q_4_0 xe_c0 hce hcv hcl ?_
      refine lv_astore (lv' := [(6, .ref q9), (0, .ref x0), (1, .int x1), (2, .int x2), (3, .int x3), (4, .int x4), (5, .ref x5)]) hx hb dL_society_17 hl (by decide) rfl (fun ls hl => ?_)
      refine lv_iconst (v := 1) hx hb dL_society_19 (by decide) ?_
      refine W.widen (k := mc) (n := ms) hk.1 hk.2 ?_
      exact W.iret (v := (1 : Int32)) hx hb hr (fun t ht hW => ⟨⟨(1 : Int32), S108, rfl, h, x_rt ht hR⟩, hS.F ht⟩) hS.2.2 dL_society_20
    · have h := g1 rfl
      refine x_catch C [⟨0, 14, 17, 13⟩] ⟨0, 14, 21, 15⟩ [] (by rw [ht]; rfl) (fun z hz => by
          simp only [List.mem_cons, List.not_mem_nil, or_false] at hz
          rcases hz with rfl
          · exact ⟨by decide, _, q_4_0, xe_n10⟩) (by decide) (by decide) q_4_1 xe_c1 hce hcv hcl ?_
      refine lv_astore (lv' := [(6, .ref q9), (0, .ref x0), (1, .int x1), (2, .int x2), (3, .int x3), (4, .int x4), (5, .ref x5)]) hx hb dL_society_21 hl (by decide) rfl (fun ls hl => ?_)
      refine lv_iconst (v := 2) hx hb dL_society_23 (by decide) ?_
      refine W.widen (k := mc) (n := ms) hk.1 hk.2 ?_
      exact W.iret (v := (2 : Int32)) hx hb hr (fun t ht hW => ⟨⟨(2 : Int32), S108, rfl, h, x_rt ht hR⟩, hS.F ht⟩) hS.2.2 dL_society_24
theorem mA_L_society (l : Launch) (gg : sG) (mc ms : Nat) (x0 : Nat) (x1 : Int32) (x2 : Int32) (x3 : Int32) (x4 : Int32) (x5 : Nat) (S : sT) (hst : l.stackTraces = false) {Q : Int32 → sT → Prop} (h : wA_L_society mc ms x0 x1 x2 x3 x4 x5 S Q) : x_Mi l gg yL_society (x_wsH yL_society cL_society 7 (some .int) [(0, 14, 17, 13), (0, 14, 21, 15)]) (rA_L_society mc ms) [.ref x0, .int x1, .int x2, .int x3, .int x4, .ref x5] S Q mc ms := by
  refine x_ofWH (cc := cL_society) (own := RL) (by decide +kernel) rfl (Nat.le_of_ble_eq_true rfl) ?_
  intro p e s m args below meth c C hml hr hlocks ht H locs ls hR hS hl
  exact tA_L_society_b0 C hml hr hlocks hst ht ⟨Nat.zero_le _, Nat.zero_le _⟩ h H locs ls hR hS (lv_sub (l' := [(0, .ref x0), (1, .int x1), (2, .int x2), (3, .int x3), (4, .int x4), (5, .ref x5)]) hl [0, 1, 2, 3, 4, 5] rfl)
def wA_L_field_b0 (mc ms kc ks : Nat) (x0 : Nat) (x1 : Int32) (x2 : Int32) (x3 : Int32) (x4 : Nat) (S : sT)  (Q : Int32 → sT → Prop) : Prop :=
s_K S x0 = 8 ∧
    ((∃ c101 d102 : Nat, kc + c101 ≤ mc ∧ ks + d102 ≤ ms ∧
    wA_X6_field c101 d102 x0 x1 x2 x3 S (fun x104 S103 =>
    ∀ j105 : Int64, j105 = Int32.toInt64 x104 →
    s_K S103 x4 = 14 ∧
    vp_in (0 : Int32) (s_N S103 x4) ∧
    ∀ S107 : sT, S107 = s_sG S103 x4 (Int32.toNatClampNeg (0 : Int32)) j105 →
    Q (0 : Int32) S107)) ∨
    ((kc + 1) ≤ mc ∧ (ks + 6) ≤ ms ∧ wT_X6_field x0 x1 x2 x3 S (fun E9 S108 =>
    (E9 = "java/lang/IndexOutOfBoundsException" → Q (1 : Int32) S108) ∧
    (E9 = "java/lang/IllegalArgumentException" → Q (2 : Int32) S108) ∧
    (E9 = "java/lang/IllegalStateException" → Q (3 : Int32) S108) ∧
    (E9 = "java/lang/IndexOutOfBoundsException" ∨ E9 = "java/lang/IllegalArgumentException" ∨ E9 = "java/lang/IllegalStateException"))))
def wA_L_field (mc ms : Nat) (x0 : Nat) (x1 : Int32) (x2 : Int32) (x3 : Int32) (x4 : Nat) (S : sT) (Q : Int32 → sT → Prop) : Prop := wA_L_field_b0 mc ms 0 0 x0 x1 x2 x3 x4 S Q
def rA_L_field (mc ms : Nat) : Room := x_rm 10 260 mc ms
theorem b_L_field : x_BH yL_field cL_field 6 (some .int) [(0, 12, 15, 21), (0, 12, 19, 13), (0, 12, 23, 15)] 5 := ⟨q_8_22, q_8_21, q_3_22, by decide +kernel⟩
set_option maxHeartbeats 4000000 in
theorem tA_L_field_b0 {Q : Int32 → sT → Prop} (C : x_C p s m args c cL_field RL gg) (hml : c.maxLocals = 6) (hr : meth.sig.returnType = (some .int)) (hlocks : meth.locks = false) (hst : l.stackTraces = false) (ht : c.exceptionTable.toList = tableOf [(0, 12, 15, 21), (0, 12, 19, 13), (0, 12, 23, 15)]) {mc ms kc ks : Nat} (hk : kc ≤ mc ∧ ks ≤ ms) {x0 : Nat} {x1 : Int32} {x2 : Int32} {x3 : Int32} {x4 : Nat}  {S : sT}  (h : wA_L_field_b0 mc ms kc ks x0 x1 x2 x3 x4 S  Q) : x_X p l e (rA_L_field mc ms) s m args below meth c gg 6 kc ks (MQ below (va_Qi Q (fun S1 t => s_Rep gg S1 t.heap) (s_A gg)) args s mc ms (s_A gg)) 0 [(0, .ref x0), (1, .int x1), (2, .int x2), (3, .int x3), (4, .ref x4)] [] S := by
  unfold wA_L_field_b0 at h
  obtain ⟨hx, hb, -⟩ := id C
  intro H locs ls hR hS hl
  refine lv_aload hx hb dL_field_0 (lv_at hl 4 rfl) ?_
  refine lv_iconst (v := 0) hx hb dL_field_2 (by decide) ?_
  refine lv_aload_n hx hb dL_field_3 rfl (lv_at hl 0 rfl) ?_
  refine lv_iload_n hx hb dL_field_4 rfl (lv_at hl 1 rfl) ?_
  refine lv_iload_n hx hb dL_field_5 rfl (lv_at hl 2 rfl) ?_
  refine lv_iload_n hx hb dL_field_6 rfl (lv_at hl 3 rfl) ?_
  obtain ⟨hK_x0, h⟩ := h
  rcases h with h | h
  · obtain ⟨c101, d102, hk1, hk2, h⟩ := h
    refine x_ki (x_runV (As := [.int x1, .int x2, .int x3]) (rest := [.int (0 : Int32), .ref x4]) C hml hR hS (mA_X6_field l gg c101 d102 x0 x1 x2 x3 S h) b_X6_field q_9_0 (by rw [hK_x0]; decide) (s_E_7 hK_x0) rfl rfl rfl rfl ⟨Nat.le_of_ble_eq_true rfl, Nat.le_of_ble_eq_true rfl⟩ rfl hl.1 (Nat.le_of_ble_eq_true rfl) dL_field_7 ⟨hk1, hk2⟩) hS (fun x104 S103 H locs hn hR hS => ?_)
    replace h := hn
    clear hn
    have hk : (kc + c101) ≤ mc ∧ (ks + d102) ≤ ms := ⟨hk1, hk2⟩
    refine lv_i2l hx hb dL_field_10 rfl ?_
    refine lv_topl (fun j105 ej105 => ?_)
    replace h := h j105 ej105
    obtain ⟨hK_x4, h⟩ := h
    obtain ⟨hi106, h⟩ := h
    refine x_last C hR hK_x4 hS hi106 dL_field_11 (fun H locs hR hS => ?_)
    obtain ⟨S107, eS107⟩ : ∃ z : sT, z = s_sG S103 x4 (Int32.toNatClampNeg (0 : Int32)) j105 := ⟨_, rfl⟩
    rw [← eS107] at hR
    replace h := h S107 eS107
    have hK_x4 : s_K S107 x4 = 14 := by rw [eS107]; exact hK_x4
    refine lv_goto (tgt := 27) hx hb dL_field_12 (by decide) ?_
    refine lv_iconst (v := 0) hx hb dL_field_27 (by decide) ?_
    refine W.widen (k := mc) (n := ms) hk.1 hk.2 ?_
    exact W.iret (v := (0 : Int32)) hx hb hr (fun t ht hW => ⟨⟨(0 : Int32), S107, rfl, h, x_rt ht hR⟩, hS.F ht⟩) hS.2.2 dL_field_28
  · obtain ⟨hk1, hk2, h⟩ := h
    refine x_ze (x_runVT (As := [.int x1, .int x2, .int x3]) (rest := [.int (0 : Int32), .ref x4]) C hml hR hS (mT_X6_field l gg x0 x1 x2 x3 S hst h) b_X6_field q_9_0 (by rw [hK_x0]; decide) (s_E_7 hK_x0) rfl rfl rfl rfl ⟨Nat.le_of_ble_eq_true rfl, Nat.le_of_ble_eq_true rfl⟩ rfl hl.1 (Nat.le_of_ble_eq_true rfl) dL_field_7 ⟨hk1, hk2⟩) hS (fun E9 ce q9 S108 H locs hq hR hS hce hcv hcl => ?_)
    have hk : (kc + 1) ≤ mc ∧ (ks + 6) ≤ ms := ⟨hk1, hk2⟩
    clear h
    obtain ⟨g0, g1, g2, hE⟩ := hq
    rcases hE with rfl | rfl | rfl
    · have h := g0 rfl
      refine x_catch C [] ⟨0, 12, 15, 21⟩ [⟨0, 12, 19, 13⟩, ⟨0, 12, 23, 15⟩] (by rw [ht]; rfl) (fun z hz => absurd hz List.not_mem_nil) (by decide) (by decide) q_8_23 xe_c2 hce hcv hcl ?_
      refine lv_astore (lv' := [(5, .ref q9), (0, .ref x0), (1, .int x1), (2, .int x2), (3, .int x3), (4, .ref x4)]) hx hb dL_field_15 hl (by decide) rfl (fun ls hl => ?_)
      refine lv_iconst (v := 1) hx hb dL_field_17 (by decide) ?_
      refine W.widen (k := mc) (n := ms) hk.1 hk.2 ?_
      exact W.iret (v := (1 : Int32)) hx hb hr (fun t ht hW => ⟨⟨(1 : Int32), S108, rfl, h, x_rt ht hR⟩, hS.F ht⟩) hS.2.2 dL_field_18
    · have h := g1 rfl
      refine x_catch C [⟨0, 12, 15, 21⟩] ⟨0, 12, 19, 13⟩ [⟨0, 12, 23, 15⟩] (by rw [ht]; rfl) (fun z hz => by
          simp only [List.mem_cons, List.not_mem_nil, or_false] at hz
          rcases hz with rfl
          · exact ⟨by decide, _, q_8_23, xe_n02⟩) (by decide) (by decide) q_4_0 xe_c0 hce hcv hcl ?_
      refine lv_astore (lv' := [(5, .ref q9), (0, .ref x0), (1, .int x1), (2, .int x2), (3, .int x3), (4, .ref x4)]) hx hb dL_field_19 hl (by decide) rfl (fun ls hl => ?_)
      refine lv_iconst (v := 2) hx hb dL_field_21 (by decide) ?_
      refine W.widen (k := mc) (n := ms) hk.1 hk.2 ?_
      exact W.iret (v := (2 : Int32)) hx hb hr (fun t ht hW => ⟨⟨(2 : Int32), S108, rfl, h, x_rt ht hR⟩, hS.F ht⟩) hS.2.2 dL_field_22
    · have h := g2 rfl
      refine x_catch C [⟨0, 12, 15, 21⟩, ⟨0, 12, 19, 13⟩] ⟨0, 12, 23, 15⟩ [] (by rw [ht]; rfl) (fun z hz => by
          simp only [List.mem_cons, List.not_mem_nil, or_false] at hz
          rcases hz with rfl | rfl
          · exact ⟨by decide, _, q_8_23, xe_n12⟩
          · exact ⟨by decide, _, q_4_0, xe_n10⟩) (by decide) (by decide) q_4_1 xe_c1 hce hcv hcl ?_
      refine lv_astore (lv' := [(5, .ref q9), (0, .ref x0), (1, .int x1), (2, .int x2), (3, .int x3), (4, .ref x4)]) hx hb dL_field_23 hl (by decide) rfl (fun ls hl => ?_)
      refine lv_iconst (v := 3) hx hb dL_field_25 (by decide) ?_
      refine W.widen (k := mc) (n := ms) hk.1 hk.2 ?_
      exact W.iret (v := (3 : Int32)) hx hb hr (fun t ht hW => ⟨⟨(3 : Int32), S108, rfl, h, x_rt ht hR⟩, hS.F ht⟩) hS.2.2 dL_field_26
theorem mA_L_field (l : Launch) (gg : sG) (mc ms : Nat) (x0 : Nat) (x1 : Int32) (x2 : Int32) (x3 : Int32) (x4 : Nat) (S : sT) (hst : l.stackTraces = false) {Q : Int32 → sT → Prop} (h : wA_L_field mc ms x0 x1 x2 x3 x4 S Q) : x_Mi l gg yL_field (x_wsH yL_field cL_field 6 (some .int) [(0, 12, 15, 21), (0, 12, 19, 13), (0, 12, 23, 15)]) (rA_L_field mc ms) [.ref x0, .int x1, .int x2, .int x3, .ref x4] S Q mc ms := by
  refine x_ofWH (cc := cL_field) (own := RL) (by decide +kernel) rfl (Nat.le_of_ble_eq_true rfl) ?_
  intro p e s m args below meth c C hml hr hlocks ht H locs ls hR hS hl
  exact tA_L_field_b0 C hml hr hlocks hst ht ⟨Nat.zero_le _, Nat.zero_le _⟩ h H locs ls hR hS (lv_sub (l' := [(0, .ref x0), (1, .int x1), (2, .int x2), (3, .int x3), (4, .ref x4)]) hl [0, 1, 2, 3, 4] rfl)
def wA_L_gate_b16 (mc ms kc ks : Nat) (y0 : Int64) (y1 : Int32) (y2 : Nat) (S : sT)  (Q : Int32 → sT → Prop) : Prop :=
s_K S y2 = 14 ∧
    vp_in y1 (s_N S y2) ∧
    ∀ S102 : sT, S102 = s_sG S y2 (Int32.toNatClampNeg y1) y0 →
    Q (0 : Int32) S102
def wA_L_gate_b0 (mc ms kc ks : Nat) (x0 : Nat) (x1 : Int32) (x2 : Int32) (x3 : Nat) (S : sT)  (Q : Int32 → sT → Prop) : Prop :=
s_K S x0 = 8 ∧
    ((w_X6_gate x0 x1 x2 S (fun x102 S101 =>
    ((x102 = 0 → wA_L_gate_b16 mc ms kc ks (0 : Int64) (0 : Int32) x3 S101  Q) ∧
    (¬ x102 = 0 → wA_L_gate_b16 mc ms kc ks (1 : Int64) (0 : Int32) x3 S101  Q)))) ∨
    ((kc + 1) ≤ mc ∧ (ks + 6) ≤ ms ∧ wT_X6_gate x0 x1 x2 S (fun E9 S104 =>
    (E9 = "java/lang/IndexOutOfBoundsException" → Q (1 : Int32) S104) ∧
    (E9 = "java/lang/IndexOutOfBoundsException"))))
def wA_L_gate (mc ms : Nat) (x0 : Nat) (x1 : Int32) (x2 : Int32) (x3 : Nat) (S : sT) (Q : Int32 → sT → Prop) : Prop := wA_L_gate_b0 mc ms 0 0 x0 x1 x2 x3 S Q
def rA_L_gate (mc ms : Nat) : Room := x_rm 8 137 mc ms
theorem b_L_gate : x_BH yL_gate cL_gate 5 (some .int) [(0, 17, 20, 21)] 4 := ⟨q_12_16, q_12_15, q_3_22, by decide +kernel⟩
set_option maxHeartbeats 4000000 in
theorem tA_L_gate_b16 {Q : Int32 → sT → Prop} (C : x_C p s m args c cL_gate RL gg) (hml : c.maxLocals = 5) (hr : meth.sig.returnType = (some .int)) (hlocks : meth.locks = false) (hst : l.stackTraces = false) (ht : c.exceptionTable.toList = tableOf [(0, 17, 20, 21)]) {mc ms kc ks : Nat} (hk : kc ≤ mc ∧ ks ≤ ms) {y0 : Int64} {y1 : Int32} {y2 : Nat}  {S : sT}  (h : wA_L_gate_b16 mc ms kc ks y0 y1 y2 S  Q) : x_X p l e (rA_L_gate mc ms) s m args below meth c gg 5 kc ks (MQ below (va_Qi Q (fun S1 t => s_Rep gg S1 t.heap) (s_A gg)) args s mc ms (s_A gg)) 16 [] [.long y0, .int y1, .ref y2] S := by
  unfold wA_L_gate_b16 at h
  obtain ⟨hx, hb, -⟩ := id C
  intro H locs ls hR hS hl
  obtain ⟨hK_y2, h⟩ := h
  obtain ⟨hi101, h⟩ := h
  refine x_last C hR hK_y2 hS hi101 dL_gate_16 (fun H locs hR hS => ?_)
  obtain ⟨S102, eS102⟩ : ∃ z : sT, z = s_sG S y2 (Int32.toNatClampNeg y1) y0 := ⟨_, rfl⟩
  rw [← eS102] at hR
  replace h := h S102 eS102
  have hK_y2 : s_K S102 y2 = 14 := by rw [eS102]; exact hK_y2
  refine lv_goto (tgt := 24) hx hb dL_gate_17 (by decide) ?_
  refine lv_iconst (v := 0) hx hb dL_gate_24 (by decide) ?_
  refine W.widen (k := mc) (n := ms) hk.1 hk.2 ?_
  exact W.iret (v := (0 : Int32)) hx hb hr (fun t ht hW => ⟨⟨(0 : Int32), S102, rfl, h, x_rt ht hR⟩, hS.F ht⟩) hS.2.2 dL_gate_25
set_option maxHeartbeats 4000000 in
theorem tA_L_gate_b0 {Q : Int32 → sT → Prop} (C : x_C p s m args c cL_gate RL gg) (hml : c.maxLocals = 5) (hr : meth.sig.returnType = (some .int)) (hlocks : meth.locks = false) (hst : l.stackTraces = false) (ht : c.exceptionTable.toList = tableOf [(0, 17, 20, 21)]) {mc ms kc ks : Nat} (hk : kc ≤ mc ∧ ks ≤ ms) {x0 : Nat} {x1 : Int32} {x2 : Int32} {x3 : Nat}  {S : sT}  (h : wA_L_gate_b0 mc ms kc ks x0 x1 x2 x3 S  Q) : x_X p l e (rA_L_gate mc ms) s m args below meth c gg 5 kc ks (MQ below (va_Qi Q (fun S1 t => s_Rep gg S1 t.heap) (s_A gg)) args s mc ms (s_A gg)) 0 [(0, .ref x0), (1, .int x1), (2, .int x2), (3, .ref x3)] [] S := by
  unfold wA_L_gate_b0 at h
  obtain ⟨hx, hb, -⟩ := id C
  intro H locs ls hR hS hl
  refine lv_aload_n hx hb dL_gate_0 rfl (lv_at hl 3 rfl) ?_
  refine lv_iconst (v := 0) hx hb dL_gate_1 (by decide) ?_
  refine lv_aload_n hx hb dL_gate_2 rfl (lv_at hl 0 rfl) ?_
  refine lv_iload_n hx hb dL_gate_3 rfl (lv_at hl 1 rfl) ?_
  refine lv_iload_n hx hb dL_gate_4 rfl (lv_at hl 2 rfl) ?_
  obtain ⟨hK_x0, h⟩ := h
  rcases h with h | h
  · refine x_ki (x_runV (As := [.int x1, .int x2]) (rest := [.int (0 : Int32), .ref x3]) C hml hR hS (m_X6_gate l gg x0 x1 x2 S h) b_X6_gate q_12_17 (by rw [hK_x0]; decide) (s_E_7 hK_x0) rfl rfl rfl rfl ⟨Nat.le_of_ble_eq_true rfl, Nat.le_of_ble_eq_true rfl⟩ rfl hl.1 (Nat.le_of_ble_eq_true rfl) dL_gate_5 ⟨hk.1, hk.2⟩) hS (fun x102 S101 H locs hn hR hS => ?_)
    replace h := hn
    clear hn
    refine lv_if_eq (tgt := 15) hx hb dL_gate_8 (by decide) (fun hc103 => ?_) (fun hc103 => ?_)
    · replace h := h.1 hc103
      refine lv_lconst (v := 0) hx hb dL_gate_15 (by decide) ?_
      exact tA_L_gate_b16 C hml hr hlocks hst ht hk  h H locs ls hR hS (lv_sub (l' := []) hl [] rfl)
    · replace h := h.2 hc103
      refine lv_lconst (v := 1) hx hb dL_gate_11 (by decide) ?_
      refine lv_goto (tgt := 16) hx hb dL_gate_12 (by decide) ?_
      exact tA_L_gate_b16 C hml hr hlocks hst ht hk  h H locs ls hR hS (lv_sub (l' := []) hl [] rfl)
  · obtain ⟨hk1, hk2, h⟩ := h
    refine x_ze (x_runVT (As := [.int x1, .int x2]) (rest := [.int (0 : Int32), .ref x3]) C hml hR hS (mT_X6_gate l gg x0 x1 x2 S hst h) b_X6_gate q_12_17 (by rw [hK_x0]; decide) (s_E_7 hK_x0) rfl rfl rfl rfl ⟨Nat.le_of_ble_eq_true rfl, Nat.le_of_ble_eq_true rfl⟩ rfl hl.1 (Nat.le_of_ble_eq_true rfl) dL_gate_5 ⟨hk1, hk2⟩) hS (fun E9 ce q9 S104 H locs hq hR hS hce hcv hcl => ?_)
    have hk : (kc + 1) ≤ mc ∧ (ks + 6) ≤ ms := ⟨hk1, hk2⟩
    clear h
    obtain ⟨g0, hE⟩ := hq
    rcases hE with rfl
    · have h := g0 rfl
      refine x_catch C [] ⟨0, 17, 20, 21⟩ [] (by rw [ht]; rfl) (fun z hz => absurd hz List.not_mem_nil) (by decide) (by decide) q_8_23 xe_c2 hce hcv hcl ?_
      refine lv_astore (lv' := [(4, .ref q9), (0, .ref x0), (1, .int x1), (2, .int x2), (3, .ref x3)]) hx hb dL_gate_20 hl (by decide) rfl (fun ls hl => ?_)
      refine lv_iconst (v := 1) hx hb dL_gate_22 (by decide) ?_
      refine W.widen (k := mc) (n := ms) hk.1 hk.2 ?_
      exact W.iret (v := (1 : Int32)) hx hb hr (fun t ht hW => ⟨⟨(1 : Int32), S104, rfl, h, x_rt ht hR⟩, hS.F ht⟩) hS.2.2 dL_gate_23
theorem mA_L_gate (l : Launch) (gg : sG) (mc ms : Nat) (x0 : Nat) (x1 : Int32) (x2 : Int32) (x3 : Nat) (S : sT) (hst : l.stackTraces = false) {Q : Int32 → sT → Prop} (h : wA_L_gate mc ms x0 x1 x2 x3 S Q) : x_Mi l gg yL_gate (x_wsH yL_gate cL_gate 5 (some .int) [(0, 17, 20, 21)]) (rA_L_gate mc ms) [.ref x0, .int x1, .int x2, .ref x3] S Q mc ms := by
  refine x_ofWH (cc := cL_gate) (own := RL) (by decide +kernel) rfl (Nat.le_of_ble_eq_true rfl) ?_
  intro p e s m args below meth c C hml hr hlocks ht H locs ls hR hS hl
  exact tA_L_gate_b0 C hml hr hlocks hst ht ⟨Nat.zero_le _, Nat.zero_le _⟩ h H locs ls hR hS (lv_sub (l' := [(0, .ref x0), (1, .int x1), (2, .int x2), (3, .ref x3)]) hl [0, 1, 2, 3] rfl)
def wA_L_stones_b0 (mc ms kc ks : Nat) (x0 : Nat) (x1 : Int32) (x2 : Int32) (x3 : Nat) (S : sT)  (Q : Int32 → sT → Prop) : Prop :=
s_K S x0 = 8 ∧
    ((w_X6_stones x0 x1 x2 S (fun x102 S101 =>
    ∀ j103 : Int64, j103 = Int32.toInt64 x102 →
    s_K S101 x3 = 14 ∧
    vp_in (0 : Int32) (s_N S101 x3) ∧
    ∀ S105 : sT, S105 = s_sG S101 x3 (Int32.toNatClampNeg (0 : Int32)) j103 →
    Q (0 : Int32) S105)) ∨
    ((kc + 1) ≤ mc ∧ (ks + 6) ≤ ms ∧ wT_X6_stones x0 x1 x2 S (fun E9 S106 =>
    (E9 = "java/lang/IndexOutOfBoundsException" → Q (1 : Int32) S106) ∧
    (E9 = "java/lang/IllegalArgumentException" → Q (2 : Int32) S106) ∧
    (E9 = "java/lang/IndexOutOfBoundsException" ∨ E9 = "java/lang/IllegalArgumentException"))))
def wA_L_stones (mc ms : Nat) (x0 : Nat) (x1 : Int32) (x2 : Int32) (x3 : Nat) (S : sT) (Q : Int32 → sT → Prop) : Prop := wA_L_stones_b0 mc ms 0 0 x0 x1 x2 x3 S Q
def rA_L_stones (mc ms : Nat) : Room := x_rm 8 137 mc ms
theorem b_L_stones : x_BH yL_stones cL_stones 5 (some .int) [(0, 10, 13, 21), (0, 10, 17, 13)] 4 := ⟨q_13_13, q_13_12, q_3_22, by decide +kernel⟩
set_option maxHeartbeats 4000000 in
theorem tA_L_stones_b0 {Q : Int32 → sT → Prop} (C : x_C p s m args c cL_stones RL gg) (hml : c.maxLocals = 5) (hr : meth.sig.returnType = (some .int)) (hlocks : meth.locks = false) (hst : l.stackTraces = false) (ht : c.exceptionTable.toList = tableOf [(0, 10, 13, 21), (0, 10, 17, 13)]) {mc ms kc ks : Nat} (hk : kc ≤ mc ∧ ks ≤ ms) {x0 : Nat} {x1 : Int32} {x2 : Int32} {x3 : Nat}  {S : sT}  (h : wA_L_stones_b0 mc ms kc ks x0 x1 x2 x3 S  Q) : x_X p l e (rA_L_stones mc ms) s m args below meth c gg 5 kc ks (MQ below (va_Qi Q (fun S1 t => s_Rep gg S1 t.heap) (s_A gg)) args s mc ms (s_A gg)) 0 [(0, .ref x0), (1, .int x1), (2, .int x2), (3, .ref x3)] [] S := by
  unfold wA_L_stones_b0 at h
  obtain ⟨hx, hb, -⟩ := id C
  intro H locs ls hR hS hl
  refine lv_aload_n hx hb dL_stones_0 rfl (lv_at hl 3 rfl) ?_
  refine lv_iconst (v := 0) hx hb dL_stones_1 (by decide) ?_
  refine lv_aload_n hx hb dL_stones_2 rfl (lv_at hl 0 rfl) ?_
  refine lv_iload_n hx hb dL_stones_3 rfl (lv_at hl 1 rfl) ?_
  refine lv_iload_n hx hb dL_stones_4 rfl (lv_at hl 2 rfl) ?_
  obtain ⟨hK_x0, h⟩ := h
  rcases h with h | h
  · refine x_ki (x_runV (As := [.int x1, .int x2]) (rest := [.int (0 : Int32), .ref x3]) C hml hR hS (m_X6_stones l gg x0 x1 x2 S h) b_X6_stones q_13_14 (by rw [hK_x0]; decide) (s_E_7 hK_x0) rfl rfl rfl rfl ⟨Nat.le_of_ble_eq_true rfl, Nat.le_of_ble_eq_true rfl⟩ rfl hl.1 (Nat.le_of_ble_eq_true rfl) dL_stones_5 ⟨hk.1, hk.2⟩) hS (fun x102 S101 H locs hn hR hS => ?_)
    replace h := hn
    clear hn
    refine lv_i2l hx hb dL_stones_8 rfl ?_
    refine lv_topl (fun j103 ej103 => ?_)
    replace h := h j103 ej103
    obtain ⟨hK_x3, h⟩ := h
    obtain ⟨hi104, h⟩ := h
    refine x_last C hR hK_x3 hS hi104 dL_stones_9 (fun H locs hR hS => ?_)
    obtain ⟨S105, eS105⟩ : ∃ z : sT, z = s_sG S101 x3 (Int32.toNatClampNeg (0 : Int32)) j103 := ⟨_, rfl⟩
    rw [← eS105] at hR
    replace h := h S105 eS105
    have hK_x3 : s_K S105 x3 = 14 := by rw [eS105]; exact hK_x3
    refine lv_goto (tgt := 21) hx hb dL_stones_10 (by decide) ?_
    refine lv_iconst (v := 0) hx hb dL_stones_21 (by decide) ?_
    refine W.widen (k := mc) (n := ms) hk.1 hk.2 ?_
    exact W.iret (v := (0 : Int32)) hx hb hr (fun t ht hW => ⟨⟨(0 : Int32), S105, rfl, h, x_rt ht hR⟩, hS.F ht⟩) hS.2.2 dL_stones_22
  · obtain ⟨hk1, hk2, h⟩ := h
    refine x_ze (x_runVT (As := [.int x1, .int x2]) (rest := [.int (0 : Int32), .ref x3]) C hml hR hS (mT_X6_stones l gg x0 x1 x2 S hst h) b_X6_stones q_13_14 (by rw [hK_x0]; decide) (s_E_7 hK_x0) rfl rfl rfl rfl ⟨Nat.le_of_ble_eq_true rfl, Nat.le_of_ble_eq_true rfl⟩ rfl hl.1 (Nat.le_of_ble_eq_true rfl) dL_stones_5 ⟨hk1, hk2⟩) hS (fun E9 ce q9 S106 H locs hq hR hS hce hcv hcl => ?_)
    have hk : (kc + 1) ≤ mc ∧ (ks + 6) ≤ ms := ⟨hk1, hk2⟩
    clear h
    obtain ⟨g0, g1, hE⟩ := hq
    rcases hE with rfl | rfl
    · have h := g0 rfl
      refine x_catch C [] ⟨0, 10, 13, 21⟩ [⟨0, 10, 17, 13⟩] (by rw [ht]; rfl) (fun z hz => absurd hz List.not_mem_nil) (by decide) (by decide) q_8_23 xe_c2 hce hcv hcl ?_
      refine lv_astore (lv' := [(4, .ref q9), (0, .ref x0), (1, .int x1), (2, .int x2), (3, .ref x3)]) hx hb dL_stones_13 hl (by decide) rfl (fun ls hl => ?_)
      refine lv_iconst (v := 1) hx hb dL_stones_15 (by decide) ?_
      refine W.widen (k := mc) (n := ms) hk.1 hk.2 ?_
      exact W.iret (v := (1 : Int32)) hx hb hr (fun t ht hW => ⟨⟨(1 : Int32), S106, rfl, h, x_rt ht hR⟩, hS.F ht⟩) hS.2.2 dL_stones_16
    · have h := g1 rfl
      refine x_catch C [⟨0, 10, 13, 21⟩] ⟨0, 10, 17, 13⟩ [] (by rw [ht]; rfl) (fun z hz => by
          simp only [List.mem_cons, List.not_mem_nil, or_false] at hz
          rcases hz with rfl
          · exact ⟨by decide, _, q_8_23, xe_n02⟩) (by decide) (by decide) q_4_0 xe_c0 hce hcv hcl ?_
      refine lv_astore (lv' := [(4, .ref q9), (0, .ref x0), (1, .int x1), (2, .int x2), (3, .ref x3)]) hx hb dL_stones_17 hl (by decide) rfl (fun ls hl => ?_)
      refine lv_iconst (v := 2) hx hb dL_stones_19 (by decide) ?_
      refine W.widen (k := mc) (n := ms) hk.1 hk.2 ?_
      exact W.iret (v := (2 : Int32)) hx hb hr (fun t ht hW => ⟨⟨(2 : Int32), S106, rfl, h, x_rt ht hR⟩, hS.F ht⟩) hS.2.2 dL_stones_20
theorem mA_L_stones (l : Launch) (gg : sG) (mc ms : Nat) (x0 : Nat) (x1 : Int32) (x2 : Int32) (x3 : Nat) (S : sT) (hst : l.stackTraces = false) {Q : Int32 → sT → Prop} (h : wA_L_stones mc ms x0 x1 x2 x3 S Q) : x_Mi l gg yL_stones (x_wsH yL_stones cL_stones 5 (some .int) [(0, 10, 13, 21), (0, 10, 17, 13)]) (rA_L_stones mc ms) [.ref x0, .int x1, .int x2, .ref x3] S Q mc ms := by
  refine x_ofWH (cc := cL_stones) (own := RL) (by decide +kernel) rfl (Nat.le_of_ble_eq_true rfl) ?_
  intro p e s m args below meth c C hml hr hlocks ht H locs ls hR hS hl
  exact tA_L_stones_b0 C hml hr hlocks hst ht ⟨Nat.zero_le _, Nat.zero_le _⟩ h H locs ls hR hS (lv_sub (l' := [(0, .ref x0), (1, .int x1), (2, .int x2), (3, .ref x3)]) hl [0, 1, 2, 3] rfl)
def wA_L_rotate_b16 (mc ms kc ks : Nat) (y0 : Int64) (y1 : Int32) (y2 : Nat) (S : sT)  (Q : Int32 → sT → Prop) : Prop :=
s_K S y2 = 14 ∧
    vp_in y1 (s_N S y2) ∧
    ∀ S102 : sT, S102 = s_sG S y2 (Int32.toNatClampNeg y1) y0 →
    Q (0 : Int32) S102
def wA_L_rotate_b0 (mc ms kc ks : Nat) (x0 : Nat) (x1 : Int32) (x2 : Int32) (x3 : Nat) (S : sT)  (Q : Int32 → sT → Prop) : Prop :=
s_K S x0 = 8 ∧
    ((w_X6_rotate x0 x1 x2 S (fun x102 S101 =>
    ((x102 = 0 → wA_L_rotate_b16 mc ms kc ks (0 : Int64) (0 : Int32) x3 S101  Q) ∧
    (¬ x102 = 0 → wA_L_rotate_b16 mc ms kc ks (1 : Int64) (0 : Int32) x3 S101  Q)))) ∨
    ((kc + 1) ≤ mc ∧ (ks + 6) ≤ ms ∧ wT_X6_rotate x0 x1 x2 S (fun E9 S104 =>
    (E9 = "java/lang/IndexOutOfBoundsException" → Q (1 : Int32) S104) ∧
    (E9 = "java/lang/IndexOutOfBoundsException"))))
def wA_L_rotate (mc ms : Nat) (x0 : Nat) (x1 : Int32) (x2 : Int32) (x3 : Nat) (S : sT) (Q : Int32 → sT → Prop) : Prop := wA_L_rotate_b0 mc ms 0 0 x0 x1 x2 x3 S Q
def rA_L_rotate (mc ms : Nat) : Room := x_rm 8 137 mc ms
theorem b_L_rotate : x_BH yL_rotate cL_rotate 5 (some .int) [(0, 17, 20, 21)] 4 := ⟨q_14_1, q_14_0, q_3_22, by decide +kernel⟩
set_option maxHeartbeats 4000000 in
theorem tA_L_rotate_b16 {Q : Int32 → sT → Prop} (C : x_C p s m args c cL_rotate RL gg) (hml : c.maxLocals = 5) (hr : meth.sig.returnType = (some .int)) (hlocks : meth.locks = false) (hst : l.stackTraces = false) (ht : c.exceptionTable.toList = tableOf [(0, 17, 20, 21)]) {mc ms kc ks : Nat} (hk : kc ≤ mc ∧ ks ≤ ms) {y0 : Int64} {y1 : Int32} {y2 : Nat}  {S : sT}  (h : wA_L_rotate_b16 mc ms kc ks y0 y1 y2 S  Q) : x_X p l e (rA_L_rotate mc ms) s m args below meth c gg 5 kc ks (MQ below (va_Qi Q (fun S1 t => s_Rep gg S1 t.heap) (s_A gg)) args s mc ms (s_A gg)) 16 [] [.long y0, .int y1, .ref y2] S := by
  unfold wA_L_rotate_b16 at h
  obtain ⟨hx, hb, -⟩ := id C
  intro H locs ls hR hS hl
  obtain ⟨hK_y2, h⟩ := h
  obtain ⟨hi101, h⟩ := h
  refine x_last C hR hK_y2 hS hi101 dL_rotate_16 (fun H locs hR hS => ?_)
  obtain ⟨S102, eS102⟩ : ∃ z : sT, z = s_sG S y2 (Int32.toNatClampNeg y1) y0 := ⟨_, rfl⟩
  rw [← eS102] at hR
  replace h := h S102 eS102
  have hK_y2 : s_K S102 y2 = 14 := by rw [eS102]; exact hK_y2
  refine lv_goto (tgt := 24) hx hb dL_rotate_17 (by decide) ?_
  refine lv_iconst (v := 0) hx hb dL_rotate_24 (by decide) ?_
  refine W.widen (k := mc) (n := ms) hk.1 hk.2 ?_
  exact W.iret (v := (0 : Int32)) hx hb hr (fun t ht hW => ⟨⟨(0 : Int32), S102, rfl, h, x_rt ht hR⟩, hS.F ht⟩) hS.2.2 dL_rotate_25
set_option maxHeartbeats 4000000 in
theorem tA_L_rotate_b0 {Q : Int32 → sT → Prop} (C : x_C p s m args c cL_rotate RL gg) (hml : c.maxLocals = 5) (hr : meth.sig.returnType = (some .int)) (hlocks : meth.locks = false) (hst : l.stackTraces = false) (ht : c.exceptionTable.toList = tableOf [(0, 17, 20, 21)]) {mc ms kc ks : Nat} (hk : kc ≤ mc ∧ ks ≤ ms) {x0 : Nat} {x1 : Int32} {x2 : Int32} {x3 : Nat}  {S : sT}  (h : wA_L_rotate_b0 mc ms kc ks x0 x1 x2 x3 S  Q) : x_X p l e (rA_L_rotate mc ms) s m args below meth c gg 5 kc ks (MQ below (va_Qi Q (fun S1 t => s_Rep gg S1 t.heap) (s_A gg)) args s mc ms (s_A gg)) 0 [(0, .ref x0), (1, .int x1), (2, .int x2), (3, .ref x3)] [] S := by
  unfold wA_L_rotate_b0 at h
  obtain ⟨hx, hb, -⟩ := id C
  intro H locs ls hR hS hl
  refine lv_aload_n hx hb dL_rotate_0 rfl (lv_at hl 3 rfl) ?_
  refine lv_iconst (v := 0) hx hb dL_rotate_1 (by decide) ?_
  refine lv_aload_n hx hb dL_rotate_2 rfl (lv_at hl 0 rfl) ?_
  refine lv_iload_n hx hb dL_rotate_3 rfl (lv_at hl 1 rfl) ?_
  refine lv_iload_n hx hb dL_rotate_4 rfl (lv_at hl 2 rfl) ?_
  obtain ⟨hK_x0, h⟩ := h
  rcases h with h | h
  · refine x_ki (x_runV (As := [.int x1, .int x2]) (rest := [.int (0 : Int32), .ref x3]) C hml hR hS (m_X6_rotate l gg x0 x1 x2 S h) b_X6_rotate q_14_2 (by rw [hK_x0]; decide) (s_E_7 hK_x0) rfl rfl rfl rfl ⟨Nat.le_of_ble_eq_true rfl, Nat.le_of_ble_eq_true rfl⟩ rfl hl.1 (Nat.le_of_ble_eq_true rfl) dL_rotate_5 ⟨hk.1, hk.2⟩) hS (fun x102 S101 H locs hn hR hS => ?_)
    replace h := hn
    clear hn
    refine lv_if_eq (tgt := 15) hx hb dL_rotate_8 (by decide) (fun hc103 => ?_) (fun hc103 => ?_)
    · replace h := h.1 hc103
      refine lv_lconst (v := 0) hx hb dL_rotate_15 (by decide) ?_
      exact tA_L_rotate_b16 C hml hr hlocks hst ht hk  h H locs ls hR hS (lv_sub (l' := []) hl [] rfl)
    · replace h := h.2 hc103
      refine lv_lconst (v := 1) hx hb dL_rotate_11 (by decide) ?_
      refine lv_goto (tgt := 16) hx hb dL_rotate_12 (by decide) ?_
      exact tA_L_rotate_b16 C hml hr hlocks hst ht hk  h H locs ls hR hS (lv_sub (l' := []) hl [] rfl)
  · obtain ⟨hk1, hk2, h⟩ := h
    refine x_ze (x_runVT (As := [.int x1, .int x2]) (rest := [.int (0 : Int32), .ref x3]) C hml hR hS (mT_X6_rotate l gg x0 x1 x2 S hst h) b_X6_rotate q_14_2 (by rw [hK_x0]; decide) (s_E_7 hK_x0) rfl rfl rfl rfl ⟨Nat.le_of_ble_eq_true rfl, Nat.le_of_ble_eq_true rfl⟩ rfl hl.1 (Nat.le_of_ble_eq_true rfl) dL_rotate_5 ⟨hk1, hk2⟩) hS (fun E9 ce q9 S104 H locs hq hR hS hce hcv hcl => ?_)
    have hk : (kc + 1) ≤ mc ∧ (ks + 6) ≤ ms := ⟨hk1, hk2⟩
    clear h
    obtain ⟨g0, hE⟩ := hq
    rcases hE with rfl
    · have h := g0 rfl
      refine x_catch C [] ⟨0, 17, 20, 21⟩ [] (by rw [ht]; rfl) (fun z hz => absurd hz List.not_mem_nil) (by decide) (by decide) q_8_23 xe_c2 hce hcv hcl ?_
      refine lv_astore (lv' := [(4, .ref q9), (0, .ref x0), (1, .int x1), (2, .int x2), (3, .ref x3)]) hx hb dL_rotate_20 hl (by decide) rfl (fun ls hl => ?_)
      refine lv_iconst (v := 1) hx hb dL_rotate_22 (by decide) ?_
      refine W.widen (k := mc) (n := ms) hk.1 hk.2 ?_
      exact W.iret (v := (1 : Int32)) hx hb hr (fun t ht hW => ⟨⟨(1 : Int32), S104, rfl, h, x_rt ht hR⟩, hS.F ht⟩) hS.2.2 dL_rotate_23
theorem mA_L_rotate (l : Launch) (gg : sG) (mc ms : Nat) (x0 : Nat) (x1 : Int32) (x2 : Int32) (x3 : Nat) (S : sT) (hst : l.stackTraces = false) {Q : Int32 → sT → Prop} (h : wA_L_rotate mc ms x0 x1 x2 x3 S Q) : x_Mi l gg yL_rotate (x_wsH yL_rotate cL_rotate 5 (some .int) [(0, 17, 20, 21)]) (rA_L_rotate mc ms) [.ref x0, .int x1, .int x2, .ref x3] S Q mc ms := by
  refine x_ofWH (cc := cL_rotate) (own := RL) (by decide +kernel) rfl (Nat.le_of_ble_eq_true rfl) ?_
  intro p e s m args below meth c C hml hr hlocks ht H locs ls hR hS hl
  exact tA_L_rotate_b0 C hml hr hlocks hst ht ⟨Nat.zero_le _, Nat.zero_le _⟩ h H locs ls hR hS (lv_sub (l' := [(0, .ref x0), (1, .int x1), (2, .int x2), (3, .ref x3)]) hl [0, 1, 2, 3] rfl)
def wA_L_puddle_b0 (mc ms kc ks : Nat) (x0 : Nat) (x1 : Int32) (x2 : Nat) (S : sT)  (Q : Int32 → sT → Prop) : Prop :=
s_K S x0 = 8 ∧
    ((w_X6_puddle x0 x1 S (fun x102 S101 =>
    ∀ j103 : Int64, j103 = Int32.toInt64 x102 →
    s_K S101 x2 = 14 ∧
    vp_in (0 : Int32) (s_N S101 x2) ∧
    ∀ S105 : sT, S105 = s_sG S101 x2 (Int32.toNatClampNeg (0 : Int32)) j103 →
    Q (0 : Int32) S105)) ∨
    ((kc + 1) ≤ mc ∧ (ks + 6) ≤ ms ∧ wT_X6_puddle x0 x1 S (fun E9 S106 =>
    (E9 = "java/lang/IndexOutOfBoundsException" → Q (1 : Int32) S106) ∧
    (E9 = "java/lang/IllegalStateException" → Q (2 : Int32) S106) ∧
    (E9 = "java/lang/IndexOutOfBoundsException" ∨ E9 = "java/lang/IllegalStateException"))))
def wA_L_puddle (mc ms : Nat) (x0 : Nat) (x1 : Int32) (x2 : Nat) (S : sT) (Q : Int32 → sT → Prop) : Prop := wA_L_puddle_b0 mc ms 0 0 x0 x1 x2 S Q
def rA_L_puddle (mc ms : Nat) : Room := x_rm 8 135 mc ms
theorem b_L_puddle : x_BH yL_puddle cL_puddle 4 (some .int) [(0, 9, 12, 21), (0, 9, 15, 15)] 3 := ⟨q_14_13, q_14_12, q_3_22, by decide +kernel⟩
set_option maxHeartbeats 4000000 in
theorem tA_L_puddle_b0 {Q : Int32 → sT → Prop} (C : x_C p s m args c cL_puddle RL gg) (hml : c.maxLocals = 4) (hr : meth.sig.returnType = (some .int)) (hlocks : meth.locks = false) (hst : l.stackTraces = false) (ht : c.exceptionTable.toList = tableOf [(0, 9, 12, 21), (0, 9, 15, 15)]) {mc ms kc ks : Nat} (hk : kc ≤ mc ∧ ks ≤ ms) {x0 : Nat} {x1 : Int32} {x2 : Nat}  {S : sT}  (h : wA_L_puddle_b0 mc ms kc ks x0 x1 x2 S  Q) : x_X p l e (rA_L_puddle mc ms) s m args below meth c gg 4 kc ks (MQ below (va_Qi Q (fun S1 t => s_Rep gg S1 t.heap) (s_A gg)) args s mc ms (s_A gg)) 0 [(0, .ref x0), (1, .int x1), (2, .ref x2)] [] S := by
  unfold wA_L_puddle_b0 at h
  obtain ⟨hx, hb, -⟩ := id C
  intro H locs ls hR hS hl
  refine lv_aload_n hx hb dL_puddle_0 rfl (lv_at hl 2 rfl) ?_
  refine lv_iconst (v := 0) hx hb dL_puddle_1 (by decide) ?_
  refine lv_aload_n hx hb dL_puddle_2 rfl (lv_at hl 0 rfl) ?_
  refine lv_iload_n hx hb dL_puddle_3 rfl (lv_at hl 1 rfl) ?_
  obtain ⟨hK_x0, h⟩ := h
  rcases h with h | h
  · refine x_ki (x_runV (As := [.int x1]) (rest := [.int (0 : Int32), .ref x2]) C hml hR hS (m_X6_puddle l gg x0 x1 S h) b_X6_puddle q_14_14 (by rw [hK_x0]; decide) (s_E_7 hK_x0) rfl rfl rfl rfl ⟨Nat.le_of_ble_eq_true rfl, Nat.le_of_ble_eq_true rfl⟩ rfl hl.1 (Nat.le_of_ble_eq_true rfl) dL_puddle_4 ⟨hk.1, hk.2⟩) hS (fun x102 S101 H locs hn hR hS => ?_)
    replace h := hn
    clear hn
    refine lv_i2l hx hb dL_puddle_7 rfl ?_
    refine lv_topl (fun j103 ej103 => ?_)
    replace h := h j103 ej103
    obtain ⟨hK_x2, h⟩ := h
    obtain ⟨hi104, h⟩ := h
    refine x_last C hR hK_x2 hS hi104 dL_puddle_8 (fun H locs hR hS => ?_)
    obtain ⟨S105, eS105⟩ : ∃ z : sT, z = s_sG S101 x2 (Int32.toNatClampNeg (0 : Int32)) j103 := ⟨_, rfl⟩
    rw [← eS105] at hR
    replace h := h S105 eS105
    have hK_x2 : s_K S105 x2 = 14 := by rw [eS105]; exact hK_x2
    refine lv_goto (tgt := 18) hx hb dL_puddle_9 (by decide) ?_
    refine lv_iconst (v := 0) hx hb dL_puddle_18 (by decide) ?_
    refine W.widen (k := mc) (n := ms) hk.1 hk.2 ?_
    exact W.iret (v := (0 : Int32)) hx hb hr (fun t ht hW => ⟨⟨(0 : Int32), S105, rfl, h, x_rt ht hR⟩, hS.F ht⟩) hS.2.2 dL_puddle_19
  · obtain ⟨hk1, hk2, h⟩ := h
    refine x_ze (x_runVT (As := [.int x1]) (rest := [.int (0 : Int32), .ref x2]) C hml hR hS (mT_X6_puddle l gg x0 x1 S hst h) b_X6_puddle q_14_14 (by rw [hK_x0]; decide) (s_E_7 hK_x0) rfl rfl rfl rfl ⟨Nat.le_of_ble_eq_true rfl, Nat.le_of_ble_eq_true rfl⟩ rfl hl.1 (Nat.le_of_ble_eq_true rfl) dL_puddle_4 ⟨hk1, hk2⟩) hS (fun E9 ce q9 S106 H locs hq hR hS hce hcv hcl => ?_)
    have hk : (kc + 1) ≤ mc ∧ (ks + 6) ≤ ms := ⟨hk1, hk2⟩
    clear h
    obtain ⟨g0, g1, hE⟩ := hq
    rcases hE with rfl | rfl
    · have h := g0 rfl
      refine x_catch C [] ⟨0, 9, 12, 21⟩ [⟨0, 9, 15, 15⟩] (by rw [ht]; rfl) (fun z hz => absurd hz List.not_mem_nil) (by decide) (by decide) q_8_23 xe_c2 hce hcv hcl ?_
      refine lv_astore_n (lv' := [(3, .ref q9), (0, .ref x0), (1, .int x1), (2, .ref x2)]) hx hb dL_puddle_12 rfl hl (by decide) rfl (fun ls hl => ?_)
      refine lv_iconst (v := 1) hx hb dL_puddle_13 (by decide) ?_
      refine W.widen (k := mc) (n := ms) hk.1 hk.2 ?_
      exact W.iret (v := (1 : Int32)) hx hb hr (fun t ht hW => ⟨⟨(1 : Int32), S106, rfl, h, x_rt ht hR⟩, hS.F ht⟩) hS.2.2 dL_puddle_14
    · have h := g1 rfl
      refine x_catch C [⟨0, 9, 12, 21⟩] ⟨0, 9, 15, 15⟩ [] (by rw [ht]; rfl) (fun z hz => by
          simp only [List.mem_cons, List.not_mem_nil, or_false] at hz
          rcases hz with rfl
          · exact ⟨by decide, _, q_8_23, xe_n12⟩) (by decide) (by decide) q_4_1 xe_c1 hce hcv hcl ?_
      refine lv_astore_n (lv' := [(3, .ref q9), (0, .ref x0), (1, .int x1), (2, .ref x2)]) hx hb dL_puddle_15 rfl hl (by decide) rfl (fun ls hl => ?_)
      refine lv_iconst (v := 2) hx hb dL_puddle_16 (by decide) ?_
      refine W.widen (k := mc) (n := ms) hk.1 hk.2 ?_
      exact W.iret (v := (2 : Int32)) hx hb hr (fun t ht hW => ⟨⟨(2 : Int32), S106, rfl, h, x_rt ht hR⟩, hS.F ht⟩) hS.2.2 dL_puddle_17
theorem mA_L_puddle (l : Launch) (gg : sG) (mc ms : Nat) (x0 : Nat) (x1 : Int32) (x2 : Nat) (S : sT) (hst : l.stackTraces = false) {Q : Int32 → sT → Prop} (h : wA_L_puddle mc ms x0 x1 x2 S Q) : x_Mi l gg yL_puddle (x_wsH yL_puddle cL_puddle 4 (some .int) [(0, 9, 12, 21), (0, 9, 15, 15)]) (rA_L_puddle mc ms) [.ref x0, .int x1, .ref x2] S Q mc ms := by
  refine x_ofWH (cc := cL_puddle) (own := RL) (by decide +kernel) rfl (Nat.le_of_ble_eq_true rfl) ?_
  intro p e s m args below meth c C hml hr hlocks ht H locs ls hR hS hl
  exact tA_L_puddle_b0 C hml hr hlocks hst ht ⟨Nat.zero_le _, Nat.zero_le _⟩ h H locs ls hR hS (lv_sub (l' := [(0, .ref x0), (1, .int x1), (2, .ref x2)]) hl [0, 1, 2] rfl)
def wA_L_plant_b0 (mc ms kc ks : Nat) (x0 : Nat) (x1 : Int32) (x2 : Int32) (x3 : Nat) (S : sT)  (Q : Int32 → sT → Prop) : Prop :=
s_K S x0 = 8 ∧
    ((w_X6_plant x0 x1 x2 S (fun x102 S101 =>
    ∀ j103 : Int64, j103 = Int32.toInt64 x102 →
    s_K S101 x3 = 14 ∧
    vp_in (0 : Int32) (s_N S101 x3) ∧
    ∀ S105 : sT, S105 = s_sG S101 x3 (Int32.toNatClampNeg (0 : Int32)) j103 →
    Q (0 : Int32) S105)) ∨
    ((kc + 1) ≤ mc ∧ (ks + 6) ≤ ms ∧ wT_X6_plant x0 x1 x2 S (fun E9 S106 =>
    (E9 = "java/lang/IndexOutOfBoundsException" → Q (1 : Int32) S106) ∧
    (E9 = "java/lang/IllegalArgumentException" → Q (2 : Int32) S106) ∧
    (E9 = "java/lang/IllegalStateException" → Q (3 : Int32) S106) ∧
    (E9 = "java/lang/IndexOutOfBoundsException" ∨ E9 = "java/lang/IllegalArgumentException" ∨ E9 = "java/lang/IllegalStateException"))))
def wA_L_plant (mc ms : Nat) (x0 : Nat) (x1 : Int32) (x2 : Int32) (x3 : Nat) (S : sT) (Q : Int32 → sT → Prop) : Prop := wA_L_plant_b0 mc ms 0 0 x0 x1 x2 x3 S Q
def rA_L_plant (mc ms : Nat) : Room := x_rm 8 136 mc ms
theorem b_L_plant : x_BH yL_plant cL_plant 5 (some .int) [(0, 10, 13, 21), (0, 10, 17, 13), (0, 10, 21, 15)] 4 := ⟨q_15_4, q_15_3, q_3_22, by decide +kernel⟩
set_option maxHeartbeats 4000000 in
theorem tA_L_plant_b0 {Q : Int32 → sT → Prop} (C : x_C p s m args c cL_plant RL gg) (hml : c.maxLocals = 5) (hr : meth.sig.returnType = (some .int)) (hlocks : meth.locks = false) (hst : l.stackTraces = false) (ht : c.exceptionTable.toList = tableOf [(0, 10, 13, 21), (0, 10, 17, 13), (0, 10, 21, 15)]) {mc ms kc ks : Nat} (hk : kc ≤ mc ∧ ks ≤ ms) {x0 : Nat} {x1 : Int32} {x2 : Int32} {x3 : Nat}  {S : sT}  (h : wA_L_plant_b0 mc ms kc ks x0 x1 x2 x3 S  Q) : x_X p l e (rA_L_plant mc ms) s m args below meth c gg 5 kc ks (MQ below (va_Qi Q (fun S1 t => s_Rep gg S1 t.heap) (s_A gg)) args s mc ms (s_A gg)) 0 [(0, .ref x0), (1, .int x1), (2, .int x2), (3, .ref x3)] [] S := by
  unfold wA_L_plant_b0 at h
  obtain ⟨hx, hb, -⟩ := id C
  intro H locs ls hR hS hl
  refine lv_aload_n hx hb dL_plant_0 rfl (lv_at hl 3 rfl) ?_
  refine lv_iconst (v := 0) hx hb dL_plant_1 (by decide) ?_
  refine lv_aload_n hx hb dL_plant_2 rfl (lv_at hl 0 rfl) ?_
  refine lv_iload_n hx hb dL_plant_3 rfl (lv_at hl 1 rfl) ?_
  refine lv_iload_n hx hb dL_plant_4 rfl (lv_at hl 2 rfl) ?_
  obtain ⟨hK_x0, h⟩ := h
  rcases h with h | h
  · refine x_ki (x_runV (As := [.int x1, .int x2]) (rest := [.int (0 : Int32), .ref x3]) C hml hR hS (m_X6_plant l gg x0 x1 x2 S h) b_X6_plant q_15_5 (by rw [hK_x0]; decide) (s_E_7 hK_x0) rfl rfl rfl rfl ⟨Nat.le_of_ble_eq_true rfl, Nat.le_of_ble_eq_true rfl⟩ rfl hl.1 (Nat.le_of_ble_eq_true rfl) dL_plant_5 ⟨hk.1, hk.2⟩) hS (fun x102 S101 H locs hn hR hS => ?_)
    replace h := hn
    clear hn
    refine lv_i2l hx hb dL_plant_8 rfl ?_
    refine lv_topl (fun j103 ej103 => ?_)
    replace h := h j103 ej103
    obtain ⟨hK_x3, h⟩ := h
    obtain ⟨hi104, h⟩ := h
    refine x_last C hR hK_x3 hS hi104 dL_plant_9 (fun H locs hR hS => ?_)
    obtain ⟨S105, eS105⟩ : ∃ z : sT, z = s_sG S101 x3 (Int32.toNatClampNeg (0 : Int32)) j103 := ⟨_, rfl⟩
    rw [← eS105] at hR
    replace h := h S105 eS105
    have hK_x3 : s_K S105 x3 = 14 := by rw [eS105]; exact hK_x3
    refine lv_goto (tgt := 25) hx hb dL_plant_10 (by decide) ?_
    refine lv_iconst (v := 0) hx hb dL_plant_25 (by decide) ?_
    refine W.widen (k := mc) (n := ms) hk.1 hk.2 ?_
    exact W.iret (v := (0 : Int32)) hx hb hr (fun t ht hW => ⟨⟨(0 : Int32), S105, rfl, h, x_rt ht hR⟩, hS.F ht⟩) hS.2.2 dL_plant_26
  · obtain ⟨hk1, hk2, h⟩ := h
    refine x_ze (x_runVT (As := [.int x1, .int x2]) (rest := [.int (0 : Int32), .ref x3]) C hml hR hS (mT_X6_plant l gg x0 x1 x2 S hst h) b_X6_plant q_15_5 (by rw [hK_x0]; decide) (s_E_7 hK_x0) rfl rfl rfl rfl ⟨Nat.le_of_ble_eq_true rfl, Nat.le_of_ble_eq_true rfl⟩ rfl hl.1 (Nat.le_of_ble_eq_true rfl) dL_plant_5 ⟨hk1, hk2⟩) hS (fun E9 ce q9 S106 H locs hq hR hS hce hcv hcl => ?_)
    have hk : (kc + 1) ≤ mc ∧ (ks + 6) ≤ ms := ⟨hk1, hk2⟩
    clear h
    obtain ⟨g0, g1, g2, hE⟩ := hq
    rcases hE with rfl | rfl | rfl
    · have h := g0 rfl
      refine x_catch C [] ⟨0, 10, 13, 21⟩ [⟨0, 10, 17, 13⟩, ⟨0, 10, 21, 15⟩] (by rw [ht]; rfl) (fun z hz => absurd hz List.not_mem_nil) (by decide) (by decide) q_8_23 xe_c2 hce hcv hcl ?_
      refine lv_astore (lv' := [(4, .ref q9), (0, .ref x0), (1, .int x1), (2, .int x2), (3, .ref x3)]) hx hb dL_plant_13 hl (by decide) rfl (fun ls hl => ?_)
      refine lv_iconst (v := 1) hx hb dL_plant_15 (by decide) ?_
      refine W.widen (k := mc) (n := ms) hk.1 hk.2 ?_
      exact W.iret (v := (1 : Int32)) hx hb hr (fun t ht hW => ⟨⟨(1 : Int32), S106, rfl, h, x_rt ht hR⟩, hS.F ht⟩) hS.2.2 dL_plant_16
    · have h := g1 rfl
      refine x_catch C [⟨0, 10, 13, 21⟩] ⟨0, 10, 17, 13⟩ [⟨0, 10, 21, 15⟩] (by rw [ht]; rfl) (fun z hz => by
          simp only [List.mem_cons, List.not_mem_nil, or_false] at hz
          rcases hz with rfl
          · exact ⟨by decide, _, q_8_23, xe_n02⟩) (by decide) (by decide) q_4_0 xe_c0 hce hcv hcl ?_
      refine lv_astore (lv' := [(4, .ref q9), (0, .ref x0), (1, .int x1), (2, .int x2), (3, .ref x3)]) hx hb dL_plant_17 hl (by decide) rfl (fun ls hl => ?_)
      refine lv_iconst (v := 2) hx hb dL_plant_19 (by decide) ?_
      refine W.widen (k := mc) (n := ms) hk.1 hk.2 ?_
      exact W.iret (v := (2 : Int32)) hx hb hr (fun t ht hW => ⟨⟨(2 : Int32), S106, rfl, h, x_rt ht hR⟩, hS.F ht⟩) hS.2.2 dL_plant_20
    · have h := g2 rfl
      refine x_catch C [⟨0, 10, 13, 21⟩, ⟨0, 10, 17, 13⟩] ⟨0, 10, 21, 15⟩ [] (by rw [ht]; rfl) (fun z hz => by
          simp only [List.mem_cons, List.not_mem_nil, or_false] at hz
          rcases hz with rfl | rfl
          · exact ⟨by decide, _, q_8_23, xe_n12⟩
          · exact ⟨by decide, _, q_4_0, xe_n10⟩) (by decide) (by decide) q_4_1 xe_c1 hce hcv hcl ?_
      refine lv_astore (lv' := [(4, .ref q9), (0, .ref x0), (1, .int x1), (2, .int x2), (3, .ref x3)]) hx hb dL_plant_21 hl (by decide) rfl (fun ls hl => ?_)
      refine lv_iconst (v := 3) hx hb dL_plant_23 (by decide) ?_
      refine W.widen (k := mc) (n := ms) hk.1 hk.2 ?_
      exact W.iret (v := (3 : Int32)) hx hb hr (fun t ht hW => ⟨⟨(3 : Int32), S106, rfl, h, x_rt ht hR⟩, hS.F ht⟩) hS.2.2 dL_plant_24
theorem mA_L_plant (l : Launch) (gg : sG) (mc ms : Nat) (x0 : Nat) (x1 : Int32) (x2 : Int32) (x3 : Nat) (S : sT) (hst : l.stackTraces = false) {Q : Int32 → sT → Prop} (h : wA_L_plant mc ms x0 x1 x2 x3 S Q) : x_Mi l gg yL_plant (x_wsH yL_plant cL_plant 5 (some .int) [(0, 10, 13, 21), (0, 10, 17, 13), (0, 10, 21, 15)]) (rA_L_plant mc ms) [.ref x0, .int x1, .int x2, .ref x3] S Q mc ms := by
  refine x_ofWH (cc := cL_plant) (own := RL) (by decide +kernel) rfl (Nat.le_of_ble_eq_true rfl) ?_
  intro p e s m args below meth c C hml hr hlocks ht H locs ls hR hS hl
  exact tA_L_plant_b0 C hml hr hlocks hst ht ⟨Nat.zero_le _, Nat.zero_le _⟩ h H locs ls hR hS (lv_sub (l' := [(0, .ref x0), (1, .int x1), (2, .int x2), (3, .ref x3)]) hl [0, 1, 2, 3] rfl)
def wA_L_help_b0 (mc ms kc ks : Nat) (x0 : Nat) (x1 : Int32) (x2 : Int32) (x3 : Nat) (S : sT)  (Q : Int32 → sT → Prop) : Prop :=
s_K S x0 = 8 ∧
    ((w_X6_help x0 x1 x2 S (fun x102 S101 =>
    ∀ j103 : Int64, j103 = Int32.toInt64 x102 →
    s_K S101 x3 = 14 ∧
    vp_in (0 : Int32) (s_N S101 x3) ∧
    ∀ S105 : sT, S105 = s_sG S101 x3 (Int32.toNatClampNeg (0 : Int32)) j103 →
    Q (0 : Int32) S105)) ∨
    ((kc + 1) ≤ mc ∧ (ks + 6) ≤ ms ∧ wT_X6_help x0 x1 x2 S (fun E9 S106 =>
    (E9 = "java/lang/IndexOutOfBoundsException" → Q (1 : Int32) S106) ∧
    (E9 = "java/lang/IndexOutOfBoundsException"))))
def wA_L_help (mc ms : Nat) (x0 : Nat) (x1 : Int32) (x2 : Int32) (x3 : Nat) (S : sT) (Q : Int32 → sT → Prop) : Prop := wA_L_help_b0 mc ms 0 0 x0 x1 x2 x3 S Q
def rA_L_help (mc ms : Nat) : Room := x_rm 8 137 mc ms
theorem b_L_help : x_BH yL_help cL_help 5 (some .int) [(0, 10, 13, 21)] 4 := ⟨q_16_16, q_16_15, q_3_22, by decide +kernel⟩
set_option maxHeartbeats 4000000 in
theorem tA_L_help_b0 {Q : Int32 → sT → Prop} (C : x_C p s m args c cL_help RL gg) (hml : c.maxLocals = 5) (hr : meth.sig.returnType = (some .int)) (hlocks : meth.locks = false) (hst : l.stackTraces = false) (ht : c.exceptionTable.toList = tableOf [(0, 10, 13, 21)]) {mc ms kc ks : Nat} (hk : kc ≤ mc ∧ ks ≤ ms) {x0 : Nat} {x1 : Int32} {x2 : Int32} {x3 : Nat}  {S : sT}  (h : wA_L_help_b0 mc ms kc ks x0 x1 x2 x3 S  Q) : x_X p l e (rA_L_help mc ms) s m args below meth c gg 5 kc ks (MQ below (va_Qi Q (fun S1 t => s_Rep gg S1 t.heap) (s_A gg)) args s mc ms (s_A gg)) 0 [(0, .ref x0), (1, .int x1), (2, .int x2), (3, .ref x3)] [] S := by
  unfold wA_L_help_b0 at h
  obtain ⟨hx, hb, -⟩ := id C
  intro H locs ls hR hS hl
  refine lv_aload_n hx hb dL_help_0 rfl (lv_at hl 3 rfl) ?_
  refine lv_iconst (v := 0) hx hb dL_help_1 (by decide) ?_
  refine lv_aload_n hx hb dL_help_2 rfl (lv_at hl 0 rfl) ?_
  refine lv_iload_n hx hb dL_help_3 rfl (lv_at hl 1 rfl) ?_
  refine lv_iload_n hx hb dL_help_4 rfl (lv_at hl 2 rfl) ?_
  obtain ⟨hK_x0, h⟩ := h
  rcases h with h | h
  · refine x_ki (x_runV (As := [.int x1, .int x2]) (rest := [.int (0 : Int32), .ref x3]) C hml hR hS (m_X6_help l gg x0 x1 x2 S h) b_X6_help q_16_17 (by rw [hK_x0]; decide) (s_E_7 hK_x0) rfl rfl rfl rfl ⟨Nat.le_of_ble_eq_true rfl, Nat.le_of_ble_eq_true rfl⟩ rfl hl.1 (Nat.le_of_ble_eq_true rfl) dL_help_5 ⟨hk.1, hk.2⟩) hS (fun x102 S101 H locs hn hR hS => ?_)
    replace h := hn
    clear hn
    refine lv_i2l hx hb dL_help_8 rfl ?_
    refine lv_topl (fun j103 ej103 => ?_)
    replace h := h j103 ej103
    obtain ⟨hK_x3, h⟩ := h
    obtain ⟨hi104, h⟩ := h
    refine x_last C hR hK_x3 hS hi104 dL_help_9 (fun H locs hR hS => ?_)
    obtain ⟨S105, eS105⟩ : ∃ z : sT, z = s_sG S101 x3 (Int32.toNatClampNeg (0 : Int32)) j103 := ⟨_, rfl⟩
    rw [← eS105] at hR
    replace h := h S105 eS105
    have hK_x3 : s_K S105 x3 = 14 := by rw [eS105]; exact hK_x3
    refine lv_goto (tgt := 17) hx hb dL_help_10 (by decide) ?_
    refine lv_iconst (v := 0) hx hb dL_help_17 (by decide) ?_
    refine W.widen (k := mc) (n := ms) hk.1 hk.2 ?_
    exact W.iret (v := (0 : Int32)) hx hb hr (fun t ht hW => ⟨⟨(0 : Int32), S105, rfl, h, x_rt ht hR⟩, hS.F ht⟩) hS.2.2 dL_help_18
  · obtain ⟨hk1, hk2, h⟩ := h
    refine x_ze (x_runVT (As := [.int x1, .int x2]) (rest := [.int (0 : Int32), .ref x3]) C hml hR hS (mT_X6_help l gg x0 x1 x2 S hst h) b_X6_help q_16_17 (by rw [hK_x0]; decide) (s_E_7 hK_x0) rfl rfl rfl rfl ⟨Nat.le_of_ble_eq_true rfl, Nat.le_of_ble_eq_true rfl⟩ rfl hl.1 (Nat.le_of_ble_eq_true rfl) dL_help_5 ⟨hk1, hk2⟩) hS (fun E9 ce q9 S106 H locs hq hR hS hce hcv hcl => ?_)
    have hk : (kc + 1) ≤ mc ∧ (ks + 6) ≤ ms := ⟨hk1, hk2⟩
    clear h
    obtain ⟨g0, hE⟩ := hq
    rcases hE with rfl
    · have h := g0 rfl
      refine x_catch C [] ⟨0, 10, 13, 21⟩ [] (by rw [ht]; rfl) (fun z hz => absurd hz List.not_mem_nil) (by decide) (by decide) q_8_23 xe_c2 hce hcv hcl ?_
      refine lv_astore (lv' := [(4, .ref q9), (0, .ref x0), (1, .int x1), (2, .int x2), (3, .ref x3)]) hx hb dL_help_13 hl (by decide) rfl (fun ls hl => ?_)
      refine lv_iconst (v := 1) hx hb dL_help_15 (by decide) ?_
      refine W.widen (k := mc) (n := ms) hk.1 hk.2 ?_
      exact W.iret (v := (1 : Int32)) hx hb hr (fun t ht hW => ⟨⟨(1 : Int32), S106, rfl, h, x_rt ht hR⟩, hS.F ht⟩) hS.2.2 dL_help_16
theorem mA_L_help (l : Launch) (gg : sG) (mc ms : Nat) (x0 : Nat) (x1 : Int32) (x2 : Int32) (x3 : Nat) (S : sT) (hst : l.stackTraces = false) {Q : Int32 → sT → Prop} (h : wA_L_help mc ms x0 x1 x2 x3 S Q) : x_Mi l gg yL_help (x_wsH yL_help cL_help 5 (some .int) [(0, 10, 13, 21)]) (rA_L_help mc ms) [.ref x0, .int x1, .int x2, .ref x3] S Q mc ms := by
  refine x_ofWH (cc := cL_help) (own := RL) (by decide +kernel) rfl (Nat.le_of_ble_eq_true rfl) ?_
  intro p e s m args below meth c C hml hr hlocks ht H locs ls hR hS hl
  exact tA_L_help_b0 C hml hr hlocks hst ht ⟨Nat.zero_le _, Nat.zero_le _⟩ h H locs ls hR hS (lv_sub (l' := [(0, .ref x0), (1, .int x1), (2, .int x2), (3, .ref x3)]) hl [0, 1, 2, 3] rfl)
def wA_L_ducks_b0 (mc ms kc ks : Nat) (x0 : Nat) (x1 : Int32) (x2 : Int32) (x3 : Nat) (S : sT)  (Q : Int32 → sT → Prop) : Prop :=
s_K S x0 = 8 ∧
    ((w_X6_ducks x0 x1 x2 S (fun x102 S101 =>
    ∀ j103 : Int64, j103 = Int32.toInt64 x102 →
    s_K S101 x3 = 14 ∧
    vp_in (0 : Int32) (s_N S101 x3) ∧
    ∀ S105 : sT, S105 = s_sG S101 x3 (Int32.toNatClampNeg (0 : Int32)) j103 →
    Q (0 : Int32) S105)) ∨
    ((kc + 1) ≤ mc ∧ (ks + 6) ≤ ms ∧ wT_X6_ducks x0 x1 x2 S (fun E9 S106 =>
    (E9 = "java/lang/IndexOutOfBoundsException" → Q (1 : Int32) S106) ∧
    (E9 = "java/lang/IndexOutOfBoundsException"))))
def wA_L_ducks (mc ms : Nat) (x0 : Nat) (x1 : Int32) (x2 : Int32) (x3 : Nat) (S : sT) (Q : Int32 → sT → Prop) : Prop := wA_L_ducks_b0 mc ms 0 0 x0 x1 x2 x3 S Q
def rA_L_ducks (mc ms : Nat) : Room := x_rm 8 136 mc ms
theorem b_L_ducks : x_BH yL_ducks cL_ducks 5 (some .int) [(0, 10, 13, 21)] 4 := ⟨q_17_5, q_17_4, q_3_22, by decide +kernel⟩
set_option maxHeartbeats 4000000 in
theorem tA_L_ducks_b0 {Q : Int32 → sT → Prop} (C : x_C p s m args c cL_ducks RL gg) (hml : c.maxLocals = 5) (hr : meth.sig.returnType = (some .int)) (hlocks : meth.locks = false) (hst : l.stackTraces = false) (ht : c.exceptionTable.toList = tableOf [(0, 10, 13, 21)]) {mc ms kc ks : Nat} (hk : kc ≤ mc ∧ ks ≤ ms) {x0 : Nat} {x1 : Int32} {x2 : Int32} {x3 : Nat}  {S : sT}  (h : wA_L_ducks_b0 mc ms kc ks x0 x1 x2 x3 S  Q) : x_X p l e (rA_L_ducks mc ms) s m args below meth c gg 5 kc ks (MQ below (va_Qi Q (fun S1 t => s_Rep gg S1 t.heap) (s_A gg)) args s mc ms (s_A gg)) 0 [(0, .ref x0), (1, .int x1), (2, .int x2), (3, .ref x3)] [] S := by
  unfold wA_L_ducks_b0 at h
  obtain ⟨hx, hb, -⟩ := id C
  intro H locs ls hR hS hl
  refine lv_aload_n hx hb dL_ducks_0 rfl (lv_at hl 3 rfl) ?_
  refine lv_iconst (v := 0) hx hb dL_ducks_1 (by decide) ?_
  refine lv_aload_n hx hb dL_ducks_2 rfl (lv_at hl 0 rfl) ?_
  refine lv_iload_n hx hb dL_ducks_3 rfl (lv_at hl 1 rfl) ?_
  refine lv_iload_n hx hb dL_ducks_4 rfl (lv_at hl 2 rfl) ?_
  obtain ⟨hK_x0, h⟩ := h
  rcases h with h | h
  · refine x_ki (x_runV (As := [.int x1, .int x2]) (rest := [.int (0 : Int32), .ref x3]) C hml hR hS (m_X6_ducks l gg x0 x1 x2 S h) b_X6_ducks q_17_6 (by rw [hK_x0]; decide) (s_E_7 hK_x0) rfl rfl rfl rfl ⟨Nat.le_of_ble_eq_true rfl, Nat.le_of_ble_eq_true rfl⟩ rfl hl.1 (Nat.le_of_ble_eq_true rfl) dL_ducks_5 ⟨hk.1, hk.2⟩) hS (fun x102 S101 H locs hn hR hS => ?_)
    replace h := hn
    clear hn
    refine lv_i2l hx hb dL_ducks_8 rfl ?_
    refine lv_topl (fun j103 ej103 => ?_)
    replace h := h j103 ej103
    obtain ⟨hK_x3, h⟩ := h
    obtain ⟨hi104, h⟩ := h
    refine x_last C hR hK_x3 hS hi104 dL_ducks_9 (fun H locs hR hS => ?_)
    obtain ⟨S105, eS105⟩ : ∃ z : sT, z = s_sG S101 x3 (Int32.toNatClampNeg (0 : Int32)) j103 := ⟨_, rfl⟩
    rw [← eS105] at hR
    replace h := h S105 eS105
    have hK_x3 : s_K S105 x3 = 14 := by rw [eS105]; exact hK_x3
    refine lv_goto (tgt := 17) hx hb dL_ducks_10 (by decide) ?_
    refine lv_iconst (v := 0) hx hb dL_ducks_17 (by decide) ?_
    refine W.widen (k := mc) (n := ms) hk.1 hk.2 ?_
    exact W.iret (v := (0 : Int32)) hx hb hr (fun t ht hW => ⟨⟨(0 : Int32), S105, rfl, h, x_rt ht hR⟩, hS.F ht⟩) hS.2.2 dL_ducks_18
  · obtain ⟨hk1, hk2, h⟩ := h
    refine x_ze (x_runVT (As := [.int x1, .int x2]) (rest := [.int (0 : Int32), .ref x3]) C hml hR hS (mT_X6_ducks l gg x0 x1 x2 S hst h) b_X6_ducks q_17_6 (by rw [hK_x0]; decide) (s_E_7 hK_x0) rfl rfl rfl rfl ⟨Nat.le_of_ble_eq_true rfl, Nat.le_of_ble_eq_true rfl⟩ rfl hl.1 (Nat.le_of_ble_eq_true rfl) dL_ducks_5 ⟨hk1, hk2⟩) hS (fun E9 ce q9 S106 H locs hq hR hS hce hcv hcl => ?_)
    have hk : (kc + 1) ≤ mc ∧ (ks + 6) ≤ ms := ⟨hk1, hk2⟩
    clear h
    obtain ⟨g0, hE⟩ := hq
    rcases hE with rfl
    · have h := g0 rfl
      refine x_catch C [] ⟨0, 10, 13, 21⟩ [] (by rw [ht]; rfl) (fun z hz => absurd hz List.not_mem_nil) (by decide) (by decide) q_8_23 xe_c2 hce hcv hcl ?_
      refine lv_astore (lv' := [(4, .ref q9), (0, .ref x0), (1, .int x1), (2, .int x2), (3, .ref x3)]) hx hb dL_ducks_13 hl (by decide) rfl (fun ls hl => ?_)
      refine lv_iconst (v := 1) hx hb dL_ducks_15 (by decide) ?_
      refine W.widen (k := mc) (n := ms) hk.1 hk.2 ?_
      exact W.iret (v := (1 : Int32)) hx hb hr (fun t ht hW => ⟨⟨(1 : Int32), S106, rfl, h, x_rt ht hR⟩, hS.F ht⟩) hS.2.2 dL_ducks_16
theorem mA_L_ducks (l : Launch) (gg : sG) (mc ms : Nat) (x0 : Nat) (x1 : Int32) (x2 : Int32) (x3 : Nat) (S : sT) (hst : l.stackTraces = false) {Q : Int32 → sT → Prop} (h : wA_L_ducks mc ms x0 x1 x2 x3 S Q) : x_Mi l gg yL_ducks (x_wsH yL_ducks cL_ducks 5 (some .int) [(0, 10, 13, 21)]) (rA_L_ducks mc ms) [.ref x0, .int x1, .int x2, .ref x3] S Q mc ms := by
  refine x_ofWH (cc := cL_ducks) (own := RL) (by decide +kernel) rfl (Nat.le_of_ble_eq_true rfl) ?_
  intro p e s m args below meth c C hml hr hlocks ht H locs ls hR hS hl
  exact tA_L_ducks_b0 C hml hr hlocks hst ht ⟨Nat.zero_le _, Nat.zero_le _⟩ h H locs ls hR hS (lv_sub (l' := [(0, .ref x0), (1, .int x1), (2, .int x2), (3, .ref x3)]) hl [0, 1, 2, 3] rfl)
def wA_L_harvest_b0 (mc ms kc ks : Nat) (x0 : Nat) (x1 : Int32) (x2 : Int32) (x3 : Nat) (S : sT)  (Q : Int32 → sT → Prop) : Prop :=
s_K S x0 = 8 ∧
    ((w_X6_harvest x0 x1 x2 S (fun x102 S101 =>
    ∀ j103 : Int64, j103 = Int32.toInt64 x102 →
    s_K S101 x3 = 14 ∧
    vp_in (0 : Int32) (s_N S101 x3) ∧
    ∀ S105 : sT, S105 = s_sG S101 x3 (Int32.toNatClampNeg (0 : Int32)) j103 →
    Q (0 : Int32) S105)) ∨
    ((kc + 1) ≤ mc ∧ (ks + 6) ≤ ms ∧ wT_X6_harvest x0 x1 x2 S (fun E9 S106 =>
    (E9 = "java/lang/IndexOutOfBoundsException" → Q (1 : Int32) S106) ∧
    (E9 = "java/lang/IllegalStateException" → Q (2 : Int32) S106) ∧
    (E9 = "java/lang/IndexOutOfBoundsException" ∨ E9 = "java/lang/IllegalStateException"))))
def wA_L_harvest (mc ms : Nat) (x0 : Nat) (x1 : Int32) (x2 : Int32) (x3 : Nat) (S : sT) (Q : Int32 → sT → Prop) : Prop := wA_L_harvest_b0 mc ms 0 0 x0 x1 x2 x3 S Q
def rA_L_harvest (mc ms : Nat) : Room := x_rm 9 160 mc ms
theorem b_L_harvest : x_BH yL_harvest cL_harvest 5 (some .int) [(0, 10, 13, 21), (0, 10, 17, 15)] 4 := ⟨q_17_18, q_17_17, q_3_22, by decide +kernel⟩
set_option maxHeartbeats 4000000 in
theorem tA_L_harvest_b0 {Q : Int32 → sT → Prop} (C : x_C p s m args c cL_harvest RL gg) (hml : c.maxLocals = 5) (hr : meth.sig.returnType = (some .int)) (hlocks : meth.locks = false) (hst : l.stackTraces = false) (ht : c.exceptionTable.toList = tableOf [(0, 10, 13, 21), (0, 10, 17, 15)]) {mc ms kc ks : Nat} (hk : kc ≤ mc ∧ ks ≤ ms) {x0 : Nat} {x1 : Int32} {x2 : Int32} {x3 : Nat}  {S : sT}  (h : wA_L_harvest_b0 mc ms kc ks x0 x1 x2 x3 S  Q) : x_X p l e (rA_L_harvest mc ms) s m args below meth c gg 5 kc ks (MQ below (va_Qi Q (fun S1 t => s_Rep gg S1 t.heap) (s_A gg)) args s mc ms (s_A gg)) 0 [(0, .ref x0), (1, .int x1), (2, .int x2), (3, .ref x3)] [] S := by
  unfold wA_L_harvest_b0 at h
  obtain ⟨hx, hb, -⟩ := id C
  intro H locs ls hR hS hl
  refine lv_aload_n hx hb dL_harvest_0 rfl (lv_at hl 3 rfl) ?_
  refine lv_iconst (v := 0) hx hb dL_harvest_1 (by decide) ?_
  refine lv_aload_n hx hb dL_harvest_2 rfl (lv_at hl 0 rfl) ?_
  refine lv_iload_n hx hb dL_harvest_3 rfl (lv_at hl 1 rfl) ?_
  refine lv_iload_n hx hb dL_harvest_4 rfl (lv_at hl 2 rfl) ?_
  obtain ⟨hK_x0, h⟩ := h
  rcases h with h | h
  · refine x_ki (x_runV (As := [.int x1, .int x2]) (rest := [.int (0 : Int32), .ref x3]) C hml hR hS (m_X6_harvest l gg x0 x1 x2 S h) b_X6_harvest q_17_19 (by rw [hK_x0]; decide) (s_E_7 hK_x0) rfl rfl rfl rfl ⟨Nat.le_of_ble_eq_true rfl, Nat.le_of_ble_eq_true rfl⟩ rfl hl.1 (Nat.le_of_ble_eq_true rfl) dL_harvest_5 ⟨hk.1, hk.2⟩) hS (fun x102 S101 H locs hn hR hS => ?_)
    replace h := hn
    clear hn
    refine lv_i2l hx hb dL_harvest_8 rfl ?_
    refine lv_topl (fun j103 ej103 => ?_)
    replace h := h j103 ej103
    obtain ⟨hK_x3, h⟩ := h
    obtain ⟨hi104, h⟩ := h
    refine x_last C hR hK_x3 hS hi104 dL_harvest_9 (fun H locs hR hS => ?_)
    obtain ⟨S105, eS105⟩ : ∃ z : sT, z = s_sG S101 x3 (Int32.toNatClampNeg (0 : Int32)) j103 := ⟨_, rfl⟩
    rw [← eS105] at hR
    replace h := h S105 eS105
    have hK_x3 : s_K S105 x3 = 14 := by rw [eS105]; exact hK_x3
    refine lv_goto (tgt := 21) hx hb dL_harvest_10 (by decide) ?_
    refine lv_iconst (v := 0) hx hb dL_harvest_21 (by decide) ?_
    refine W.widen (k := mc) (n := ms) hk.1 hk.2 ?_
    exact W.iret (v := (0 : Int32)) hx hb hr (fun t ht hW => ⟨⟨(0 : Int32), S105, rfl, h, x_rt ht hR⟩, hS.F ht⟩) hS.2.2 dL_harvest_22
  · obtain ⟨hk1, hk2, h⟩ := h
    refine x_ze (x_runVT (As := [.int x1, .int x2]) (rest := [.int (0 : Int32), .ref x3]) C hml hR hS (mT_X6_harvest l gg x0 x1 x2 S hst h) b_X6_harvest q_17_19 (by rw [hK_x0]; decide) (s_E_7 hK_x0) rfl rfl rfl rfl ⟨Nat.le_of_ble_eq_true rfl, Nat.le_of_ble_eq_true rfl⟩ rfl hl.1 (Nat.le_of_ble_eq_true rfl) dL_harvest_5 ⟨hk1, hk2⟩) hS (fun E9 ce q9 S106 H locs hq hR hS hce hcv hcl => ?_)
    have hk : (kc + 1) ≤ mc ∧ (ks + 6) ≤ ms := ⟨hk1, hk2⟩
    clear h
    obtain ⟨g0, g1, hE⟩ := hq
    rcases hE with rfl | rfl
    · have h := g0 rfl
      refine x_catch C [] ⟨0, 10, 13, 21⟩ [⟨0, 10, 17, 15⟩] (by rw [ht]; rfl) (fun z hz => absurd hz List.not_mem_nil) (by decide) (by decide) q_8_23 xe_c2 hce hcv hcl ?_
      refine lv_astore (lv' := [(4, .ref q9), (0, .ref x0), (1, .int x1), (2, .int x2), (3, .ref x3)]) hx hb dL_harvest_13 hl (by decide) rfl (fun ls hl => ?_)
      refine lv_iconst (v := 1) hx hb dL_harvest_15 (by decide) ?_
      refine W.widen (k := mc) (n := ms) hk.1 hk.2 ?_
      exact W.iret (v := (1 : Int32)) hx hb hr (fun t ht hW => ⟨⟨(1 : Int32), S106, rfl, h, x_rt ht hR⟩, hS.F ht⟩) hS.2.2 dL_harvest_16
    · have h := g1 rfl
      refine x_catch C [⟨0, 10, 13, 21⟩] ⟨0, 10, 17, 15⟩ [] (by rw [ht]; rfl) (fun z hz => by
          simp only [List.mem_cons, List.not_mem_nil, or_false] at hz
          rcases hz with rfl
          · exact ⟨by decide, _, q_8_23, xe_n12⟩) (by decide) (by decide) q_4_1 xe_c1 hce hcv hcl ?_
      refine lv_astore (lv' := [(4, .ref q9), (0, .ref x0), (1, .int x1), (2, .int x2), (3, .ref x3)]) hx hb dL_harvest_17 hl (by decide) rfl (fun ls hl => ?_)
      refine lv_iconst (v := 2) hx hb dL_harvest_19 (by decide) ?_
      refine W.widen (k := mc) (n := ms) hk.1 hk.2 ?_
      exact W.iret (v := (2 : Int32)) hx hb hr (fun t ht hW => ⟨⟨(2 : Int32), S106, rfl, h, x_rt ht hR⟩, hS.F ht⟩) hS.2.2 dL_harvest_20
theorem mA_L_harvest (l : Launch) (gg : sG) (mc ms : Nat) (x0 : Nat) (x1 : Int32) (x2 : Int32) (x3 : Nat) (S : sT) (hst : l.stackTraces = false) {Q : Int32 → sT → Prop} (h : wA_L_harvest mc ms x0 x1 x2 x3 S Q) : x_Mi l gg yL_harvest (x_wsH yL_harvest cL_harvest 5 (some .int) [(0, 10, 13, 21), (0, 10, 17, 15)]) (rA_L_harvest mc ms) [.ref x0, .int x1, .int x2, .ref x3] S Q mc ms := by
  refine x_ofWH (cc := cL_harvest) (own := RL) (by decide +kernel) rfl (Nat.le_of_ble_eq_true rfl) ?_
  intro p e s m args below meth c C hml hr hlocks ht H locs ls hR hS hl
  exact tA_L_harvest_b0 C hml hr hlocks hst ht ⟨Nat.zero_le _, Nat.zero_le _⟩ h H locs ls hR hS (lv_sub (l' := [(0, .ref x0), (1, .int x1), (2, .int x2), (3, .ref x3)]) hl [0, 1, 2, 3] rfl)
def wA_L_cut_b0 (mc ms kc ks : Nat) (x0 : Nat) (x1 : Int32) (x2 : Nat) (S : sT)  (Q : Int32 → sT → Prop) : Prop :=
s_K S x0 = 8 ∧
    ((w_X6_cut x0 x1 S (fun x102 S101 =>
    ∀ j103 : Int64, j103 = Int32.toInt64 x102 →
    s_K S101 x2 = 14 ∧
    vp_in (0 : Int32) (s_N S101 x2) ∧
    ∀ S105 : sT, S105 = s_sG S101 x2 (Int32.toNatClampNeg (0 : Int32)) j103 →
    Q (0 : Int32) S105)) ∨
    ((kc + 1) ≤ mc ∧ (ks + 6) ≤ ms ∧ wT_X6_cut x0 x1 S (fun E9 S106 =>
    (E9 = "java/lang/IndexOutOfBoundsException" → Q (1 : Int32) S106) ∧
    (E9 = "java/lang/IllegalStateException" → Q (2 : Int32) S106) ∧
    (E9 = "java/lang/IndexOutOfBoundsException" ∨ E9 = "java/lang/IllegalStateException"))))
def wA_L_cut (mc ms : Nat) (x0 : Nat) (x1 : Int32) (x2 : Nat) (S : sT) (Q : Int32 → sT → Prop) : Prop := wA_L_cut_b0 mc ms 0 0 x0 x1 x2 S Q
def rA_L_cut (mc ms : Nat) : Room := x_rm 9 159 mc ms
theorem b_L_cut : x_BH yL_cut cL_cut 4 (some .int) [(0, 9, 12, 21), (0, 9, 15, 15)] 3 := ⟨q_19_12, q_19_11, q_3_22, by decide +kernel⟩
set_option maxHeartbeats 4000000 in
theorem tA_L_cut_b0 {Q : Int32 → sT → Prop} (C : x_C p s m args c cL_cut RL gg) (hml : c.maxLocals = 4) (hr : meth.sig.returnType = (some .int)) (hlocks : meth.locks = false) (hst : l.stackTraces = false) (ht : c.exceptionTable.toList = tableOf [(0, 9, 12, 21), (0, 9, 15, 15)]) {mc ms kc ks : Nat} (hk : kc ≤ mc ∧ ks ≤ ms) {x0 : Nat} {x1 : Int32} {x2 : Nat}  {S : sT}  (h : wA_L_cut_b0 mc ms kc ks x0 x1 x2 S  Q) : x_X p l e (rA_L_cut mc ms) s m args below meth c gg 4 kc ks (MQ below (va_Qi Q (fun S1 t => s_Rep gg S1 t.heap) (s_A gg)) args s mc ms (s_A gg)) 0 [(0, .ref x0), (1, .int x1), (2, .ref x2)] [] S := by
  unfold wA_L_cut_b0 at h
  obtain ⟨hx, hb, -⟩ := id C
  intro H locs ls hR hS hl
  refine lv_aload_n hx hb dL_cut_0 rfl (lv_at hl 2 rfl) ?_
  refine lv_iconst (v := 0) hx hb dL_cut_1 (by decide) ?_
  refine lv_aload_n hx hb dL_cut_2 rfl (lv_at hl 0 rfl) ?_
  refine lv_iload_n hx hb dL_cut_3 rfl (lv_at hl 1 rfl) ?_
  obtain ⟨hK_x0, h⟩ := h
  rcases h with h | h
  · refine x_ki (x_runV (As := [.int x1]) (rest := [.int (0 : Int32), .ref x2]) C hml hR hS (m_X6_cut l gg x0 x1 S h) b_X6_cut q_19_13 (by rw [hK_x0]; decide) (s_E_7 hK_x0) rfl rfl rfl rfl ⟨Nat.le_of_ble_eq_true rfl, Nat.le_of_ble_eq_true rfl⟩ rfl hl.1 (Nat.le_of_ble_eq_true rfl) dL_cut_4 ⟨hk.1, hk.2⟩) hS (fun x102 S101 H locs hn hR hS => ?_)
    replace h := hn
    clear hn
    refine lv_i2l hx hb dL_cut_7 rfl ?_
    refine lv_topl (fun j103 ej103 => ?_)
    replace h := h j103 ej103
    obtain ⟨hK_x2, h⟩ := h
    obtain ⟨hi104, h⟩ := h
    refine x_last C hR hK_x2 hS hi104 dL_cut_8 (fun H locs hR hS => ?_)
    obtain ⟨S105, eS105⟩ : ∃ z : sT, z = s_sG S101 x2 (Int32.toNatClampNeg (0 : Int32)) j103 := ⟨_, rfl⟩
    rw [← eS105] at hR
    replace h := h S105 eS105
    have hK_x2 : s_K S105 x2 = 14 := by rw [eS105]; exact hK_x2
    refine lv_goto (tgt := 18) hx hb dL_cut_9 (by decide) ?_
    refine lv_iconst (v := 0) hx hb dL_cut_18 (by decide) ?_
    refine W.widen (k := mc) (n := ms) hk.1 hk.2 ?_
    exact W.iret (v := (0 : Int32)) hx hb hr (fun t ht hW => ⟨⟨(0 : Int32), S105, rfl, h, x_rt ht hR⟩, hS.F ht⟩) hS.2.2 dL_cut_19
  · obtain ⟨hk1, hk2, h⟩ := h
    refine x_ze (x_runVT (As := [.int x1]) (rest := [.int (0 : Int32), .ref x2]) C hml hR hS (mT_X6_cut l gg x0 x1 S hst h) b_X6_cut q_19_13 (by rw [hK_x0]; decide) (s_E_7 hK_x0) rfl rfl rfl rfl ⟨Nat.le_of_ble_eq_true rfl, Nat.le_of_ble_eq_true rfl⟩ rfl hl.1 (Nat.le_of_ble_eq_true rfl) dL_cut_4 ⟨hk1, hk2⟩) hS (fun E9 ce q9 S106 H locs hq hR hS hce hcv hcl => ?_)
    have hk : (kc + 1) ≤ mc ∧ (ks + 6) ≤ ms := ⟨hk1, hk2⟩
    clear h
    obtain ⟨g0, g1, hE⟩ := hq
    rcases hE with rfl | rfl
    · have h := g0 rfl
      refine x_catch C [] ⟨0, 9, 12, 21⟩ [⟨0, 9, 15, 15⟩] (by rw [ht]; rfl) (fun z hz => absurd hz List.not_mem_nil) (by decide) (by decide) q_8_23 xe_c2 hce hcv hcl ?_
      refine lv_astore_n (lv' := [(3, .ref q9), (0, .ref x0), (1, .int x1), (2, .ref x2)]) hx hb dL_cut_12 rfl hl (by decide) rfl (fun ls hl => ?_)
      refine lv_iconst (v := 1) hx hb dL_cut_13 (by decide) ?_
      refine W.widen (k := mc) (n := ms) hk.1 hk.2 ?_
      exact W.iret (v := (1 : Int32)) hx hb hr (fun t ht hW => ⟨⟨(1 : Int32), S106, rfl, h, x_rt ht hR⟩, hS.F ht⟩) hS.2.2 dL_cut_14
    · have h := g1 rfl
      refine x_catch C [⟨0, 9, 12, 21⟩] ⟨0, 9, 15, 15⟩ [] (by rw [ht]; rfl) (fun z hz => by
          simp only [List.mem_cons, List.not_mem_nil, or_false] at hz
          rcases hz with rfl
          · exact ⟨by decide, _, q_8_23, xe_n12⟩) (by decide) (by decide) q_4_1 xe_c1 hce hcv hcl ?_
      refine lv_astore_n (lv' := [(3, .ref q9), (0, .ref x0), (1, .int x1), (2, .ref x2)]) hx hb dL_cut_15 rfl hl (by decide) rfl (fun ls hl => ?_)
      refine lv_iconst (v := 2) hx hb dL_cut_16 (by decide) ?_
      refine W.widen (k := mc) (n := ms) hk.1 hk.2 ?_
      exact W.iret (v := (2 : Int32)) hx hb hr (fun t ht hW => ⟨⟨(2 : Int32), S106, rfl, h, x_rt ht hR⟩, hS.F ht⟩) hS.2.2 dL_cut_17
theorem mA_L_cut (l : Launch) (gg : sG) (mc ms : Nat) (x0 : Nat) (x1 : Int32) (x2 : Nat) (S : sT) (hst : l.stackTraces = false) {Q : Int32 → sT → Prop} (h : wA_L_cut mc ms x0 x1 x2 S Q) : x_Mi l gg yL_cut (x_wsH yL_cut cL_cut 4 (some .int) [(0, 9, 12, 21), (0, 9, 15, 15)]) (rA_L_cut mc ms) [.ref x0, .int x1, .ref x2] S Q mc ms := by
  refine x_ofWH (cc := cL_cut) (own := RL) (by decide +kernel) rfl (Nat.le_of_ble_eq_true rfl) ?_
  intro p e s m args below meth c C hml hr hlocks ht H locs ls hR hS hl
  exact tA_L_cut_b0 C hml hr hlocks hst ht ⟨Nat.zero_le _, Nat.zero_le _⟩ h H locs ls hR hS (lv_sub (l' := [(0, .ref x0), (1, .int x1), (2, .ref x2)]) hl [0, 1, 2] rfl)
def wA_L_day_b0 (mc ms kc ks : Nat) (x0 : Nat) (x1 : Int32) (x2 : Int32) (x3 : Int32) (x4 : Nat) (S : sT)  (Q : Int32 → sT → Prop) : Prop :=
s_K S x0 = 8 ∧
    ((w_X6_day x0 x1 x2 x3 S (fun x102 S101 =>
    ∀ j103 : Int64, j103 = Int32.toInt64 x102 →
    s_K S101 x4 = 14 ∧
    vp_in (0 : Int32) (s_N S101 x4) ∧
    ∀ S105 : sT, S105 = s_sG S101 x4 (Int32.toNatClampNeg (0 : Int32)) j103 →
    Q (0 : Int32) S105)) ∨
    ((kc + 1) ≤ mc ∧ (ks + 6) ≤ ms ∧ wT_X6_day x0 x1 x2 x3 S (fun E9 S106 =>
    (E9 = "java/lang/IllegalArgumentException" → Q (1 : Int32) S106) ∧
    (E9 = "java/lang/IllegalArgumentException"))))
def wA_L_day (mc ms : Nat) (x0 : Nat) (x1 : Int32) (x2 : Int32) (x3 : Int32) (x4 : Nat) (S : sT) (Q : Int32 → sT → Prop) : Prop := wA_L_day_b0 mc ms 0 0 x0 x1 x2 x3 x4 S Q
def rA_L_day (mc ms : Nat) : Room := x_rm 7 162 mc ms
theorem b_L_day : x_BH yL_day cL_day 6 (some .int) [(0, 12, 15, 13)] 5 := ⟨q_20_12, q_20_11, q_3_22, by decide +kernel⟩
set_option maxHeartbeats 4000000 in
theorem tA_L_day_b0 {Q : Int32 → sT → Prop} (C : x_C p s m args c cL_day RL gg) (hml : c.maxLocals = 6) (hr : meth.sig.returnType = (some .int)) (hlocks : meth.locks = false) (hst : l.stackTraces = false) (ht : c.exceptionTable.toList = tableOf [(0, 12, 15, 13)]) {mc ms kc ks : Nat} (hk : kc ≤ mc ∧ ks ≤ ms) {x0 : Nat} {x1 : Int32} {x2 : Int32} {x3 : Int32} {x4 : Nat}  {S : sT}  (h : wA_L_day_b0 mc ms kc ks x0 x1 x2 x3 x4 S  Q) : x_X p l e (rA_L_day mc ms) s m args below meth c gg 6 kc ks (MQ below (va_Qi Q (fun S1 t => s_Rep gg S1 t.heap) (s_A gg)) args s mc ms (s_A gg)) 0 [(0, .ref x0), (1, .int x1), (2, .int x2), (3, .int x3), (4, .ref x4)] [] S := by
  unfold wA_L_day_b0 at h
  obtain ⟨hx, hb, -⟩ := id C
  intro H locs ls hR hS hl
  refine lv_aload hx hb dL_day_0 (lv_at hl 4 rfl) ?_
  refine lv_iconst (v := 0) hx hb dL_day_2 (by decide) ?_
  refine lv_aload_n hx hb dL_day_3 rfl (lv_at hl 0 rfl) ?_
  refine lv_iload_n hx hb dL_day_4 rfl (lv_at hl 1 rfl) ?_
  refine lv_iload_n hx hb dL_day_5 rfl (lv_at hl 2 rfl) ?_
  refine lv_iload_n hx hb dL_day_6 rfl (lv_at hl 3 rfl) ?_
  obtain ⟨hK_x0, h⟩ := h
  rcases h with h | h
  · refine x_ki (x_runV (As := [.int x1, .int x2, .int x3]) (rest := [.int (0 : Int32), .ref x4]) C hml hR hS (m_X6_day l gg x0 x1 x2 x3 S h) b_X6_day q_20_13 (by rw [hK_x0]; decide) (s_E_7 hK_x0) rfl rfl rfl rfl ⟨Nat.le_of_ble_eq_true rfl, Nat.le_of_ble_eq_true rfl⟩ rfl hl.1 (Nat.le_of_ble_eq_true rfl) dL_day_7 ⟨hk.1, hk.2⟩) hS (fun x102 S101 H locs hn hR hS => ?_)
    replace h := hn
    clear hn
    refine lv_i2l hx hb dL_day_10 rfl ?_
    refine lv_topl (fun j103 ej103 => ?_)
    replace h := h j103 ej103
    obtain ⟨hK_x4, h⟩ := h
    obtain ⟨hi104, h⟩ := h
    refine x_last C hR hK_x4 hS hi104 dL_day_11 (fun H locs hR hS => ?_)
    obtain ⟨S105, eS105⟩ : ∃ z : sT, z = s_sG S101 x4 (Int32.toNatClampNeg (0 : Int32)) j103 := ⟨_, rfl⟩
    rw [← eS105] at hR
    replace h := h S105 eS105
    have hK_x4 : s_K S105 x4 = 14 := by rw [eS105]; exact hK_x4
    refine lv_goto (tgt := 19) hx hb dL_day_12 (by decide) ?_
    refine lv_iconst (v := 0) hx hb dL_day_19 (by decide) ?_
    refine W.widen (k := mc) (n := ms) hk.1 hk.2 ?_
    exact W.iret (v := (0 : Int32)) hx hb hr (fun t ht hW => ⟨⟨(0 : Int32), S105, rfl, h, x_rt ht hR⟩, hS.F ht⟩) hS.2.2 dL_day_20
  · obtain ⟨hk1, hk2, h⟩ := h
    refine x_ze (x_runVT (As := [.int x1, .int x2, .int x3]) (rest := [.int (0 : Int32), .ref x4]) C hml hR hS (mT_X6_day l gg x0 x1 x2 x3 S hst h) b_X6_day q_20_13 (by rw [hK_x0]; decide) (s_E_7 hK_x0) rfl rfl rfl rfl ⟨Nat.le_of_ble_eq_true rfl, Nat.le_of_ble_eq_true rfl⟩ rfl hl.1 (Nat.le_of_ble_eq_true rfl) dL_day_7 ⟨hk1, hk2⟩) hS (fun E9 ce q9 S106 H locs hq hR hS hce hcv hcl => ?_)
    have hk : (kc + 1) ≤ mc ∧ (ks + 6) ≤ ms := ⟨hk1, hk2⟩
    clear h
    obtain ⟨g0, hE⟩ := hq
    rcases hE with rfl
    · have h := g0 rfl
      refine x_catch C [] ⟨0, 12, 15, 13⟩ [] (by rw [ht]; rfl) (fun z hz => absurd hz List.not_mem_nil) (by decide) (by decide) q_4_0 xe_c0 hce hcv hcl ?_
      refine lv_astore (lv' := [(5, .ref q9), (0, .ref x0), (1, .int x1), (2, .int x2), (3, .int x3), (4, .ref x4)]) hx hb dL_day_15 hl (by decide) rfl (fun ls hl => ?_)
      refine lv_iconst (v := 1) hx hb dL_day_17 (by decide) ?_
      refine W.widen (k := mc) (n := ms) hk.1 hk.2 ?_
      exact W.iret (v := (1 : Int32)) hx hb hr (fun t ht hW => ⟨⟨(1 : Int32), S106, rfl, h, x_rt ht hR⟩, hS.F ht⟩) hS.2.2 dL_day_18
theorem mA_L_day (l : Launch) (gg : sG) (mc ms : Nat) (x0 : Nat) (x1 : Int32) (x2 : Int32) (x3 : Int32) (x4 : Nat) (S : sT) (hst : l.stackTraces = false) {Q : Int32 → sT → Prop} (h : wA_L_day mc ms x0 x1 x2 x3 x4 S Q) : x_Mi l gg yL_day (x_wsH yL_day cL_day 6 (some .int) [(0, 12, 15, 13)]) (rA_L_day mc ms) [.ref x0, .int x1, .int x2, .int x3, .ref x4] S Q mc ms := by
  refine x_ofWH (cc := cL_day) (own := RL) (by decide +kernel) rfl (Nat.le_of_ble_eq_true rfl) ?_
  intro p e s m args below meth c C hml hr hlocks ht H locs ls hR hS hl
  exact tA_L_day_b0 C hml hr hlocks hst ht ⟨Nat.zero_le _, Nat.zero_le _⟩ h H locs ls hR hS (lv_sub (l' := [(0, .ref x0), (1, .int x1), (2, .int x2), (3, .int x3), (4, .ref x4)]) hl [0, 1, 2, 3, 4] rfl)
def wA_L_inspect_b0 (mc ms kc ks : Nat) (x0 : Nat) (x1 : Int32) (x2 : Nat) (S : sT)  (Q : Int32 → sT → Prop) : Prop :=
s_K S x0 = 8 ∧
    ((w_X6_inspect x0 x1 S (fun x102 S101 =>
    ∀ j103 : Int64, j103 = Int32.toInt64 x102 →
    s_K S101 x2 = 14 ∧
    vp_in (0 : Int32) (s_N S101 x2) ∧
    ∀ S105 : sT, S105 = s_sG S101 x2 (Int32.toNatClampNeg (0 : Int32)) j103 →
    Q (0 : Int32) S105)) ∨
    ((kc + 1) ≤ mc ∧ (ks + 6) ≤ ms ∧ wT_X6_inspect x0 x1 S (fun E9 S106 =>
    (E9 = "java/lang/IndexOutOfBoundsException" → Q (1 : Int32) S106) ∧
    (E9 = "java/lang/IndexOutOfBoundsException"))))
def wA_L_inspect (mc ms : Nat) (x0 : Nat) (x1 : Int32) (x2 : Nat) (S : sT) (Q : Int32 → sT → Prop) : Prop := wA_L_inspect_b0 mc ms 0 0 x0 x1 x2 S Q
def rA_L_inspect (mc ms : Nat) : Room := x_rm 8 134 mc ms
theorem b_L_inspect : x_BH yL_inspect cL_inspect 4 (some .int) [(0, 9, 12, 21)] 3 := ⟨q_28_1, q_28_0, q_3_22, by decide +kernel⟩
set_option maxHeartbeats 4000000 in
theorem tA_L_inspect_b0 {Q : Int32 → sT → Prop} (C : x_C p s m args c cL_inspect RL gg) (hml : c.maxLocals = 4) (hr : meth.sig.returnType = (some .int)) (hlocks : meth.locks = false) (hst : l.stackTraces = false) (ht : c.exceptionTable.toList = tableOf [(0, 9, 12, 21)]) {mc ms kc ks : Nat} (hk : kc ≤ mc ∧ ks ≤ ms) {x0 : Nat} {x1 : Int32} {x2 : Nat}  {S : sT}  (h : wA_L_inspect_b0 mc ms kc ks x0 x1 x2 S  Q) : x_X p l e (rA_L_inspect mc ms) s m args below meth c gg 4 kc ks (MQ below (va_Qi Q (fun S1 t => s_Rep gg S1 t.heap) (s_A gg)) args s mc ms (s_A gg)) 0 [(0, .ref x0), (1, .int x1), (2, .ref x2)] [] S := by
  unfold wA_L_inspect_b0 at h
  obtain ⟨hx, hb, -⟩ := id C
  intro H locs ls hR hS hl
  refine lv_aload_n hx hb dL_inspect_0 rfl (lv_at hl 2 rfl) ?_
  refine lv_iconst (v := 0) hx hb dL_inspect_1 (by decide) ?_
  refine lv_aload_n hx hb dL_inspect_2 rfl (lv_at hl 0 rfl) ?_
  refine lv_iload_n hx hb dL_inspect_3 rfl (lv_at hl 1 rfl) ?_
  obtain ⟨hK_x0, h⟩ := h
  rcases h with h | h
  · refine x_ki (x_runV (As := [.int x1]) (rest := [.int (0 : Int32), .ref x2]) C hml hR hS (m_X6_inspect l gg x0 x1 S h) b_X6_inspect q_28_2 (by rw [hK_x0]; decide) (s_E_7 hK_x0) rfl rfl rfl rfl ⟨Nat.le_of_ble_eq_true rfl, Nat.le_of_ble_eq_true rfl⟩ rfl hl.1 (Nat.le_of_ble_eq_true rfl) dL_inspect_4 ⟨hk.1, hk.2⟩) hS (fun x102 S101 H locs hn hR hS => ?_)
    replace h := hn
    clear hn
    refine lv_i2l hx hb dL_inspect_7 rfl ?_
    refine lv_topl (fun j103 ej103 => ?_)
    replace h := h j103 ej103
    obtain ⟨hK_x2, h⟩ := h
    obtain ⟨hi104, h⟩ := h
    refine x_last C hR hK_x2 hS hi104 dL_inspect_8 (fun H locs hR hS => ?_)
    obtain ⟨S105, eS105⟩ : ∃ z : sT, z = s_sG S101 x2 (Int32.toNatClampNeg (0 : Int32)) j103 := ⟨_, rfl⟩
    rw [← eS105] at hR
    replace h := h S105 eS105
    have hK_x2 : s_K S105 x2 = 14 := by rw [eS105]; exact hK_x2
    refine lv_goto (tgt := 15) hx hb dL_inspect_9 (by decide) ?_
    refine lv_iconst (v := 0) hx hb dL_inspect_15 (by decide) ?_
    refine W.widen (k := mc) (n := ms) hk.1 hk.2 ?_
    exact W.iret (v := (0 : Int32)) hx hb hr (fun t ht hW => ⟨⟨(0 : Int32), S105, rfl, h, x_rt ht hR⟩, hS.F ht⟩) hS.2.2 dL_inspect_16
  · obtain ⟨hk1, hk2, h⟩ := h
    refine x_ze (x_runVT (As := [.int x1]) (rest := [.int (0 : Int32), .ref x2]) C hml hR hS (mT_X6_inspect l gg x0 x1 S hst h) b_X6_inspect q_28_2 (by rw [hK_x0]; decide) (s_E_7 hK_x0) rfl rfl rfl rfl ⟨Nat.le_of_ble_eq_true rfl, Nat.le_of_ble_eq_true rfl⟩ rfl hl.1 (Nat.le_of_ble_eq_true rfl) dL_inspect_4 ⟨hk1, hk2⟩) hS (fun E9 ce q9 S106 H locs hq hR hS hce hcv hcl => ?_)
    have hk : (kc + 1) ≤ mc ∧ (ks + 6) ≤ ms := ⟨hk1, hk2⟩
    clear h
    obtain ⟨g0, hE⟩ := hq
    rcases hE with rfl
    · have h := g0 rfl
      refine x_catch C [] ⟨0, 9, 12, 21⟩ [] (by rw [ht]; rfl) (fun z hz => absurd hz List.not_mem_nil) (by decide) (by decide) q_8_23 xe_c2 hce hcv hcl ?_
      refine lv_astore_n (lv' := [(3, .ref q9), (0, .ref x0), (1, .int x1), (2, .ref x2)]) hx hb dL_inspect_12 rfl hl (by decide) rfl (fun ls hl => ?_)
      refine lv_iconst (v := 1) hx hb dL_inspect_13 (by decide) ?_
      refine W.widen (k := mc) (n := ms) hk.1 hk.2 ?_
      exact W.iret (v := (1 : Int32)) hx hb hr (fun t ht hW => ⟨⟨(1 : Int32), S106, rfl, h, x_rt ht hR⟩, hS.F ht⟩) hS.2.2 dL_inspect_14
theorem mA_L_inspect (l : Launch) (gg : sG) (mc ms : Nat) (x0 : Nat) (x1 : Int32) (x2 : Nat) (S : sT) (hst : l.stackTraces = false) {Q : Int32 → sT → Prop} (h : wA_L_inspect mc ms x0 x1 x2 S Q) : x_Mi l gg yL_inspect (x_wsH yL_inspect cL_inspect 4 (some .int) [(0, 9, 12, 21)]) (rA_L_inspect mc ms) [.ref x0, .int x1, .ref x2] S Q mc ms := by
  refine x_ofWH (cc := cL_inspect) (own := RL) (by decide +kernel) rfl (Nat.le_of_ble_eq_true rfl) ?_
  intro p e s m args below meth c C hml hr hlocks ht H locs ls hR hS hl
  exact tA_L_inspect_b0 C hml hr hlocks hst ht ⟨Nat.zero_le _, Nat.zero_le _⟩ h H locs ls hR hS (lv_sub (l' := [(0, .ref x0), (1, .int x1), (2, .ref x2)]) hl [0, 1, 2] rfl)
def wA_L_sell_b0 (mc ms kc ks : Nat) (x0 : Nat) (x1 : Int32) (x2 : Int32) (x3 : Nat) (S : sT)  (Q : Int32 → sT → Prop) : Prop :=
s_K S x0 = 8 ∧
    ((w_X6_sell x0 x1 x2 S (fun x102 S101 =>
    ∀ j103 : Int64, j103 = Int32.toInt64 x102 →
    s_K S101 x3 = 14 ∧
    vp_in (0 : Int32) (s_N S101 x3) ∧
    ∀ S105 : sT, S105 = s_sG S101 x3 (Int32.toNatClampNeg (0 : Int32)) j103 →
    Q (0 : Int32) S105)) ∨
    ((kc + 1) ≤ mc ∧ (ks + 6) ≤ ms ∧ wT_X6_sell x0 x1 x2 S (fun E9 S106 =>
    (E9 = "java/lang/IndexOutOfBoundsException" → Q (1 : Int32) S106) ∧
    (E9 = "java/lang/IllegalArgumentException" → Q (2 : Int32) S106) ∧
    (E9 = "java/lang/IllegalStateException" → Q (3 : Int32) S106) ∧
    (E9 = "java/lang/IndexOutOfBoundsException" ∨ E9 = "java/lang/IllegalArgumentException" ∨ E9 = "java/lang/IllegalStateException"))))
def wA_L_sell (mc ms : Nat) (x0 : Nat) (x1 : Int32) (x2 : Int32) (x3 : Nat) (S : sT) (Q : Int32 → sT → Prop) : Prop := wA_L_sell_b0 mc ms 0 0 x0 x1 x2 x3 S Q
def rA_L_sell (mc ms : Nat) : Room := x_rm 8 136 mc ms
theorem b_L_sell : x_BH yL_sell cL_sell 5 (some .int) [(0, 10, 13, 21), (0, 10, 17, 13), (0, 10, 21, 15)] 4 := ⟨q_28_20, q_28_19, q_3_22, by decide +kernel⟩
set_option maxHeartbeats 4000000 in
theorem tA_L_sell_b0 {Q : Int32 → sT → Prop} (C : x_C p s m args c cL_sell RL gg) (hml : c.maxLocals = 5) (hr : meth.sig.returnType = (some .int)) (hlocks : meth.locks = false) (hst : l.stackTraces = false) (ht : c.exceptionTable.toList = tableOf [(0, 10, 13, 21), (0, 10, 17, 13), (0, 10, 21, 15)]) {mc ms kc ks : Nat} (hk : kc ≤ mc ∧ ks ≤ ms) {x0 : Nat} {x1 : Int32} {x2 : Int32} {x3 : Nat}  {S : sT}  (h : wA_L_sell_b0 mc ms kc ks x0 x1 x2 x3 S  Q) : x_X p l e (rA_L_sell mc ms) s m args below meth c gg 5 kc ks (MQ below (va_Qi Q (fun S1 t => s_Rep gg S1 t.heap) (s_A gg)) args s mc ms (s_A gg)) 0 [(0, .ref x0), (1, .int x1), (2, .int x2), (3, .ref x3)] [] S := by
  unfold wA_L_sell_b0 at h
  obtain ⟨hx, hb, -⟩ := id C
  intro H locs ls hR hS hl
  refine lv_aload_n hx hb dL_sell_0 rfl (lv_at hl 3 rfl) ?_
  refine lv_iconst (v := 0) hx hb dL_sell_1 (by decide) ?_
  refine lv_aload_n hx hb dL_sell_2 rfl (lv_at hl 0 rfl) ?_
  refine lv_iload_n hx hb dL_sell_3 rfl (lv_at hl 1 rfl) ?_
  refine lv_iload_n hx hb dL_sell_4 rfl (lv_at hl 2 rfl) ?_
  obtain ⟨hK_x0, h⟩ := h
  rcases h with h | h
  · refine x_ki (x_runV (As := [.int x1, .int x2]) (rest := [.int (0 : Int32), .ref x3]) C hml hR hS (m_X6_sell l gg x0 x1 x2 S h) b_X6_sell q_28_21 (by rw [hK_x0]; decide) (s_E_7 hK_x0) rfl rfl rfl rfl ⟨Nat.le_of_ble_eq_true rfl, Nat.le_of_ble_eq_true rfl⟩ rfl hl.1 (Nat.le_of_ble_eq_true rfl) dL_sell_5 ⟨hk.1, hk.2⟩) hS (fun x102 S101 H locs hn hR hS => ?_)
    replace h := hn
    clear hn
    refine lv_i2l hx hb dL_sell_8 rfl ?_
    refine lv_topl (fun j103 ej103 => ?_)
    replace h := h j103 ej103
    obtain ⟨hK_x3, h⟩ := h
    obtain ⟨hi104, h⟩ := h
    refine x_last C hR hK_x3 hS hi104 dL_sell_9 (fun H locs hR hS => ?_)
    obtain ⟨S105, eS105⟩ : ∃ z : sT, z = s_sG S101 x3 (Int32.toNatClampNeg (0 : Int32)) j103 := ⟨_, rfl⟩
    rw [← eS105] at hR
    replace h := h S105 eS105
    have hK_x3 : s_K S105 x3 = 14 := by rw [eS105]; exact hK_x3
    refine lv_goto (tgt := 25) hx hb dL_sell_10 (by decide) ?_
    refine lv_iconst (v := 0) hx hb dL_sell_25 (by decide) ?_
    refine W.widen (k := mc) (n := ms) hk.1 hk.2 ?_
    exact W.iret (v := (0 : Int32)) hx hb hr (fun t ht hW => ⟨⟨(0 : Int32), S105, rfl, h, x_rt ht hR⟩, hS.F ht⟩) hS.2.2 dL_sell_26
  · obtain ⟨hk1, hk2, h⟩ := h
    refine x_ze (x_runVT (As := [.int x1, .int x2]) (rest := [.int (0 : Int32), .ref x3]) C hml hR hS (mT_X6_sell l gg x0 x1 x2 S hst h) b_X6_sell q_28_21 (by rw [hK_x0]; decide) (s_E_7 hK_x0) rfl rfl rfl rfl ⟨Nat.le_of_ble_eq_true rfl, Nat.le_of_ble_eq_true rfl⟩ rfl hl.1 (Nat.le_of_ble_eq_true rfl) dL_sell_5 ⟨hk1, hk2⟩) hS (fun E9 ce q9 S106 H locs hq hR hS hce hcv hcl => ?_)
    have hk : (kc + 1) ≤ mc ∧ (ks + 6) ≤ ms := ⟨hk1, hk2⟩
    clear h
    obtain ⟨g0, g1, g2, hE⟩ := hq
    rcases hE with rfl | rfl | rfl
    · have h := g0 rfl
      refine x_catch C [] ⟨0, 10, 13, 21⟩ [⟨0, 10, 17, 13⟩, ⟨0, 10, 21, 15⟩] (by rw [ht]; rfl) (fun z hz => absurd hz List.not_mem_nil) (by decide) (by decide) q_8_23 xe_c2 hce hcv hcl ?_
      refine lv_astore (lv' := [(4, .ref q9), (0, .ref x0), (1, .int x1), (2, .int x2), (3, .ref x3)]) hx hb dL_sell_13 hl (by decide) rfl (fun ls hl => ?_)
      refine lv_iconst (v := 1) hx hb dL_sell_15 (by decide) ?_
      refine W.widen (k := mc) (n := ms) hk.1 hk.2 ?_
      exact W.iret (v := (1 : Int32)) hx hb hr (fun t ht hW => ⟨⟨(1 : Int32), S106, rfl, h, x_rt ht hR⟩, hS.F ht⟩) hS.2.2 dL_sell_16
    · have h := g1 rfl
      refine x_catch C [⟨0, 10, 13, 21⟩] ⟨0, 10, 17, 13⟩ [⟨0, 10, 21, 15⟩] (by rw [ht]; rfl) (fun z hz => by
          simp only [List.mem_cons, List.not_mem_nil, or_false] at hz
          rcases hz with rfl
          · exact ⟨by decide, _, q_8_23, xe_n02⟩) (by decide) (by decide) q_4_0 xe_c0 hce hcv hcl ?_
      refine lv_astore (lv' := [(4, .ref q9), (0, .ref x0), (1, .int x1), (2, .int x2), (3, .ref x3)]) hx hb dL_sell_17 hl (by decide) rfl (fun ls hl => ?_)
      refine lv_iconst (v := 2) hx hb dL_sell_19 (by decide) ?_
      refine W.widen (k := mc) (n := ms) hk.1 hk.2 ?_
      exact W.iret (v := (2 : Int32)) hx hb hr (fun t ht hW => ⟨⟨(2 : Int32), S106, rfl, h, x_rt ht hR⟩, hS.F ht⟩) hS.2.2 dL_sell_20
    · have h := g2 rfl
      refine x_catch C [⟨0, 10, 13, 21⟩, ⟨0, 10, 17, 13⟩] ⟨0, 10, 21, 15⟩ [] (by rw [ht]; rfl) (fun z hz => by
          simp only [List.mem_cons, List.not_mem_nil, or_false] at hz
          rcases hz with rfl | rfl
          · exact ⟨by decide, _, q_8_23, xe_n12⟩
          · exact ⟨by decide, _, q_4_0, xe_n10⟩) (by decide) (by decide) q_4_1 xe_c1 hce hcv hcl ?_
      refine lv_astore (lv' := [(4, .ref q9), (0, .ref x0), (1, .int x1), (2, .int x2), (3, .ref x3)]) hx hb dL_sell_21 hl (by decide) rfl (fun ls hl => ?_)
      refine lv_iconst (v := 3) hx hb dL_sell_23 (by decide) ?_
      refine W.widen (k := mc) (n := ms) hk.1 hk.2 ?_
      exact W.iret (v := (3 : Int32)) hx hb hr (fun t ht hW => ⟨⟨(3 : Int32), S106, rfl, h, x_rt ht hR⟩, hS.F ht⟩) hS.2.2 dL_sell_24
theorem mA_L_sell (l : Launch) (gg : sG) (mc ms : Nat) (x0 : Nat) (x1 : Int32) (x2 : Int32) (x3 : Nat) (S : sT) (hst : l.stackTraces = false) {Q : Int32 → sT → Prop} (h : wA_L_sell mc ms x0 x1 x2 x3 S Q) : x_Mi l gg yL_sell (x_wsH yL_sell cL_sell 5 (some .int) [(0, 10, 13, 21), (0, 10, 17, 13), (0, 10, 21, 15)]) (rA_L_sell mc ms) [.ref x0, .int x1, .int x2, .ref x3] S Q mc ms := by
  refine x_ofWH (cc := cL_sell) (own := RL) (by decide +kernel) rfl (Nat.le_of_ble_eq_true rfl) ?_
  intro p e s m args below meth c C hml hr hlocks ht H locs ls hR hS hl
  exact tA_L_sell_b0 C hml hr hlocks hst ht ⟨Nat.zero_le _, Nat.zero_le _⟩ h H locs ls hR hS (lv_sub (l' := [(0, .ref x0), (1, .int x1), (2, .int x2), (3, .ref x3)]) hl [0, 1, 2, 3] rfl)
def wA_L_vote_b0 (mc ms kc ks : Nat) (x0 : Nat) (x1 : Int32) (x2 : Nat) (S : sT)  (Q : Int32 → sT → Prop) : Prop :=
s_K S x0 = 8 ∧
    ((w_X6_vote x0 x1 S (fun x102 S101 =>
    ∀ j103 : Int64, j103 = Int32.toInt64 x102 →
    s_K S101 x2 = 14 ∧
    vp_in (0 : Int32) (s_N S101 x2) ∧
    ∀ S105 : sT, S105 = s_sG S101 x2 (Int32.toNatClampNeg (0 : Int32)) j103 →
    Q (0 : Int32) S105)) ∨
    ((kc + 1) ≤ mc ∧ (ks + 6) ≤ ms ∧ wT_X6_vote x0 x1 S (fun E9 S106 =>
    (E9 = "java/lang/IndexOutOfBoundsException" → Q (1 : Int32) S106) ∧
    (E9 = "java/lang/IndexOutOfBoundsException"))))
def wA_L_vote (mc ms : Nat) (x0 : Nat) (x1 : Int32) (x2 : Nat) (S : sT) (Q : Int32 → sT → Prop) : Prop := wA_L_vote_b0 mc ms 0 0 x0 x1 x2 S Q
def rA_L_vote (mc ms : Nat) : Room := x_rm 8 137 mc ms
theorem b_L_vote : x_BH yL_vote cL_vote 4 (some .int) [(0, 9, 12, 21)] 3 := ⟨q_29_8, q_29_7, q_3_22, by decide +kernel⟩
set_option maxHeartbeats 4000000 in
theorem tA_L_vote_b0 {Q : Int32 → sT → Prop} (C : x_C p s m args c cL_vote RL gg) (hml : c.maxLocals = 4) (hr : meth.sig.returnType = (some .int)) (hlocks : meth.locks = false) (hst : l.stackTraces = false) (ht : c.exceptionTable.toList = tableOf [(0, 9, 12, 21)]) {mc ms kc ks : Nat} (hk : kc ≤ mc ∧ ks ≤ ms) {x0 : Nat} {x1 : Int32} {x2 : Nat}  {S : sT}  (h : wA_L_vote_b0 mc ms kc ks x0 x1 x2 S  Q) : x_X p l e (rA_L_vote mc ms) s m args below meth c gg 4 kc ks (MQ below (va_Qi Q (fun S1 t => s_Rep gg S1 t.heap) (s_A gg)) args s mc ms (s_A gg)) 0 [(0, .ref x0), (1, .int x1), (2, .ref x2)] [] S := by
  unfold wA_L_vote_b0 at h
  obtain ⟨hx, hb, -⟩ := id C
  intro H locs ls hR hS hl
  refine lv_aload_n hx hb dL_vote_0 rfl (lv_at hl 2 rfl) ?_
  refine lv_iconst (v := 0) hx hb dL_vote_1 (by decide) ?_
  refine lv_aload_n hx hb dL_vote_2 rfl (lv_at hl 0 rfl) ?_
  refine lv_iload_n hx hb dL_vote_3 rfl (lv_at hl 1 rfl) ?_
  obtain ⟨hK_x0, h⟩ := h
  rcases h with h | h
  · refine x_ki (x_runV (As := [.int x1]) (rest := [.int (0 : Int32), .ref x2]) C hml hR hS (m_X6_vote l gg x0 x1 S h) b_X6_vote q_29_9 (by rw [hK_x0]; decide) (s_E_7 hK_x0) rfl rfl rfl rfl ⟨Nat.le_of_ble_eq_true rfl, Nat.le_of_ble_eq_true rfl⟩ rfl hl.1 (Nat.le_of_ble_eq_true rfl) dL_vote_4 ⟨hk.1, hk.2⟩) hS (fun x102 S101 H locs hn hR hS => ?_)
    replace h := hn
    clear hn
    refine lv_i2l hx hb dL_vote_7 rfl ?_
    refine lv_topl (fun j103 ej103 => ?_)
    replace h := h j103 ej103
    obtain ⟨hK_x2, h⟩ := h
    obtain ⟨hi104, h⟩ := h
    refine x_last C hR hK_x2 hS hi104 dL_vote_8 (fun H locs hR hS => ?_)
    obtain ⟨S105, eS105⟩ : ∃ z : sT, z = s_sG S101 x2 (Int32.toNatClampNeg (0 : Int32)) j103 := ⟨_, rfl⟩
    rw [← eS105] at hR
    replace h := h S105 eS105
    have hK_x2 : s_K S105 x2 = 14 := by rw [eS105]; exact hK_x2
    refine lv_goto (tgt := 15) hx hb dL_vote_9 (by decide) ?_
    refine lv_iconst (v := 0) hx hb dL_vote_15 (by decide) ?_
    refine W.widen (k := mc) (n := ms) hk.1 hk.2 ?_
    exact W.iret (v := (0 : Int32)) hx hb hr (fun t ht hW => ⟨⟨(0 : Int32), S105, rfl, h, x_rt ht hR⟩, hS.F ht⟩) hS.2.2 dL_vote_16
  · obtain ⟨hk1, hk2, h⟩ := h
    refine x_ze (x_runVT (As := [.int x1]) (rest := [.int (0 : Int32), .ref x2]) C hml hR hS (mT_X6_vote l gg x0 x1 S hst h) b_X6_vote q_29_9 (by rw [hK_x0]; decide) (s_E_7 hK_x0) rfl rfl rfl rfl ⟨Nat.le_of_ble_eq_true rfl, Nat.le_of_ble_eq_true rfl⟩ rfl hl.1 (Nat.le_of_ble_eq_true rfl) dL_vote_4 ⟨hk1, hk2⟩) hS (fun E9 ce q9 S106 H locs hq hR hS hce hcv hcl => ?_)
    have hk : (kc + 1) ≤ mc ∧ (ks + 6) ≤ ms := ⟨hk1, hk2⟩
    clear h
    obtain ⟨g0, hE⟩ := hq
    rcases hE with rfl
    · have h := g0 rfl
      refine x_catch C [] ⟨0, 9, 12, 21⟩ [] (by rw [ht]; rfl) (fun z hz => absurd hz List.not_mem_nil) (by decide) (by decide) q_8_23 xe_c2 hce hcv hcl ?_
      refine lv_astore_n (lv' := [(3, .ref q9), (0, .ref x0), (1, .int x1), (2, .ref x2)]) hx hb dL_vote_12 rfl hl (by decide) rfl (fun ls hl => ?_)
      refine lv_iconst (v := 1) hx hb dL_vote_13 (by decide) ?_
      refine W.widen (k := mc) (n := ms) hk.1 hk.2 ?_
      exact W.iret (v := (1 : Int32)) hx hb hr (fun t ht hW => ⟨⟨(1 : Int32), S106, rfl, h, x_rt ht hR⟩, hS.F ht⟩) hS.2.2 dL_vote_14
theorem mA_L_vote (l : Launch) (gg : sG) (mc ms : Nat) (x0 : Nat) (x1 : Int32) (x2 : Nat) (S : sT) (hst : l.stackTraces = false) {Q : Int32 → sT → Prop} (h : wA_L_vote mc ms x0 x1 x2 S Q) : x_Mi l gg yL_vote (x_wsH yL_vote cL_vote 4 (some .int) [(0, 9, 12, 21)]) (rA_L_vote mc ms) [.ref x0, .int x1, .ref x2] S Q mc ms := by
  refine x_ofWH (cc := cL_vote) (own := RL) (by decide +kernel) rfl (Nat.le_of_ble_eq_true rfl) ?_
  intro p e s m args below meth c C hml hr hlocks ht H locs ls hR hS hl
  exact tA_L_vote_b0 C hml hr hlocks hst ht ⟨Nat.zero_le _, Nat.zero_le _⟩ h H locs ls hR hS (lv_sub (l' := [(0, .ref x0), (1, .int x1), (2, .ref x2)]) hl [0, 1, 2] rfl)
def wA_L_ofField_b0 (mc ms kc ks : Nat) (x0 : Nat) (x1 : Int32) (x2 : Int32) (x3 : Nat) (S : sT)  (Q : Int32 → sT → Prop) : Prop :=
s_K S x0 = 8 ∧
    ((w_X6_ofField x0 x1 x2 S (fun x102 S101 =>
    ∀ j103 : Int64, j103 = Int32.toInt64 x102 →
    s_K S101 x3 = 14 ∧
    vp_in (0 : Int32) (s_N S101 x3) ∧
    ∀ S105 : sT, S105 = s_sG S101 x3 (Int32.toNatClampNeg (0 : Int32)) j103 →
    Q (0 : Int32) S105)) ∨
    ((kc + 1) ≤ mc ∧ (ks + 6) ≤ ms ∧ wT_X6_ofField x0 x1 x2 S (fun E9 S106 =>
    (E9 = "java/lang/IndexOutOfBoundsException" → Q (1 : Int32) S106) ∧
    (E9 = "java/lang/IllegalArgumentException" → Q (2 : Int32) S106) ∧
    (E9 = "java/lang/IndexOutOfBoundsException" ∨ E9 = "java/lang/IllegalArgumentException"))))
def wA_L_ofField (mc ms : Nat) (x0 : Nat) (x1 : Int32) (x2 : Int32) (x3 : Nat) (S : sT) (Q : Int32 → sT → Prop) : Prop := wA_L_ofField_b0 mc ms 0 0 x0 x1 x2 x3 S Q
def rA_L_ofField (mc ms : Nat) : Room := x_rm 8 136 mc ms
theorem b_L_ofField : x_BH yL_ofField cL_ofField 5 (some .int) [(0, 10, 13, 21), (0, 10, 17, 13)] 4 := ⟨q_31_1, q_31_0, q_3_22, by decide +kernel⟩
set_option maxHeartbeats 4000000 in
theorem tA_L_ofField_b0 {Q : Int32 → sT → Prop} (C : x_C p s m args c cL_ofField RL gg) (hml : c.maxLocals = 5) (hr : meth.sig.returnType = (some .int)) (hlocks : meth.locks = false) (hst : l.stackTraces = false) (ht : c.exceptionTable.toList = tableOf [(0, 10, 13, 21), (0, 10, 17, 13)]) {mc ms kc ks : Nat} (hk : kc ≤ mc ∧ ks ≤ ms) {x0 : Nat} {x1 : Int32} {x2 : Int32} {x3 : Nat}  {S : sT}  (h : wA_L_ofField_b0 mc ms kc ks x0 x1 x2 x3 S  Q) : x_X p l e (rA_L_ofField mc ms) s m args below meth c gg 5 kc ks (MQ below (va_Qi Q (fun S1 t => s_Rep gg S1 t.heap) (s_A gg)) args s mc ms (s_A gg)) 0 [(0, .ref x0), (1, .int x1), (2, .int x2), (3, .ref x3)] [] S := by
  unfold wA_L_ofField_b0 at h
  obtain ⟨hx, hb, -⟩ := id C
  intro H locs ls hR hS hl
  refine lv_aload_n hx hb dL_ofField_0 rfl (lv_at hl 3 rfl) ?_
  refine lv_iconst (v := 0) hx hb dL_ofField_1 (by decide) ?_
  refine lv_aload_n hx hb dL_ofField_2 rfl (lv_at hl 0 rfl) ?_
  refine lv_iload_n hx hb dL_ofField_3 rfl (lv_at hl 1 rfl) ?_
  refine lv_iload_n hx hb dL_ofField_4 rfl (lv_at hl 2 rfl) ?_
  obtain ⟨hK_x0, h⟩ := h
  rcases h with h | h
  · refine x_ki (x_runV (As := [.int x1, .int x2]) (rest := [.int (0 : Int32), .ref x3]) C hml hR hS (m_X6_ofField l gg x0 x1 x2 S h) b_X6_ofField q_31_2 (by rw [hK_x0]; decide) (s_E_7 hK_x0) rfl rfl rfl rfl ⟨Nat.le_of_ble_eq_true rfl, Nat.le_of_ble_eq_true rfl⟩ rfl hl.1 (Nat.le_of_ble_eq_true rfl) dL_ofField_5 ⟨hk.1, hk.2⟩) hS (fun x102 S101 H locs hn hR hS => ?_)
    replace h := hn
    clear hn
    refine lv_i2l hx hb dL_ofField_8 rfl ?_
    refine lv_topl (fun j103 ej103 => ?_)
    replace h := h j103 ej103
    obtain ⟨hK_x3, h⟩ := h
    obtain ⟨hi104, h⟩ := h
    refine x_last C hR hK_x3 hS hi104 dL_ofField_9 (fun H locs hR hS => ?_)
    obtain ⟨S105, eS105⟩ : ∃ z : sT, z = s_sG S101 x3 (Int32.toNatClampNeg (0 : Int32)) j103 := ⟨_, rfl⟩
    rw [← eS105] at hR
    replace h := h S105 eS105
    have hK_x3 : s_K S105 x3 = 14 := by rw [eS105]; exact hK_x3
    refine lv_goto (tgt := 21) hx hb dL_ofField_10 (by decide) ?_
    refine lv_iconst (v := 0) hx hb dL_ofField_21 (by decide) ?_
    refine W.widen (k := mc) (n := ms) hk.1 hk.2 ?_
    exact W.iret (v := (0 : Int32)) hx hb hr (fun t ht hW => ⟨⟨(0 : Int32), S105, rfl, h, x_rt ht hR⟩, hS.F ht⟩) hS.2.2 dL_ofField_22
  · obtain ⟨hk1, hk2, h⟩ := h
    refine x_ze (x_runVT (As := [.int x1, .int x2]) (rest := [.int (0 : Int32), .ref x3]) C hml hR hS (mT_X6_ofField l gg x0 x1 x2 S hst h) b_X6_ofField q_31_2 (by rw [hK_x0]; decide) (s_E_7 hK_x0) rfl rfl rfl rfl ⟨Nat.le_of_ble_eq_true rfl, Nat.le_of_ble_eq_true rfl⟩ rfl hl.1 (Nat.le_of_ble_eq_true rfl) dL_ofField_5 ⟨hk1, hk2⟩) hS (fun E9 ce q9 S106 H locs hq hR hS hce hcv hcl => ?_)
    have hk : (kc + 1) ≤ mc ∧ (ks + 6) ≤ ms := ⟨hk1, hk2⟩
    clear h
    obtain ⟨g0, g1, hE⟩ := hq
    rcases hE with rfl | rfl
    · have h := g0 rfl
      refine x_catch C [] ⟨0, 10, 13, 21⟩ [⟨0, 10, 17, 13⟩] (by rw [ht]; rfl) (fun z hz => absurd hz List.not_mem_nil) (by decide) (by decide) q_8_23 xe_c2 hce hcv hcl ?_
      refine lv_astore (lv' := [(4, .ref q9), (0, .ref x0), (1, .int x1), (2, .int x2), (3, .ref x3)]) hx hb dL_ofField_13 hl (by decide) rfl (fun ls hl => ?_)
      refine lv_iconst (v := 1) hx hb dL_ofField_15 (by decide) ?_
      refine W.widen (k := mc) (n := ms) hk.1 hk.2 ?_
      exact W.iret (v := (1 : Int32)) hx hb hr (fun t ht hW => ⟨⟨(1 : Int32), S106, rfl, h, x_rt ht hR⟩, hS.F ht⟩) hS.2.2 dL_ofField_16
    · have h := g1 rfl
      refine x_catch C [⟨0, 10, 13, 21⟩] ⟨0, 10, 17, 13⟩ [] (by rw [ht]; rfl) (fun z hz => by
          simp only [List.mem_cons, List.not_mem_nil, or_false] at hz
          rcases hz with rfl
          · exact ⟨by decide, _, q_8_23, xe_n02⟩) (by decide) (by decide) q_4_0 xe_c0 hce hcv hcl ?_
      refine lv_astore (lv' := [(4, .ref q9), (0, .ref x0), (1, .int x1), (2, .int x2), (3, .ref x3)]) hx hb dL_ofField_17 hl (by decide) rfl (fun ls hl => ?_)
      refine lv_iconst (v := 2) hx hb dL_ofField_19 (by decide) ?_
      refine W.widen (k := mc) (n := ms) hk.1 hk.2 ?_
      exact W.iret (v := (2 : Int32)) hx hb hr (fun t ht hW => ⟨⟨(2 : Int32), S106, rfl, h, x_rt ht hR⟩, hS.F ht⟩) hS.2.2 dL_ofField_20
theorem mA_L_ofField (l : Launch) (gg : sG) (mc ms : Nat) (x0 : Nat) (x1 : Int32) (x2 : Int32) (x3 : Nat) (S : sT) (hst : l.stackTraces = false) {Q : Int32 → sT → Prop} (h : wA_L_ofField mc ms x0 x1 x2 x3 S Q) : x_Mi l gg yL_ofField (x_wsH yL_ofField cL_ofField 5 (some .int) [(0, 10, 13, 21), (0, 10, 17, 13)]) (rA_L_ofField mc ms) [.ref x0, .int x1, .int x2, .ref x3] S Q mc ms := by
  refine x_ofWH (cc := cL_ofField) (own := RL) (by decide +kernel) rfl (Nat.le_of_ble_eq_true rfl) ?_
  intro p e s m args below meth c C hml hr hlocks ht H locs ls hR hS hl
  exact tA_L_ofField_b0 C hml hr hlocks hst ht ⟨Nat.zero_le _, Nat.zero_le _⟩ h H locs ls hR hS (lv_sub (l' := [(0, .ref x0), (1, .int x1), (2, .int x2), (3, .ref x3)]) hl [0, 1, 2, 3] rfl)
def wA_L_ofOwner_b0 (mc ms kc ks : Nat) (x0 : Nat) (x1 : Int32) (x2 : Int32) (x3 : Nat) (S : sT)  (Q : Int32 → sT → Prop) : Prop :=
s_K S x0 = 8 ∧
    ((w_X6_ofOwner x0 x1 x2 S (fun x102 S101 =>
    ∀ j103 : Int64, j103 = Int32.toInt64 x102 →
    s_K S101 x3 = 14 ∧
    vp_in (0 : Int32) (s_N S101 x3) ∧
    ∀ S105 : sT, S105 = s_sG S101 x3 (Int32.toNatClampNeg (0 : Int32)) j103 →
    Q (0 : Int32) S105)) ∨
    ((kc + 1) ≤ mc ∧ (ks + 6) ≤ ms ∧ wT_X6_ofOwner x0 x1 x2 S (fun E9 S106 =>
    (E9 = "java/lang/IndexOutOfBoundsException" → Q (1 : Int32) S106) ∧
    (E9 = "java/lang/IllegalArgumentException" → Q (2 : Int32) S106) ∧
    (E9 = "java/lang/IndexOutOfBoundsException" ∨ E9 = "java/lang/IllegalArgumentException"))))
def wA_L_ofOwner (mc ms : Nat) (x0 : Nat) (x1 : Int32) (x2 : Int32) (x3 : Nat) (S : sT) (Q : Int32 → sT → Prop) : Prop := wA_L_ofOwner_b0 mc ms 0 0 x0 x1 x2 x3 S Q
def rA_L_ofOwner (mc ms : Nat) : Room := x_rm 8 136 mc ms
theorem b_L_ofOwner : x_BH yL_ofOwner cL_ofOwner 5 (some .int) [(0, 10, 13, 21), (0, 10, 17, 13)] 4 := ⟨q_32_2, q_32_1, q_3_22, by decide +kernel⟩
set_option maxHeartbeats 4000000 in
theorem tA_L_ofOwner_b0 {Q : Int32 → sT → Prop} (C : x_C p s m args c cL_ofOwner RL gg) (hml : c.maxLocals = 5) (hr : meth.sig.returnType = (some .int)) (hlocks : meth.locks = false) (hst : l.stackTraces = false) (ht : c.exceptionTable.toList = tableOf [(0, 10, 13, 21), (0, 10, 17, 13)]) {mc ms kc ks : Nat} (hk : kc ≤ mc ∧ ks ≤ ms) {x0 : Nat} {x1 : Int32} {x2 : Int32} {x3 : Nat}  {S : sT}  (h : wA_L_ofOwner_b0 mc ms kc ks x0 x1 x2 x3 S  Q) : x_X p l e (rA_L_ofOwner mc ms) s m args below meth c gg 5 kc ks (MQ below (va_Qi Q (fun S1 t => s_Rep gg S1 t.heap) (s_A gg)) args s mc ms (s_A gg)) 0 [(0, .ref x0), (1, .int x1), (2, .int x2), (3, .ref x3)] [] S := by
  unfold wA_L_ofOwner_b0 at h
  obtain ⟨hx, hb, -⟩ := id C
  intro H locs ls hR hS hl
  refine lv_aload_n hx hb dL_ofOwner_0 rfl (lv_at hl 3 rfl) ?_
  refine lv_iconst (v := 0) hx hb dL_ofOwner_1 (by decide) ?_
  refine lv_aload_n hx hb dL_ofOwner_2 rfl (lv_at hl 0 rfl) ?_
  refine lv_iload_n hx hb dL_ofOwner_3 rfl (lv_at hl 1 rfl) ?_
  refine lv_iload_n hx hb dL_ofOwner_4 rfl (lv_at hl 2 rfl) ?_
  obtain ⟨hK_x0, h⟩ := h
  rcases h with h | h
  · refine x_ki (x_runV (As := [.int x1, .int x2]) (rest := [.int (0 : Int32), .ref x3]) C hml hR hS (m_X6_ofOwner l gg x0 x1 x2 S h) b_X6_ofOwner q_32_3 (by rw [hK_x0]; decide) (s_E_7 hK_x0) rfl rfl rfl rfl ⟨Nat.le_of_ble_eq_true rfl, Nat.le_of_ble_eq_true rfl⟩ rfl hl.1 (Nat.le_of_ble_eq_true rfl) dL_ofOwner_5 ⟨hk.1, hk.2⟩) hS (fun x102 S101 H locs hn hR hS => ?_)
    replace h := hn
    clear hn
    refine lv_i2l hx hb dL_ofOwner_8 rfl ?_
    refine lv_topl (fun j103 ej103 => ?_)
    replace h := h j103 ej103
    obtain ⟨hK_x3, h⟩ := h
    obtain ⟨hi104, h⟩ := h
    refine x_last C hR hK_x3 hS hi104 dL_ofOwner_9 (fun H locs hR hS => ?_)
    obtain ⟨S105, eS105⟩ : ∃ z : sT, z = s_sG S101 x3 (Int32.toNatClampNeg (0 : Int32)) j103 := ⟨_, rfl⟩
    rw [← eS105] at hR
    replace h := h S105 eS105
    have hK_x3 : s_K S105 x3 = 14 := by rw [eS105]; exact hK_x3
    refine lv_goto (tgt := 21) hx hb dL_ofOwner_10 (by decide) ?_
    refine lv_iconst (v := 0) hx hb dL_ofOwner_21 (by decide) ?_
    refine W.widen (k := mc) (n := ms) hk.1 hk.2 ?_
    exact W.iret (v := (0 : Int32)) hx hb hr (fun t ht hW => ⟨⟨(0 : Int32), S105, rfl, h, x_rt ht hR⟩, hS.F ht⟩) hS.2.2 dL_ofOwner_22
  · obtain ⟨hk1, hk2, h⟩ := h
    refine x_ze (x_runVT (As := [.int x1, .int x2]) (rest := [.int (0 : Int32), .ref x3]) C hml hR hS (mT_X6_ofOwner l gg x0 x1 x2 S hst h) b_X6_ofOwner q_32_3 (by rw [hK_x0]; decide) (s_E_7 hK_x0) rfl rfl rfl rfl ⟨Nat.le_of_ble_eq_true rfl, Nat.le_of_ble_eq_true rfl⟩ rfl hl.1 (Nat.le_of_ble_eq_true rfl) dL_ofOwner_5 ⟨hk1, hk2⟩) hS (fun E9 ce q9 S106 H locs hq hR hS hce hcv hcl => ?_)
    have hk : (kc + 1) ≤ mc ∧ (ks + 6) ≤ ms := ⟨hk1, hk2⟩
    clear h
    obtain ⟨g0, g1, hE⟩ := hq
    rcases hE with rfl | rfl
    · have h := g0 rfl
      refine x_catch C [] ⟨0, 10, 13, 21⟩ [⟨0, 10, 17, 13⟩] (by rw [ht]; rfl) (fun z hz => absurd hz List.not_mem_nil) (by decide) (by decide) q_8_23 xe_c2 hce hcv hcl ?_
      refine lv_astore (lv' := [(4, .ref q9), (0, .ref x0), (1, .int x1), (2, .int x2), (3, .ref x3)]) hx hb dL_ofOwner_13 hl (by decide) rfl (fun ls hl => ?_)
      refine lv_iconst (v := 1) hx hb dL_ofOwner_15 (by decide) ?_
      refine W.widen (k := mc) (n := ms) hk.1 hk.2 ?_
      exact W.iret (v := (1 : Int32)) hx hb hr (fun t ht hW => ⟨⟨(1 : Int32), S106, rfl, h, x_rt ht hR⟩, hS.F ht⟩) hS.2.2 dL_ofOwner_16
    · have h := g1 rfl
      refine x_catch C [⟨0, 10, 13, 21⟩] ⟨0, 10, 17, 13⟩ [] (by rw [ht]; rfl) (fun z hz => by
          simp only [List.mem_cons, List.not_mem_nil, or_false] at hz
          rcases hz with rfl
          · exact ⟨by decide, _, q_8_23, xe_n02⟩) (by decide) (by decide) q_4_0 xe_c0 hce hcv hcl ?_
      refine lv_astore (lv' := [(4, .ref q9), (0, .ref x0), (1, .int x1), (2, .int x2), (3, .ref x3)]) hx hb dL_ofOwner_17 hl (by decide) rfl (fun ls hl => ?_)
      refine lv_iconst (v := 2) hx hb dL_ofOwner_19 (by decide) ?_
      refine W.widen (k := mc) (n := ms) hk.1 hk.2 ?_
      exact W.iret (v := (2 : Int32)) hx hb hr (fun t ht hW => ⟨⟨(2 : Int32), S106, rfl, h, x_rt ht hR⟩, hS.F ht⟩) hS.2.2 dL_ofOwner_20
theorem mA_L_ofOwner (l : Launch) (gg : sG) (mc ms : Nat) (x0 : Nat) (x1 : Int32) (x2 : Int32) (x3 : Nat) (S : sT) (hst : l.stackTraces = false) {Q : Int32 → sT → Prop} (h : wA_L_ofOwner mc ms x0 x1 x2 x3 S Q) : x_Mi l gg yL_ofOwner (x_wsH yL_ofOwner cL_ofOwner 5 (some .int) [(0, 10, 13, 21), (0, 10, 17, 13)]) (rA_L_ofOwner mc ms) [.ref x0, .int x1, .int x2, .ref x3] S Q mc ms := by
  refine x_ofWH (cc := cL_ofOwner) (own := RL) (by decide +kernel) rfl (Nat.le_of_ble_eq_true rfl) ?_
  intro p e s m args below meth c C hml hr hlocks ht H locs ls hR hS hl
  exact tA_L_ofOwner_b0 C hml hr hlocks hst ht ⟨Nat.zero_le _, Nat.zero_le _⟩ h H locs ls hR hS (lv_sub (l' := [(0, .ref x0), (1, .int x1), (2, .int x2), (3, .ref x3)]) hl [0, 1, 2, 3] rfl)
def wA_L_ofSociety_b0 (mc ms kc ks : Nat) (x0 : Nat) (x1 : Int32) (x2 : Int32) (x3 : Nat) (S : sT)  (Q : Int32 → sT → Prop) : Prop :=
s_K S x0 = 8 ∧
    ((w_X6_ofSociety x0 x1 x2 S (fun x102 S101 =>
    ∀ j103 : Int64, j103 = Int32.toInt64 x102 →
    s_K S101 x3 = 14 ∧
    vp_in (0 : Int32) (s_N S101 x3) ∧
    ∀ S105 : sT, S105 = s_sG S101 x3 (Int32.toNatClampNeg (0 : Int32)) j103 →
    Q (0 : Int32) S105)) ∨
    ((kc + 1) ≤ mc ∧ (ks + 6) ≤ ms ∧ wT_X6_ofSociety x0 x1 x2 S (fun E9 S106 =>
    (E9 = "java/lang/IndexOutOfBoundsException" → Q (1 : Int32) S106) ∧
    (E9 = "java/lang/IllegalArgumentException" → Q (2 : Int32) S106) ∧
    (E9 = "java/lang/IndexOutOfBoundsException" ∨ E9 = "java/lang/IllegalArgumentException"))))
def wA_L_ofSociety (mc ms : Nat) (x0 : Nat) (x1 : Int32) (x2 : Int32) (x3 : Nat) (S : sT) (Q : Int32 → sT → Prop) : Prop := wA_L_ofSociety_b0 mc ms 0 0 x0 x1 x2 x3 S Q
def rA_L_ofSociety (mc ms : Nat) : Room := x_rm 8 136 mc ms
theorem b_L_ofSociety : x_BH yL_ofSociety cL_ofSociety 5 (some .int) [(0, 10, 13, 21), (0, 10, 17, 13)] 4 := ⟨q_32_21, q_32_20, q_3_22, by decide +kernel⟩
set_option maxHeartbeats 4000000 in
theorem tA_L_ofSociety_b0 {Q : Int32 → sT → Prop} (C : x_C p s m args c cL_ofSociety RL gg) (hml : c.maxLocals = 5) (hr : meth.sig.returnType = (some .int)) (hlocks : meth.locks = false) (hst : l.stackTraces = false) (ht : c.exceptionTable.toList = tableOf [(0, 10, 13, 21), (0, 10, 17, 13)]) {mc ms kc ks : Nat} (hk : kc ≤ mc ∧ ks ≤ ms) {x0 : Nat} {x1 : Int32} {x2 : Int32} {x3 : Nat}  {S : sT}  (h : wA_L_ofSociety_b0 mc ms kc ks x0 x1 x2 x3 S  Q) : x_X p l e (rA_L_ofSociety mc ms) s m args below meth c gg 5 kc ks (MQ below (va_Qi Q (fun S1 t => s_Rep gg S1 t.heap) (s_A gg)) args s mc ms (s_A gg)) 0 [(0, .ref x0), (1, .int x1), (2, .int x2), (3, .ref x3)] [] S := by
  unfold wA_L_ofSociety_b0 at h
  obtain ⟨hx, hb, -⟩ := id C
  intro H locs ls hR hS hl
  refine lv_aload_n hx hb dL_ofSociety_0 rfl (lv_at hl 3 rfl) ?_
  refine lv_iconst (v := 0) hx hb dL_ofSociety_1 (by decide) ?_
  refine lv_aload_n hx hb dL_ofSociety_2 rfl (lv_at hl 0 rfl) ?_
  refine lv_iload_n hx hb dL_ofSociety_3 rfl (lv_at hl 1 rfl) ?_
  refine lv_iload_n hx hb dL_ofSociety_4 rfl (lv_at hl 2 rfl) ?_
  obtain ⟨hK_x0, h⟩ := h
  rcases h with h | h
  · refine x_ki (x_runV (As := [.int x1, .int x2]) (rest := [.int (0 : Int32), .ref x3]) C hml hR hS (m_X6_ofSociety l gg x0 x1 x2 S h) b_X6_ofSociety q_32_22 (by rw [hK_x0]; decide) (s_E_7 hK_x0) rfl rfl rfl rfl ⟨Nat.le_of_ble_eq_true rfl, Nat.le_of_ble_eq_true rfl⟩ rfl hl.1 (Nat.le_of_ble_eq_true rfl) dL_ofSociety_5 ⟨hk.1, hk.2⟩) hS (fun x102 S101 H locs hn hR hS => ?_)
    replace h := hn
    clear hn
    refine lv_i2l hx hb dL_ofSociety_8 rfl ?_
    refine lv_topl (fun j103 ej103 => ?_)
    replace h := h j103 ej103
    obtain ⟨hK_x3, h⟩ := h
    obtain ⟨hi104, h⟩ := h
    refine x_last C hR hK_x3 hS hi104 dL_ofSociety_9 (fun H locs hR hS => ?_)
    obtain ⟨S105, eS105⟩ : ∃ z : sT, z = s_sG S101 x3 (Int32.toNatClampNeg (0 : Int32)) j103 := ⟨_, rfl⟩
    rw [← eS105] at hR
    replace h := h S105 eS105
    have hK_x3 : s_K S105 x3 = 14 := by rw [eS105]; exact hK_x3
    refine lv_goto (tgt := 21) hx hb dL_ofSociety_10 (by decide) ?_
    refine lv_iconst (v := 0) hx hb dL_ofSociety_21 (by decide) ?_
    refine W.widen (k := mc) (n := ms) hk.1 hk.2 ?_
    exact W.iret (v := (0 : Int32)) hx hb hr (fun t ht hW => ⟨⟨(0 : Int32), S105, rfl, h, x_rt ht hR⟩, hS.F ht⟩) hS.2.2 dL_ofSociety_22
  · obtain ⟨hk1, hk2, h⟩ := h
    refine x_ze (x_runVT (As := [.int x1, .int x2]) (rest := [.int (0 : Int32), .ref x3]) C hml hR hS (mT_X6_ofSociety l gg x0 x1 x2 S hst h) b_X6_ofSociety q_32_22 (by rw [hK_x0]; decide) (s_E_7 hK_x0) rfl rfl rfl rfl ⟨Nat.le_of_ble_eq_true rfl, Nat.le_of_ble_eq_true rfl⟩ rfl hl.1 (Nat.le_of_ble_eq_true rfl) dL_ofSociety_5 ⟨hk1, hk2⟩) hS (fun E9 ce q9 S106 H locs hq hR hS hce hcv hcl => ?_)
    have hk : (kc + 1) ≤ mc ∧ (ks + 6) ≤ ms := ⟨hk1, hk2⟩
    clear h
    obtain ⟨g0, g1, hE⟩ := hq
    rcases hE with rfl | rfl
    · have h := g0 rfl
      refine x_catch C [] ⟨0, 10, 13, 21⟩ [⟨0, 10, 17, 13⟩] (by rw [ht]; rfl) (fun z hz => absurd hz List.not_mem_nil) (by decide) (by decide) q_8_23 xe_c2 hce hcv hcl ?_
      refine lv_astore (lv' := [(4, .ref q9), (0, .ref x0), (1, .int x1), (2, .int x2), (3, .ref x3)]) hx hb dL_ofSociety_13 hl (by decide) rfl (fun ls hl => ?_)
      refine lv_iconst (v := 1) hx hb dL_ofSociety_15 (by decide) ?_
      refine W.widen (k := mc) (n := ms) hk.1 hk.2 ?_
      exact W.iret (v := (1 : Int32)) hx hb hr (fun t ht hW => ⟨⟨(1 : Int32), S106, rfl, h, x_rt ht hR⟩, hS.F ht⟩) hS.2.2 dL_ofSociety_16
    · have h := g1 rfl
      refine x_catch C [⟨0, 10, 13, 21⟩] ⟨0, 10, 17, 13⟩ [] (by rw [ht]; rfl) (fun z hz => by
          simp only [List.mem_cons, List.not_mem_nil, or_false] at hz
          rcases hz with rfl
          · exact ⟨by decide, _, q_8_23, xe_n02⟩) (by decide) (by decide) q_4_0 xe_c0 hce hcv hcl ?_
      refine lv_astore (lv' := [(4, .ref q9), (0, .ref x0), (1, .int x1), (2, .int x2), (3, .ref x3)]) hx hb dL_ofSociety_17 hl (by decide) rfl (fun ls hl => ?_)
      refine lv_iconst (v := 2) hx hb dL_ofSociety_19 (by decide) ?_
      refine W.widen (k := mc) (n := ms) hk.1 hk.2 ?_
      exact W.iret (v := (2 : Int32)) hx hb hr (fun t ht hW => ⟨⟨(2 : Int32), S106, rfl, h, x_rt ht hR⟩, hS.F ht⟩) hS.2.2 dL_ofSociety_20
theorem mA_L_ofSociety (l : Launch) (gg : sG) (mc ms : Nat) (x0 : Nat) (x1 : Int32) (x2 : Int32) (x3 : Nat) (S : sT) (hst : l.stackTraces = false) {Q : Int32 → sT → Prop} (h : wA_L_ofSociety mc ms x0 x1 x2 x3 S Q) : x_Mi l gg yL_ofSociety (x_wsH yL_ofSociety cL_ofSociety 5 (some .int) [(0, 10, 13, 21), (0, 10, 17, 13)]) (rA_L_ofSociety mc ms) [.ref x0, .int x1, .int x2, .ref x3] S Q mc ms := by
  refine x_ofWH (cc := cL_ofSociety) (own := RL) (by decide +kernel) rfl (Nat.le_of_ble_eq_true rfl) ?_
  intro p e s m args below meth c C hml hr hlocks ht H locs ls hR hS hl
  exact tA_L_ofSociety_b0 C hml hr hlocks hst ht ⟨Nat.zero_le _, Nat.zero_le _⟩ h H locs ls hR hS (lv_sub (l' := [(0, .ref x0), (1, .int x1), (2, .int x2), (3, .ref x3)]) hl [0, 1, 2, 3] rfl)
def wA_L_water_b0 (mc ms kc ks : Nat) (x0 : Nat) (x1 : Int32) (x2 : Nat) (S : sT)  (Q : Int32 → sT → Prop) : Prop :=
s_K S x0 = 8 ∧
    ((w_X6_water x0 x1 S (fun x102 S101 =>
    ∀ j103 : Int64, j103 = Int32.toInt64 x102 →
    s_K S101 x2 = 14 ∧
    vp_in (0 : Int32) (s_N S101 x2) ∧
    ∀ S105 : sT, S105 = s_sG S101 x2 (Int32.toNatClampNeg (0 : Int32)) j103 →
    Q (0 : Int32) S105)) ∨
    ((kc + 1) ≤ mc ∧ (ks + 6) ≤ ms ∧ wT_X6_water x0 x1 S (fun E9 S106 =>
    (E9 = "java/lang/IllegalArgumentException" → Q (1 : Int32) S106) ∧
    (E9 = "java/lang/IllegalArgumentException"))))
def wA_L_water (mc ms : Nat) (x0 : Nat) (x1 : Int32) (x2 : Nat) (S : sT) (Q : Int32 → sT → Prop) : Prop := wA_L_water_b0 mc ms 0 0 x0 x1 x2 S Q
def rA_L_water (mc ms : Nat) : Room := x_rm 7 154 mc ms
theorem b_L_water : x_BH yL_water cL_water 4 (some .int) [(0, 9, 12, 13)] 3 := ⟨q_33_22, q_33_21, q_3_22, by decide +kernel⟩
set_option maxHeartbeats 4000000 in
theorem tA_L_water_b0 {Q : Int32 → sT → Prop} (C : x_C p s m args c cL_water RL gg) (hml : c.maxLocals = 4) (hr : meth.sig.returnType = (some .int)) (hlocks : meth.locks = false) (hst : l.stackTraces = false) (ht : c.exceptionTable.toList = tableOf [(0, 9, 12, 13)]) {mc ms kc ks : Nat} (hk : kc ≤ mc ∧ ks ≤ ms) {x0 : Nat} {x1 : Int32} {x2 : Nat}  {S : sT}  (h : wA_L_water_b0 mc ms kc ks x0 x1 x2 S  Q) : x_X p l e (rA_L_water mc ms) s m args below meth c gg 4 kc ks (MQ below (va_Qi Q (fun S1 t => s_Rep gg S1 t.heap) (s_A gg)) args s mc ms (s_A gg)) 0 [(0, .ref x0), (1, .int x1), (2, .ref x2)] [] S := by
  unfold wA_L_water_b0 at h
  obtain ⟨hx, hb, -⟩ := id C
  intro H locs ls hR hS hl
  refine lv_aload_n hx hb dL_water_0 rfl (lv_at hl 2 rfl) ?_
  refine lv_iconst (v := 0) hx hb dL_water_1 (by decide) ?_
  refine lv_aload_n hx hb dL_water_2 rfl (lv_at hl 0 rfl) ?_
  refine lv_iload_n hx hb dL_water_3 rfl (lv_at hl 1 rfl) ?_
  obtain ⟨hK_x0, h⟩ := h
  rcases h with h | h
  · refine x_ki (x_runV (As := [.int x1]) (rest := [.int (0 : Int32), .ref x2]) C hml hR hS (m_X6_water l gg x0 x1 S h) b_X6_water q_33_23 (by rw [hK_x0]; decide) (s_E_7 hK_x0) rfl rfl rfl rfl ⟨Nat.le_of_ble_eq_true rfl, Nat.le_of_ble_eq_true rfl⟩ rfl hl.1 (Nat.le_of_ble_eq_true rfl) dL_water_4 ⟨hk.1, hk.2⟩) hS (fun x102 S101 H locs hn hR hS => ?_)
    replace h := hn
    clear hn
    refine lv_i2l hx hb dL_water_7 rfl ?_
    refine lv_topl (fun j103 ej103 => ?_)
    replace h := h j103 ej103
    obtain ⟨hK_x2, h⟩ := h
    obtain ⟨hi104, h⟩ := h
    refine x_last C hR hK_x2 hS hi104 dL_water_8 (fun H locs hR hS => ?_)
    obtain ⟨S105, eS105⟩ : ∃ z : sT, z = s_sG S101 x2 (Int32.toNatClampNeg (0 : Int32)) j103 := ⟨_, rfl⟩
    rw [← eS105] at hR
    replace h := h S105 eS105
    have hK_x2 : s_K S105 x2 = 14 := by rw [eS105]; exact hK_x2
    refine lv_goto (tgt := 15) hx hb dL_water_9 (by decide) ?_
    refine lv_iconst (v := 0) hx hb dL_water_15 (by decide) ?_
    refine W.widen (k := mc) (n := ms) hk.1 hk.2 ?_
    exact W.iret (v := (0 : Int32)) hx hb hr (fun t ht hW => ⟨⟨(0 : Int32), S105, rfl, h, x_rt ht hR⟩, hS.F ht⟩) hS.2.2 dL_water_16
  · obtain ⟨hk1, hk2, h⟩ := h
    refine x_ze (x_runVT (As := [.int x1]) (rest := [.int (0 : Int32), .ref x2]) C hml hR hS (mT_X6_water l gg x0 x1 S hst h) b_X6_water q_33_23 (by rw [hK_x0]; decide) (s_E_7 hK_x0) rfl rfl rfl rfl ⟨Nat.le_of_ble_eq_true rfl, Nat.le_of_ble_eq_true rfl⟩ rfl hl.1 (Nat.le_of_ble_eq_true rfl) dL_water_4 ⟨hk1, hk2⟩) hS (fun E9 ce q9 S106 H locs hq hR hS hce hcv hcl => ?_)
    have hk : (kc + 1) ≤ mc ∧ (ks + 6) ≤ ms := ⟨hk1, hk2⟩
    clear h
    obtain ⟨g0, hE⟩ := hq
    rcases hE with rfl
    · have h := g0 rfl
      refine x_catch C [] ⟨0, 9, 12, 13⟩ [] (by rw [ht]; rfl) (fun z hz => absurd hz List.not_mem_nil) (by decide) (by decide) q_4_0 xe_c0 hce hcv hcl ?_
      refine lv_astore_n (lv' := [(3, .ref q9), (0, .ref x0), (1, .int x1), (2, .ref x2)]) hx hb dL_water_12 rfl hl (by decide) rfl (fun ls hl => ?_)
      refine lv_iconst (v := 1) hx hb dL_water_13 (by decide) ?_
      refine W.widen (k := mc) (n := ms) hk.1 hk.2 ?_
      exact W.iret (v := (1 : Int32)) hx hb hr (fun t ht hW => ⟨⟨(1 : Int32), S106, rfl, h, x_rt ht hR⟩, hS.F ht⟩) hS.2.2 dL_water_14
theorem mA_L_water (l : Launch) (gg : sG) (mc ms : Nat) (x0 : Nat) (x1 : Int32) (x2 : Nat) (S : sT) (hst : l.stackTraces = false) {Q : Int32 → sT → Prop} (h : wA_L_water mc ms x0 x1 x2 S Q) : x_Mi l gg yL_water (x_wsH yL_water cL_water 4 (some .int) [(0, 9, 12, 13)]) (rA_L_water mc ms) [.ref x0, .int x1, .ref x2] S Q mc ms := by
  refine x_ofWH (cc := cL_water) (own := RL) (by decide +kernel) rfl (Nat.le_of_ble_eq_true rfl) ?_
  intro p e s m args below meth c C hml hr hlocks ht H locs ls hR hS hl
  exact tA_L_water_b0 C hml hr hlocks hst ht ⟨Nat.zero_le _, Nat.zero_le _⟩ h H locs ls hR hS (lv_sub (l' := [(0, .ref x0), (1, .int x1), (2, .ref x2)]) hl [0, 1, 2] rfl)
def wA_L_thought_b0 (mc ms kc ks : Nat) (x0 : Nat) (x1 : Int32) (x2 : Int32) (x3 : Nat) (S : sT)  (Q : Int32 → sT → Prop) : Prop :=
s_K S x0 = 8 ∧
    ((w_X6_thought x0 x1 x2 S (fun x102 S101 =>
    ∀ j103 : Int64, j103 = Int32.toInt64 x102 →
    s_K S101 x3 = 14 ∧
    vp_in (0 : Int32) (s_N S101 x3) ∧
    ∀ S105 : sT, S105 = s_sG S101 x3 (Int32.toNatClampNeg (0 : Int32)) j103 →
    Q (0 : Int32) S105)) ∨
    ((kc + 1) ≤ mc ∧ (ks + 6) ≤ ms ∧ wT_X6_thought x0 x1 x2 S (fun E9 S106 =>
    (E9 = "java/lang/IndexOutOfBoundsException" → Q (1 : Int32) S106) ∧
    (E9 = "java/lang/IndexOutOfBoundsException"))))
def wA_L_thought (mc ms : Nat) (x0 : Nat) (x1 : Int32) (x2 : Int32) (x3 : Nat) (S : sT) (Q : Int32 → sT → Prop) : Prop := wA_L_thought_b0 mc ms 0 0 x0 x1 x2 x3 S Q
def rA_L_thought (mc ms : Nat) : Room := x_rm 8 136 mc ms
theorem b_L_thought : x_BH yL_thought cL_thought 5 (some .int) [(0, 10, 13, 21)] 4 := ⟨q_36_0, q_35_23, q_3_22, by decide +kernel⟩
set_option maxHeartbeats 4000000 in
theorem tA_L_thought_b0 {Q : Int32 → sT → Prop} (C : x_C p s m args c cL_thought RL gg) (hml : c.maxLocals = 5) (hr : meth.sig.returnType = (some .int)) (hlocks : meth.locks = false) (hst : l.stackTraces = false) (ht : c.exceptionTable.toList = tableOf [(0, 10, 13, 21)]) {mc ms kc ks : Nat} (hk : kc ≤ mc ∧ ks ≤ ms) {x0 : Nat} {x1 : Int32} {x2 : Int32} {x3 : Nat}  {S : sT}  (h : wA_L_thought_b0 mc ms kc ks x0 x1 x2 x3 S  Q) : x_X p l e (rA_L_thought mc ms) s m args below meth c gg 5 kc ks (MQ below (va_Qi Q (fun S1 t => s_Rep gg S1 t.heap) (s_A gg)) args s mc ms (s_A gg)) 0 [(0, .ref x0), (1, .int x1), (2, .int x2), (3, .ref x3)] [] S := by
  unfold wA_L_thought_b0 at h
  obtain ⟨hx, hb, -⟩ := id C
  intro H locs ls hR hS hl
  refine lv_aload_n hx hb dL_thought_0 rfl (lv_at hl 3 rfl) ?_
  refine lv_iconst (v := 0) hx hb dL_thought_1 (by decide) ?_
  refine lv_aload_n hx hb dL_thought_2 rfl (lv_at hl 0 rfl) ?_
  refine lv_iload_n hx hb dL_thought_3 rfl (lv_at hl 1 rfl) ?_
  refine lv_iload_n hx hb dL_thought_4 rfl (lv_at hl 2 rfl) ?_
  obtain ⟨hK_x0, h⟩ := h
  rcases h with h | h
  · refine x_ki (x_runV (As := [.int x1, .int x2]) (rest := [.int (0 : Int32), .ref x3]) C hml hR hS (m_X6_thought l gg x0 x1 x2 S h) b_X6_thought q_36_1 (by rw [hK_x0]; decide) (s_E_7 hK_x0) rfl rfl rfl rfl ⟨Nat.le_of_ble_eq_true rfl, Nat.le_of_ble_eq_true rfl⟩ rfl hl.1 (Nat.le_of_ble_eq_true rfl) dL_thought_5 ⟨hk.1, hk.2⟩) hS (fun x102 S101 H locs hn hR hS => ?_)
    replace h := hn
    clear hn
    refine lv_i2l hx hb dL_thought_8 rfl ?_
    refine lv_topl (fun j103 ej103 => ?_)
    replace h := h j103 ej103
    obtain ⟨hK_x3, h⟩ := h
    obtain ⟨hi104, h⟩ := h
    refine x_last C hR hK_x3 hS hi104 dL_thought_9 (fun H locs hR hS => ?_)
    obtain ⟨S105, eS105⟩ : ∃ z : sT, z = s_sG S101 x3 (Int32.toNatClampNeg (0 : Int32)) j103 := ⟨_, rfl⟩
    rw [← eS105] at hR
    replace h := h S105 eS105
    have hK_x3 : s_K S105 x3 = 14 := by rw [eS105]; exact hK_x3
    refine lv_goto (tgt := 17) hx hb dL_thought_10 (by decide) ?_
    refine lv_iconst (v := 0) hx hb dL_thought_17 (by decide) ?_
    refine W.widen (k := mc) (n := ms) hk.1 hk.2 ?_
    exact W.iret (v := (0 : Int32)) hx hb hr (fun t ht hW => ⟨⟨(0 : Int32), S105, rfl, h, x_rt ht hR⟩, hS.F ht⟩) hS.2.2 dL_thought_18
  · obtain ⟨hk1, hk2, h⟩ := h
    refine x_ze (x_runVT (As := [.int x1, .int x2]) (rest := [.int (0 : Int32), .ref x3]) C hml hR hS (mT_X6_thought l gg x0 x1 x2 S hst h) b_X6_thought q_36_1 (by rw [hK_x0]; decide) (s_E_7 hK_x0) rfl rfl rfl rfl ⟨Nat.le_of_ble_eq_true rfl, Nat.le_of_ble_eq_true rfl⟩ rfl hl.1 (Nat.le_of_ble_eq_true rfl) dL_thought_5 ⟨hk1, hk2⟩) hS (fun E9 ce q9 S106 H locs hq hR hS hce hcv hcl => ?_)
    have hk : (kc + 1) ≤ mc ∧ (ks + 6) ≤ ms := ⟨hk1, hk2⟩
    clear h
    obtain ⟨g0, hE⟩ := hq
    rcases hE with rfl
    · have h := g0 rfl
      refine x_catch C [] ⟨0, 10, 13, 21⟩ [] (by rw [ht]; rfl) (fun z hz => absurd hz List.not_mem_nil) (by decide) (by decide) q_8_23 xe_c2 hce hcv hcl ?_
      refine lv_astore (lv' := [(4, .ref q9), (0, .ref x0), (1, .int x1), (2, .int x2), (3, .ref x3)]) hx hb dL_thought_13 hl (by decide) rfl (fun ls hl => ?_)
      refine lv_iconst (v := 1) hx hb dL_thought_15 (by decide) ?_
      refine W.widen (k := mc) (n := ms) hk.1 hk.2 ?_
      exact W.iret (v := (1 : Int32)) hx hb hr (fun t ht hW => ⟨⟨(1 : Int32), S106, rfl, h, x_rt ht hR⟩, hS.F ht⟩) hS.2.2 dL_thought_16
theorem mA_L_thought (l : Launch) (gg : sG) (mc ms : Nat) (x0 : Nat) (x1 : Int32) (x2 : Int32) (x3 : Nat) (S : sT) (hst : l.stackTraces = false) {Q : Int32 → sT → Prop} (h : wA_L_thought mc ms x0 x1 x2 x3 S Q) : x_Mi l gg yL_thought (x_wsH yL_thought cL_thought 5 (some .int) [(0, 10, 13, 21)]) (rA_L_thought mc ms) [.ref x0, .int x1, .int x2, .ref x3] S Q mc ms := by
  refine x_ofWH (cc := cL_thought) (own := RL) (by decide +kernel) rfl (Nat.le_of_ble_eq_true rfl) ?_
  intro p e s m args below meth c C hml hr hlocks ht H locs ls hR hS hl
  exact tA_L_thought_b0 C hml hr hlocks hst ht ⟨Nat.zero_le _, Nat.zero_le _⟩ h H locs ls hR hS (lv_sub (l' := [(0, .ref x0), (1, .int x1), (2, .int x2), (3, .ref x3)]) hl [0, 1, 2, 3] rfl)
def wA_L_many_b0 (mc ms kc ks : Nat) (x0 : Nat) (x1 : Int32) (x2 : Nat) (S : sT)  (Q : Int32 → sT → Prop) : Prop :=
s_K S x0 = 8 ∧
    ((w_X6_many x0 x1 S (fun x102 S101 =>
    ∀ j103 : Int64, j103 = Int32.toInt64 x102 →
    s_K S101 x2 = 14 ∧
    vp_in (0 : Int32) (s_N S101 x2) ∧
    ∀ S105 : sT, S105 = s_sG S101 x2 (Int32.toNatClampNeg (0 : Int32)) j103 →
    Q (0 : Int32) S105)) ∨
    ((kc + 1) ≤ mc ∧ (ks + 6) ≤ ms ∧ wT_X6_many x0 x1 S (fun E9 S106 =>
    (E9 = "java/lang/IllegalArgumentException" → Q (1 : Int32) S106) ∧
    (E9 = "java/lang/IllegalArgumentException"))))
def wA_L_many (mc ms : Nat) (x0 : Nat) (x1 : Int32) (x2 : Nat) (S : sT) (Q : Int32 → sT → Prop) : Prop := wA_L_many_b0 mc ms 0 0 x0 x1 x2 S Q
def rA_L_many (mc ms : Nat) : Room := x_rm 7 154 mc ms
theorem b_L_many : x_BH yL_many cL_many 4 (some .int) [(0, 9, 12, 13)] 3 := ⟨q_36_13, q_36_12, q_3_22, by decide +kernel⟩
set_option maxHeartbeats 4000000 in
theorem tA_L_many_b0 {Q : Int32 → sT → Prop} (C : x_C p s m args c cL_many RL gg) (hml : c.maxLocals = 4) (hr : meth.sig.returnType = (some .int)) (hlocks : meth.locks = false) (hst : l.stackTraces = false) (ht : c.exceptionTable.toList = tableOf [(0, 9, 12, 13)]) {mc ms kc ks : Nat} (hk : kc ≤ mc ∧ ks ≤ ms) {x0 : Nat} {x1 : Int32} {x2 : Nat}  {S : sT}  (h : wA_L_many_b0 mc ms kc ks x0 x1 x2 S  Q) : x_X p l e (rA_L_many mc ms) s m args below meth c gg 4 kc ks (MQ below (va_Qi Q (fun S1 t => s_Rep gg S1 t.heap) (s_A gg)) args s mc ms (s_A gg)) 0 [(0, .ref x0), (1, .int x1), (2, .ref x2)] [] S := by
  unfold wA_L_many_b0 at h
  obtain ⟨hx, hb, -⟩ := id C
  intro H locs ls hR hS hl
  refine lv_aload_n hx hb dL_many_0 rfl (lv_at hl 2 rfl) ?_
  refine lv_iconst (v := 0) hx hb dL_many_1 (by decide) ?_
  refine lv_aload_n hx hb dL_many_2 rfl (lv_at hl 0 rfl) ?_
  refine lv_iload_n hx hb dL_many_3 rfl (lv_at hl 1 rfl) ?_
  obtain ⟨hK_x0, h⟩ := h
  rcases h with h | h
  · refine x_ki (x_runV (As := [.int x1]) (rest := [.int (0 : Int32), .ref x2]) C hml hR hS (m_X6_many l gg x0 x1 S h) b_X6_many q_36_14 (by rw [hK_x0]; decide) (s_E_7 hK_x0) rfl rfl rfl rfl ⟨Nat.le_of_ble_eq_true rfl, Nat.le_of_ble_eq_true rfl⟩ rfl hl.1 (Nat.le_of_ble_eq_true rfl) dL_many_4 ⟨hk.1, hk.2⟩) hS (fun x102 S101 H locs hn hR hS => ?_)
    replace h := hn
    clear hn
    refine lv_i2l hx hb dL_many_7 rfl ?_
    refine lv_topl (fun j103 ej103 => ?_)
    replace h := h j103 ej103
    obtain ⟨hK_x2, h⟩ := h
    obtain ⟨hi104, h⟩ := h
    refine x_last C hR hK_x2 hS hi104 dL_many_8 (fun H locs hR hS => ?_)
    obtain ⟨S105, eS105⟩ : ∃ z : sT, z = s_sG S101 x2 (Int32.toNatClampNeg (0 : Int32)) j103 := ⟨_, rfl⟩
    rw [← eS105] at hR
    replace h := h S105 eS105
    have hK_x2 : s_K S105 x2 = 14 := by rw [eS105]; exact hK_x2
    refine lv_goto (tgt := 15) hx hb dL_many_9 (by decide) ?_
    refine lv_iconst (v := 0) hx hb dL_many_15 (by decide) ?_
    refine W.widen (k := mc) (n := ms) hk.1 hk.2 ?_
    exact W.iret (v := (0 : Int32)) hx hb hr (fun t ht hW => ⟨⟨(0 : Int32), S105, rfl, h, x_rt ht hR⟩, hS.F ht⟩) hS.2.2 dL_many_16
  · obtain ⟨hk1, hk2, h⟩ := h
    refine x_ze (x_runVT (As := [.int x1]) (rest := [.int (0 : Int32), .ref x2]) C hml hR hS (mT_X6_many l gg x0 x1 S hst h) b_X6_many q_36_14 (by rw [hK_x0]; decide) (s_E_7 hK_x0) rfl rfl rfl rfl ⟨Nat.le_of_ble_eq_true rfl, Nat.le_of_ble_eq_true rfl⟩ rfl hl.1 (Nat.le_of_ble_eq_true rfl) dL_many_4 ⟨hk1, hk2⟩) hS (fun E9 ce q9 S106 H locs hq hR hS hce hcv hcl => ?_)
    have hk : (kc + 1) ≤ mc ∧ (ks + 6) ≤ ms := ⟨hk1, hk2⟩
    clear h
    obtain ⟨g0, hE⟩ := hq
    rcases hE with rfl
    · have h := g0 rfl
      refine x_catch C [] ⟨0, 9, 12, 13⟩ [] (by rw [ht]; rfl) (fun z hz => absurd hz List.not_mem_nil) (by decide) (by decide) q_4_0 xe_c0 hce hcv hcl ?_
      refine lv_astore_n (lv' := [(3, .ref q9), (0, .ref x0), (1, .int x1), (2, .ref x2)]) hx hb dL_many_12 rfl hl (by decide) rfl (fun ls hl => ?_)
      refine lv_iconst (v := 1) hx hb dL_many_13 (by decide) ?_
      refine W.widen (k := mc) (n := ms) hk.1 hk.2 ?_
      exact W.iret (v := (1 : Int32)) hx hb hr (fun t ht hW => ⟨⟨(1 : Int32), S106, rfl, h, x_rt ht hR⟩, hS.F ht⟩) hS.2.2 dL_many_14
theorem mA_L_many (l : Launch) (gg : sG) (mc ms : Nat) (x0 : Nat) (x1 : Int32) (x2 : Nat) (S : sT) (hst : l.stackTraces = false) {Q : Int32 → sT → Prop} (h : wA_L_many mc ms x0 x1 x2 S Q) : x_Mi l gg yL_many (x_wsH yL_many cL_many 4 (some .int) [(0, 9, 12, 13)]) (rA_L_many mc ms) [.ref x0, .int x1, .ref x2] S Q mc ms := by
  refine x_ofWH (cc := cL_many) (own := RL) (by decide +kernel) rfl (Nat.le_of_ble_eq_true rfl) ?_
  intro p e s m args below meth c C hml hr hlocks ht H locs ls hR hS hl
  exact tA_L_many_b0 C hml hr hlocks hst ht ⟨Nat.zero_le _, Nat.zero_le _⟩ h H locs ls hR hS (lv_sub (l' := [(0, .ref x0), (1, .int x1), (2, .ref x2)]) hl [0, 1, 2] rfl)
def wA_L_meanDepth_b0 (mc ms kc ks : Nat) (x0 : Nat) (x1 : Int32) (x2 : Nat) (S : sT)  (Q : Int32 → sT → Prop) : Prop :=
s_K S x0 = 8 ∧
    ((w_X6_meanDepth x0 x1 S (fun f102 S101 =>
    s_K S101 x2 = 15 ∧
    vp_in (0 : Int32) (s_N S101 x2) ∧
    ∀ S104 : sT, S104 = s_sD S101 x2 (Int32.toNatClampNeg (0 : Int32)) f102 →
    Q (0 : Int32) S104)) ∨
    ((kc + 1) ≤ mc ∧ (ks + 6) ≤ ms ∧ wT_X6_meanDepth x0 x1 S (fun E9 S105 =>
    (E9 = "java/lang/IndexOutOfBoundsException" → Q (1 : Int32) S105) ∧
    (E9 = "java/lang/IndexOutOfBoundsException"))))
def wA_L_meanDepth (mc ms : Nat) (x0 : Nat) (x1 : Int32) (x2 : Nat) (S : sT) (Q : Int32 → sT → Prop) : Prop := wA_L_meanDepth_b0 mc ms 0 0 x0 x1 x2 S Q
def rA_L_meanDepth (mc ms : Nat) : Room := x_rm 8 134 mc ms
theorem b_L_meanDepth : x_BH yL_meanDepth cL_meanDepth 4 (some .int) [(0, 8, 11, 21)] 3 := ⟨q_37_13, q_37_12, q_3_22, by decide +kernel⟩
set_option maxHeartbeats 4000000 in
theorem tA_L_meanDepth_b0 {Q : Int32 → sT → Prop} (C : x_C p s m args c cL_meanDepth RL gg) (hml : c.maxLocals = 4) (hr : meth.sig.returnType = (some .int)) (hlocks : meth.locks = false) (hst : l.stackTraces = false) (ht : c.exceptionTable.toList = tableOf [(0, 8, 11, 21)]) {mc ms kc ks : Nat} (hk : kc ≤ mc ∧ ks ≤ ms) {x0 : Nat} {x1 : Int32} {x2 : Nat}  {S : sT}  (h : wA_L_meanDepth_b0 mc ms kc ks x0 x1 x2 S  Q) : x_X p l e (rA_L_meanDepth mc ms) s m args below meth c gg 4 kc ks (MQ below (va_Qi Q (fun S1 t => s_Rep gg S1 t.heap) (s_A gg)) args s mc ms (s_A gg)) 0 [(0, .ref x0), (1, .int x1), (2, .ref x2)] [] S := by
  unfold wA_L_meanDepth_b0 at h
  obtain ⟨hx, hb, -⟩ := id C
  intro H locs ls hR hS hl
  refine lv_aload_n hx hb dL_meanDepth_0 rfl (lv_at hl 2 rfl) ?_
  refine lv_iconst (v := 0) hx hb dL_meanDepth_1 (by decide) ?_
  refine lv_aload_n hx hb dL_meanDepth_2 rfl (lv_at hl 0 rfl) ?_
  refine lv_iload_n hx hb dL_meanDepth_3 rfl (lv_at hl 1 rfl) ?_
  obtain ⟨hK_x0, h⟩ := h
  rcases h with h | h
  · refine x_kd (x_runV (As := [.int x1]) (rest := [.int (0 : Int32), .ref x2]) C hml hR hS (m_X6_meanDepth l gg x0 x1 S h) b_X6_meanDepth q_37_14 (by rw [hK_x0]; decide) (s_E_7 hK_x0) rfl rfl rfl rfl ⟨Nat.le_of_ble_eq_true rfl, Nat.le_of_ble_eq_true rfl⟩ rfl hl.1 (Nat.le_of_ble_eq_true rfl) dL_meanDepth_4 ⟨hk.1, hk.2⟩) hS (fun f102 S101 H locs hn hR hS => ?_)
    replace h := hn
    clear hn
    obtain ⟨hK_x2, h⟩ := h
    obtain ⟨hi103, h⟩ := h
    refine x_dast C hR hK_x2 hS hi103 dL_meanDepth_7 (fun H locs hR hS => ?_)
    obtain ⟨S104, eS104⟩ : ∃ z : sT, z = s_sD S101 x2 (Int32.toNatClampNeg (0 : Int32)) f102 := ⟨_, rfl⟩
    rw [← eS104] at hR
    replace h := h S104 eS104
    have hK_x2 : s_K S104 x2 = 15 := by rw [eS104]; exact hK_x2
    refine lv_goto (tgt := 14) hx hb dL_meanDepth_8 (by decide) ?_
    refine lv_iconst (v := 0) hx hb dL_meanDepth_14 (by decide) ?_
    refine W.widen (k := mc) (n := ms) hk.1 hk.2 ?_
    exact W.iret (v := (0 : Int32)) hx hb hr (fun t ht hW => ⟨⟨(0 : Int32), S104, rfl, h, x_rt ht hR⟩, hS.F ht⟩) hS.2.2 dL_meanDepth_15
  · obtain ⟨hk1, hk2, h⟩ := h
    refine x_ze (x_runVT (As := [.int x1]) (rest := [.int (0 : Int32), .ref x2]) C hml hR hS (mT_X6_meanDepth l gg x0 x1 S hst h) b_X6_meanDepth q_37_14 (by rw [hK_x0]; decide) (s_E_7 hK_x0) rfl rfl rfl rfl ⟨Nat.le_of_ble_eq_true rfl, Nat.le_of_ble_eq_true rfl⟩ rfl hl.1 (Nat.le_of_ble_eq_true rfl) dL_meanDepth_4 ⟨hk1, hk2⟩) hS (fun E9 ce q9 S105 H locs hq hR hS hce hcv hcl => ?_)
    have hk : (kc + 1) ≤ mc ∧ (ks + 6) ≤ ms := ⟨hk1, hk2⟩
    clear h
    obtain ⟨g0, hE⟩ := hq
    rcases hE with rfl
    · have h := g0 rfl
      refine x_catch C [] ⟨0, 8, 11, 21⟩ [] (by rw [ht]; rfl) (fun z hz => absurd hz List.not_mem_nil) (by decide) (by decide) q_8_23 xe_c2 hce hcv hcl ?_
      refine lv_astore_n (lv' := [(3, .ref q9), (0, .ref x0), (1, .int x1), (2, .ref x2)]) hx hb dL_meanDepth_11 rfl hl (by decide) rfl (fun ls hl => ?_)
      refine lv_iconst (v := 1) hx hb dL_meanDepth_12 (by decide) ?_
      refine W.widen (k := mc) (n := ms) hk.1 hk.2 ?_
      exact W.iret (v := (1 : Int32)) hx hb hr (fun t ht hW => ⟨⟨(1 : Int32), S105, rfl, h, x_rt ht hR⟩, hS.F ht⟩) hS.2.2 dL_meanDepth_13
theorem mA_L_meanDepth (l : Launch) (gg : sG) (mc ms : Nat) (x0 : Nat) (x1 : Int32) (x2 : Nat) (S : sT) (hst : l.stackTraces = false) {Q : Int32 → sT → Prop} (h : wA_L_meanDepth mc ms x0 x1 x2 S Q) : x_Mi l gg yL_meanDepth (x_wsH yL_meanDepth cL_meanDepth 4 (some .int) [(0, 8, 11, 21)]) (rA_L_meanDepth mc ms) [.ref x0, .int x1, .ref x2] S Q mc ms := by
  refine x_ofWH (cc := cL_meanDepth) (own := RL) (by decide +kernel) rfl (Nat.le_of_ble_eq_true rfl) ?_
  intro p e s m args below meth c C hml hr hlocks ht H locs ls hR hS hl
  exact tA_L_meanDepth_b0 C hml hr hlocks hst ht ⟨Nat.zero_le _, Nat.zero_le _⟩ h H locs ls hR hS (lv_sub (l' := [(0, .ref x0), (1, .int x1), (2, .ref x2)]) hl [0, 1, 2] rfl)
def wA_L_suspect_b0 (mc ms kc ks : Nat) (x0 : Nat) (x1 : Int32) (x2 : Nat) (S : sT)  (Q : Int32 → sT → Prop) : Prop :=
s_K S x0 = 8 ∧
    ((w_X6_suspect x0 x1 S (fun x102 S101 =>
    ∀ j103 : Int64, j103 = Int32.toInt64 x102 →
    s_K S101 x2 = 14 ∧
    vp_in (0 : Int32) (s_N S101 x2) ∧
    ∀ S105 : sT, S105 = s_sG S101 x2 (Int32.toNatClampNeg (0 : Int32)) j103 →
    Q (0 : Int32) S105)) ∨
    ((kc + 1) ≤ mc ∧ (ks + 6) ≤ ms ∧ wT_X6_suspect x0 x1 S (fun E9 S106 =>
    (E9 = "java/lang/IndexOutOfBoundsException" → Q (1 : Int32) S106) ∧
    (E9 = "java/lang/IndexOutOfBoundsException"))))
def wA_L_suspect (mc ms : Nat) (x0 : Nat) (x1 : Int32) (x2 : Nat) (S : sT) (Q : Int32 → sT → Prop) : Prop := wA_L_suspect_b0 mc ms 0 0 x0 x1 x2 S Q
def rA_L_suspect (mc ms : Nat) : Room := x_rm 8 134 mc ms
theorem b_L_suspect : x_BH yL_suspect cL_suspect 4 (some .int) [(0, 9, 12, 21)] 3 := ⟨q_38_5, q_38_4, q_3_22, by decide +kernel⟩
set_option maxHeartbeats 4000000 in
theorem tA_L_suspect_b0 {Q : Int32 → sT → Prop} (C : x_C p s m args c cL_suspect RL gg) (hml : c.maxLocals = 4) (hr : meth.sig.returnType = (some .int)) (hlocks : meth.locks = false) (hst : l.stackTraces = false) (ht : c.exceptionTable.toList = tableOf [(0, 9, 12, 21)]) {mc ms kc ks : Nat} (hk : kc ≤ mc ∧ ks ≤ ms) {x0 : Nat} {x1 : Int32} {x2 : Nat}  {S : sT}  (h : wA_L_suspect_b0 mc ms kc ks x0 x1 x2 S  Q) : x_X p l e (rA_L_suspect mc ms) s m args below meth c gg 4 kc ks (MQ below (va_Qi Q (fun S1 t => s_Rep gg S1 t.heap) (s_A gg)) args s mc ms (s_A gg)) 0 [(0, .ref x0), (1, .int x1), (2, .ref x2)] [] S := by
  unfold wA_L_suspect_b0 at h
  obtain ⟨hx, hb, -⟩ := id C
  intro H locs ls hR hS hl
  refine lv_aload_n hx hb dL_suspect_0 rfl (lv_at hl 2 rfl) ?_
  refine lv_iconst (v := 0) hx hb dL_suspect_1 (by decide) ?_
  refine lv_aload_n hx hb dL_suspect_2 rfl (lv_at hl 0 rfl) ?_
  refine lv_iload_n hx hb dL_suspect_3 rfl (lv_at hl 1 rfl) ?_
  obtain ⟨hK_x0, h⟩ := h
  rcases h with h | h
  · refine x_ki (x_runV (As := [.int x1]) (rest := [.int (0 : Int32), .ref x2]) C hml hR hS (m_X6_suspect l gg x0 x1 S h) b_X6_suspect q_38_6 (by rw [hK_x0]; decide) (s_E_7 hK_x0) rfl rfl rfl rfl ⟨Nat.le_of_ble_eq_true rfl, Nat.le_of_ble_eq_true rfl⟩ rfl hl.1 (Nat.le_of_ble_eq_true rfl) dL_suspect_4 ⟨hk.1, hk.2⟩) hS (fun x102 S101 H locs hn hR hS => ?_)
    replace h := hn
    clear hn
    refine lv_i2l hx hb dL_suspect_7 rfl ?_
    refine lv_topl (fun j103 ej103 => ?_)
    replace h := h j103 ej103
    obtain ⟨hK_x2, h⟩ := h
    obtain ⟨hi104, h⟩ := h
    refine x_last C hR hK_x2 hS hi104 dL_suspect_8 (fun H locs hR hS => ?_)
    obtain ⟨S105, eS105⟩ : ∃ z : sT, z = s_sG S101 x2 (Int32.toNatClampNeg (0 : Int32)) j103 := ⟨_, rfl⟩
    rw [← eS105] at hR
    replace h := h S105 eS105
    have hK_x2 : s_K S105 x2 = 14 := by rw [eS105]; exact hK_x2
    refine lv_goto (tgt := 15) hx hb dL_suspect_9 (by decide) ?_
    refine lv_iconst (v := 0) hx hb dL_suspect_15 (by decide) ?_
    refine W.widen (k := mc) (n := ms) hk.1 hk.2 ?_
    exact W.iret (v := (0 : Int32)) hx hb hr (fun t ht hW => ⟨⟨(0 : Int32), S105, rfl, h, x_rt ht hR⟩, hS.F ht⟩) hS.2.2 dL_suspect_16
  · obtain ⟨hk1, hk2, h⟩ := h
    refine x_ze (x_runVT (As := [.int x1]) (rest := [.int (0 : Int32), .ref x2]) C hml hR hS (mT_X6_suspect l gg x0 x1 S hst h) b_X6_suspect q_38_6 (by rw [hK_x0]; decide) (s_E_7 hK_x0) rfl rfl rfl rfl ⟨Nat.le_of_ble_eq_true rfl, Nat.le_of_ble_eq_true rfl⟩ rfl hl.1 (Nat.le_of_ble_eq_true rfl) dL_suspect_4 ⟨hk1, hk2⟩) hS (fun E9 ce q9 S106 H locs hq hR hS hce hcv hcl => ?_)
    have hk : (kc + 1) ≤ mc ∧ (ks + 6) ≤ ms := ⟨hk1, hk2⟩
    clear h
    obtain ⟨g0, hE⟩ := hq
    rcases hE with rfl
    · have h := g0 rfl
      refine x_catch C [] ⟨0, 9, 12, 21⟩ [] (by rw [ht]; rfl) (fun z hz => absurd hz List.not_mem_nil) (by decide) (by decide) q_8_23 xe_c2 hce hcv hcl ?_
      refine lv_astore_n (lv' := [(3, .ref q9), (0, .ref x0), (1, .int x1), (2, .ref x2)]) hx hb dL_suspect_12 rfl hl (by decide) rfl (fun ls hl => ?_)
      refine lv_iconst (v := 1) hx hb dL_suspect_13 (by decide) ?_
      refine W.widen (k := mc) (n := ms) hk.1 hk.2 ?_
      exact W.iret (v := (1 : Int32)) hx hb hr (fun t ht hW => ⟨⟨(1 : Int32), S106, rfl, h, x_rt ht hR⟩, hS.F ht⟩) hS.2.2 dL_suspect_14
theorem mA_L_suspect (l : Launch) (gg : sG) (mc ms : Nat) (x0 : Nat) (x1 : Int32) (x2 : Nat) (S : sT) (hst : l.stackTraces = false) {Q : Int32 → sT → Prop} (h : wA_L_suspect mc ms x0 x1 x2 S Q) : x_Mi l gg yL_suspect (x_wsH yL_suspect cL_suspect 4 (some .int) [(0, 9, 12, 21)]) (rA_L_suspect mc ms) [.ref x0, .int x1, .ref x2] S Q mc ms := by
  refine x_ofWH (cc := cL_suspect) (own := RL) (by decide +kernel) rfl (Nat.le_of_ble_eq_true rfl) ?_
  intro p e s m args below meth c C hml hr hlocks ht H locs ls hR hS hl
  exact tA_L_suspect_b0 C hml hr hlocks hst ht ⟨Nat.zero_le _, Nat.zero_le _⟩ h H locs ls hR hS (lv_sub (l' := [(0, .ref x0), (1, .int x1), (2, .ref x2)]) hl [0, 1, 2] rfl)
def wA_L_wouldYield_b0 (mc ms kc ks : Nat) (x0 : Nat) (x1 : Int32) (x2 : Int32) (x3 : Nat) (S : sT)  (Q : Int32 → sT → Prop) : Prop :=
s_K S x0 = 8 ∧
    ((w_X6_wouldYield x0 x1 x2 S (fun x102 S101 =>
    ∀ j103 : Int64, j103 = Int32.toInt64 x102 →
    s_K S101 x3 = 14 ∧
    vp_in (0 : Int32) (s_N S101 x3) ∧
    ∀ S105 : sT, S105 = s_sG S101 x3 (Int32.toNatClampNeg (0 : Int32)) j103 →
    Q (0 : Int32) S105)) ∨
    ((kc + 1) ≤ mc ∧ (ks + 6) ≤ ms ∧ wT_X6_wouldYield x0 x1 x2 S (fun E9 S106 =>
    (E9 = "java/lang/IndexOutOfBoundsException" → Q (1 : Int32) S106) ∧
    (E9 = "java/lang/IllegalArgumentException" → Q (2 : Int32) S106) ∧
    (E9 = "java/lang/IndexOutOfBoundsException" ∨ E9 = "java/lang/IllegalArgumentException"))))
def wA_L_wouldYield (mc ms : Nat) (x0 : Nat) (x1 : Int32) (x2 : Int32) (x3 : Nat) (S : sT) (Q : Int32 → sT → Prop) : Prop := wA_L_wouldYield_b0 mc ms 0 0 x0 x1 x2 x3 S Q
def rA_L_wouldYield (mc ms : Nat) : Room := x_rm 8 183 mc ms
theorem b_L_wouldYield : x_BH yL_wouldYield cL_wouldYield 5 (some .int) [(0, 10, 13, 21), (0, 10, 17, 13)] 4 := ⟨q_39_1, q_39_0, q_3_22, by decide +kernel⟩
set_option maxHeartbeats 4000000 in
theorem tA_L_wouldYield_b0 {Q : Int32 → sT → Prop} (C : x_C p s m args c cL_wouldYield RL gg) (hml : c.maxLocals = 5) (hr : meth.sig.returnType = (some .int)) (hlocks : meth.locks = false) (hst : l.stackTraces = false) (ht : c.exceptionTable.toList = tableOf [(0, 10, 13, 21), (0, 10, 17, 13)]) {mc ms kc ks : Nat} (hk : kc ≤ mc ∧ ks ≤ ms) {x0 : Nat} {x1 : Int32} {x2 : Int32} {x3 : Nat}  {S : sT}  (h : wA_L_wouldYield_b0 mc ms kc ks x0 x1 x2 x3 S  Q) : x_X p l e (rA_L_wouldYield mc ms) s m args below meth c gg 5 kc ks (MQ below (va_Qi Q (fun S1 t => s_Rep gg S1 t.heap) (s_A gg)) args s mc ms (s_A gg)) 0 [(0, .ref x0), (1, .int x1), (2, .int x2), (3, .ref x3)] [] S := by
  unfold wA_L_wouldYield_b0 at h
  obtain ⟨hx, hb, -⟩ := id C
  intro H locs ls hR hS hl
  refine lv_aload_n hx hb dL_wouldYield_0 rfl (lv_at hl 3 rfl) ?_
  refine lv_iconst (v := 0) hx hb dL_wouldYield_1 (by decide) ?_
  refine lv_aload_n hx hb dL_wouldYield_2 rfl (lv_at hl 0 rfl) ?_
  refine lv_iload_n hx hb dL_wouldYield_3 rfl (lv_at hl 1 rfl) ?_
  refine lv_iload_n hx hb dL_wouldYield_4 rfl (lv_at hl 2 rfl) ?_
  obtain ⟨hK_x0, h⟩ := h
  rcases h with h | h
  · refine x_ki (x_runV (As := [.int x1, .int x2]) (rest := [.int (0 : Int32), .ref x3]) C hml hR hS (m_X6_wouldYield l gg x0 x1 x2 S h) b_X6_wouldYield q_39_2 (by rw [hK_x0]; decide) (s_E_7 hK_x0) rfl rfl rfl rfl ⟨Nat.le_of_ble_eq_true rfl, Nat.le_of_ble_eq_true rfl⟩ rfl hl.1 (Nat.le_of_ble_eq_true rfl) dL_wouldYield_5 ⟨hk.1, hk.2⟩) hS (fun x102 S101 H locs hn hR hS => ?_)
    replace h := hn
    clear hn
    refine lv_i2l hx hb dL_wouldYield_8 rfl ?_
    refine lv_topl (fun j103 ej103 => ?_)
    replace h := h j103 ej103
    obtain ⟨hK_x3, h⟩ := h
    obtain ⟨hi104, h⟩ := h
    refine x_last C hR hK_x3 hS hi104 dL_wouldYield_9 (fun H locs hR hS => ?_)
    obtain ⟨S105, eS105⟩ : ∃ z : sT, z = s_sG S101 x3 (Int32.toNatClampNeg (0 : Int32)) j103 := ⟨_, rfl⟩
    rw [← eS105] at hR
    replace h := h S105 eS105
    have hK_x3 : s_K S105 x3 = 14 := by rw [eS105]; exact hK_x3
    refine lv_goto (tgt := 21) hx hb dL_wouldYield_10 (by decide) ?_
    refine lv_iconst (v := 0) hx hb dL_wouldYield_21 (by decide) ?_
    refine W.widen (k := mc) (n := ms) hk.1 hk.2 ?_
    exact W.iret (v := (0 : Int32)) hx hb hr (fun t ht hW => ⟨⟨(0 : Int32), S105, rfl, h, x_rt ht hR⟩, hS.F ht⟩) hS.2.2 dL_wouldYield_22
  · obtain ⟨hk1, hk2, h⟩ := h
    refine x_ze (x_runVT (As := [.int x1, .int x2]) (rest := [.int (0 : Int32), .ref x3]) C hml hR hS (mT_X6_wouldYield l gg x0 x1 x2 S hst h) b_X6_wouldYield q_39_2 (by rw [hK_x0]; decide) (s_E_7 hK_x0) rfl rfl rfl rfl ⟨Nat.le_of_ble_eq_true rfl, Nat.le_of_ble_eq_true rfl⟩ rfl hl.1 (Nat.le_of_ble_eq_true rfl) dL_wouldYield_5 ⟨hk1, hk2⟩) hS (fun E9 ce q9 S106 H locs hq hR hS hce hcv hcl => ?_)
    have hk : (kc + 1) ≤ mc ∧ (ks + 6) ≤ ms := ⟨hk1, hk2⟩
    clear h
    obtain ⟨g0, g1, hE⟩ := hq
    rcases hE with rfl | rfl
    · have h := g0 rfl
      refine x_catch C [] ⟨0, 10, 13, 21⟩ [⟨0, 10, 17, 13⟩] (by rw [ht]; rfl) (fun z hz => absurd hz List.not_mem_nil) (by decide) (by decide) q_8_23 xe_c2 hce hcv hcl ?_
      refine lv_astore (lv' := [(4, .ref q9), (0, .ref x0), (1, .int x1), (2, .int x2), (3, .ref x3)]) hx hb dL_wouldYield_13 hl (by decide) rfl (fun ls hl => ?_)
      refine lv_iconst (v := 1) hx hb dL_wouldYield_15 (by decide) ?_
      refine W.widen (k := mc) (n := ms) hk.1 hk.2 ?_
      exact W.iret (v := (1 : Int32)) hx hb hr (fun t ht hW => ⟨⟨(1 : Int32), S106, rfl, h, x_rt ht hR⟩, hS.F ht⟩) hS.2.2 dL_wouldYield_16
    · have h := g1 rfl
      refine x_catch C [⟨0, 10, 13, 21⟩] ⟨0, 10, 17, 13⟩ [] (by rw [ht]; rfl) (fun z hz => by
          simp only [List.mem_cons, List.not_mem_nil, or_false] at hz
          rcases hz with rfl
          · exact ⟨by decide, _, q_8_23, xe_n02⟩) (by decide) (by decide) q_4_0 xe_c0 hce hcv hcl ?_
      refine lv_astore (lv' := [(4, .ref q9), (0, .ref x0), (1, .int x1), (2, .int x2), (3, .ref x3)]) hx hb dL_wouldYield_17 hl (by decide) rfl (fun ls hl => ?_)
      refine lv_iconst (v := 2) hx hb dL_wouldYield_19 (by decide) ?_
      refine W.widen (k := mc) (n := ms) hk.1 hk.2 ?_
      exact W.iret (v := (2 : Int32)) hx hb hr (fun t ht hW => ⟨⟨(2 : Int32), S106, rfl, h, x_rt ht hR⟩, hS.F ht⟩) hS.2.2 dL_wouldYield_20
theorem mA_L_wouldYield (l : Launch) (gg : sG) (mc ms : Nat) (x0 : Nat) (x1 : Int32) (x2 : Int32) (x3 : Nat) (S : sT) (hst : l.stackTraces = false) {Q : Int32 → sT → Prop} (h : wA_L_wouldYield mc ms x0 x1 x2 x3 S Q) : x_Mi l gg yL_wouldYield (x_wsH yL_wouldYield cL_wouldYield 5 (some .int) [(0, 10, 13, 21), (0, 10, 17, 13)]) (rA_L_wouldYield mc ms) [.ref x0, .int x1, .int x2, .ref x3] S Q mc ms := by
  refine x_ofWH (cc := cL_wouldYield) (own := RL) (by decide +kernel) rfl (Nat.le_of_ble_eq_true rfl) ?_
  intro p e s m args below meth c C hml hr hlocks ht H locs ls hR hS hl
  exact tA_L_wouldYield_b0 C hml hr hlocks hst ht ⟨Nat.zero_le _, Nat.zero_le _⟩ h H locs ls hR hS (lv_sub (l' := [(0, .ref x0), (1, .int x1), (2, .int x2), (3, .ref x3)]) hl [0, 1, 2, 3] rfl)
def wA_L_ripeIn_b0 (mc ms kc ks : Nat) (x0 : Nat) (x1 : Int32) (x2 : Nat) (S : sT)  (Q : Int32 → sT → Prop) : Prop :=
s_K S x0 = 8 ∧
    ((w_X6_ripeIn x0 x1 S (fun x102 S101 =>
    ∀ j103 : Int64, j103 = Int32.toInt64 x102 →
    s_K S101 x2 = 14 ∧
    vp_in (0 : Int32) (s_N S101 x2) ∧
    ∀ S105 : sT, S105 = s_sG S101 x2 (Int32.toNatClampNeg (0 : Int32)) j103 →
    Q (0 : Int32) S105)) ∨
    ((kc + 1) ≤ mc ∧ (ks + 6) ≤ ms ∧ wT_X6_ripeIn x0 x1 S (fun E9 S106 =>
    (E9 = "java/lang/IllegalArgumentException" → Q (1 : Int32) S106) ∧
    (E9 = "java/lang/IllegalArgumentException"))))
def wA_L_ripeIn (mc ms : Nat) (x0 : Nat) (x1 : Int32) (x2 : Nat) (S : sT) (Q : Int32 → sT → Prop) : Prop := wA_L_ripeIn_b0 mc ms 0 0 x0 x1 x2 S Q
def rA_L_ripeIn (mc ms : Nat) : Room := x_rm 8 162 mc ms
theorem b_L_ripeIn : x_BH yL_ripeIn cL_ripeIn 4 (some .int) [(0, 9, 12, 13)] 3 := ⟨q_41_2, q_41_1, q_3_22, by decide +kernel⟩
set_option maxHeartbeats 4000000 in
theorem tA_L_ripeIn_b0 {Q : Int32 → sT → Prop} (C : x_C p s m args c cL_ripeIn RL gg) (hml : c.maxLocals = 4) (hr : meth.sig.returnType = (some .int)) (hlocks : meth.locks = false) (hst : l.stackTraces = false) (ht : c.exceptionTable.toList = tableOf [(0, 9, 12, 13)]) {mc ms kc ks : Nat} (hk : kc ≤ mc ∧ ks ≤ ms) {x0 : Nat} {x1 : Int32} {x2 : Nat}  {S : sT}  (h : wA_L_ripeIn_b0 mc ms kc ks x0 x1 x2 S  Q) : x_X p l e (rA_L_ripeIn mc ms) s m args below meth c gg 4 kc ks (MQ below (va_Qi Q (fun S1 t => s_Rep gg S1 t.heap) (s_A gg)) args s mc ms (s_A gg)) 0 [(0, .ref x0), (1, .int x1), (2, .ref x2)] [] S := by
  unfold wA_L_ripeIn_b0 at h
  obtain ⟨hx, hb, -⟩ := id C
  intro H locs ls hR hS hl
  refine lv_aload_n hx hb dL_ripeIn_0 rfl (lv_at hl 2 rfl) ?_
  refine lv_iconst (v := 0) hx hb dL_ripeIn_1 (by decide) ?_
  refine lv_aload_n hx hb dL_ripeIn_2 rfl (lv_at hl 0 rfl) ?_
  refine lv_iload_n hx hb dL_ripeIn_3 rfl (lv_at hl 1 rfl) ?_
  obtain ⟨hK_x0, h⟩ := h
  rcases h with h | h
  · refine x_ki (x_runV (As := [.int x1]) (rest := [.int (0 : Int32), .ref x2]) C hml hR hS (m_X6_ripeIn l gg x0 x1 S h) b_X6_ripeIn q_41_3 (by rw [hK_x0]; decide) (s_E_7 hK_x0) rfl rfl rfl rfl ⟨Nat.le_of_ble_eq_true rfl, Nat.le_of_ble_eq_true rfl⟩ rfl hl.1 (Nat.le_of_ble_eq_true rfl) dL_ripeIn_4 ⟨hk.1, hk.2⟩) hS (fun x102 S101 H locs hn hR hS => ?_)
    replace h := hn
    clear hn
    refine lv_i2l hx hb dL_ripeIn_7 rfl ?_
    refine lv_topl (fun j103 ej103 => ?_)
    replace h := h j103 ej103
    obtain ⟨hK_x2, h⟩ := h
    obtain ⟨hi104, h⟩ := h
    refine x_last C hR hK_x2 hS hi104 dL_ripeIn_8 (fun H locs hR hS => ?_)
    obtain ⟨S105, eS105⟩ : ∃ z : sT, z = s_sG S101 x2 (Int32.toNatClampNeg (0 : Int32)) j103 := ⟨_, rfl⟩
    rw [← eS105] at hR
    replace h := h S105 eS105
    have hK_x2 : s_K S105 x2 = 14 := by rw [eS105]; exact hK_x2
    refine lv_goto (tgt := 15) hx hb dL_ripeIn_9 (by decide) ?_
    refine lv_iconst (v := 0) hx hb dL_ripeIn_15 (by decide) ?_
    refine W.widen (k := mc) (n := ms) hk.1 hk.2 ?_
    exact W.iret (v := (0 : Int32)) hx hb hr (fun t ht hW => ⟨⟨(0 : Int32), S105, rfl, h, x_rt ht hR⟩, hS.F ht⟩) hS.2.2 dL_ripeIn_16
  · obtain ⟨hk1, hk2, h⟩ := h
    refine x_ze (x_runVT (As := [.int x1]) (rest := [.int (0 : Int32), .ref x2]) C hml hR hS (mT_X6_ripeIn l gg x0 x1 S hst h) b_X6_ripeIn q_41_3 (by rw [hK_x0]; decide) (s_E_7 hK_x0) rfl rfl rfl rfl ⟨Nat.le_of_ble_eq_true rfl, Nat.le_of_ble_eq_true rfl⟩ rfl hl.1 (Nat.le_of_ble_eq_true rfl) dL_ripeIn_4 ⟨hk1, hk2⟩) hS (fun E9 ce q9 S106 H locs hq hR hS hce hcv hcl => ?_)
    have hk : (kc + 1) ≤ mc ∧ (ks + 6) ≤ ms := ⟨hk1, hk2⟩
    clear h
    obtain ⟨g0, hE⟩ := hq
    rcases hE with rfl
    · have h := g0 rfl
      refine x_catch C [] ⟨0, 9, 12, 13⟩ [] (by rw [ht]; rfl) (fun z hz => absurd hz List.not_mem_nil) (by decide) (by decide) q_4_0 xe_c0 hce hcv hcl ?_
      refine lv_astore_n (lv' := [(3, .ref q9), (0, .ref x0), (1, .int x1), (2, .ref x2)]) hx hb dL_ripeIn_12 rfl hl (by decide) rfl (fun ls hl => ?_)
      refine lv_iconst (v := 1) hx hb dL_ripeIn_13 (by decide) ?_
      refine W.widen (k := mc) (n := ms) hk.1 hk.2 ?_
      exact W.iret (v := (1 : Int32)) hx hb hr (fun t ht hW => ⟨⟨(1 : Int32), S106, rfl, h, x_rt ht hR⟩, hS.F ht⟩) hS.2.2 dL_ripeIn_14
theorem mA_L_ripeIn (l : Launch) (gg : sG) (mc ms : Nat) (x0 : Nat) (x1 : Int32) (x2 : Nat) (S : sT) (hst : l.stackTraces = false) {Q : Int32 → sT → Prop} (h : wA_L_ripeIn mc ms x0 x1 x2 S Q) : x_Mi l gg yL_ripeIn (x_wsH yL_ripeIn cL_ripeIn 4 (some .int) [(0, 9, 12, 13)]) (rA_L_ripeIn mc ms) [.ref x0, .int x1, .ref x2] S Q mc ms := by
  refine x_ofWH (cc := cL_ripeIn) (own := RL) (by decide +kernel) rfl (Nat.le_of_ble_eq_true rfl) ?_
  intro p e s m args below meth c C hml hr hlocks ht H locs ls hR hS hl
  exact tA_L_ripeIn_b0 C hml hr hlocks hst ht ⟨Nat.zero_le _, Nat.zero_le _⟩ h H locs ls hR hS (lv_sub (l' := [(0, .ref x0), (1, .int x1), (2, .ref x2)]) hl [0, 1, 2] rfl)
def wA_L_plan_b0 (mc ms kc ks : Nat) (x0 : Nat) (x1 : Int32) (x2 : Int32) (x3 : Nat) (S : sT)  (Q : Int32 → sT → Prop) : Prop :=
s_K S x0 = 8 ∧
    ((w_X6_plan x0 x1 x2 S (fun x102 S101 =>
    ∀ j103 : Int64, j103 = Int32.toInt64 x102 →
    s_K S101 x3 = 14 ∧
    vp_in (0 : Int32) (s_N S101 x3) ∧
    ∀ S105 : sT, S105 = s_sG S101 x3 (Int32.toNatClampNeg (0 : Int32)) j103 →
    Q (0 : Int32) S105)) ∨
    ((kc + 1) ≤ mc ∧ (ks + 6) ≤ ms ∧ wT_X6_plan x0 x1 x2 S (fun E9 S106 =>
    (E9 = "java/lang/IllegalArgumentException" → Q (1 : Int32) S106) ∧
    (E9 = "java/lang/IllegalArgumentException"))))
def wA_L_plan (mc ms : Nat) (x0 : Nat) (x1 : Int32) (x2 : Int32) (x3 : Nat) (S : sT) (Q : Int32 → sT → Prop) : Prop := wA_L_plan_b0 mc ms 0 0 x0 x1 x2 x3 S Q
def rA_L_plan (mc ms : Nat) : Room := x_rm 8 190 mc ms
theorem b_L_plan : x_BH yL_plan cL_plan 5 (some .int) [(0, 10, 13, 13)] 4 := ⟨q_42_1, q_42_0, q_3_22, by decide +kernel⟩
set_option maxHeartbeats 4000000 in
theorem tA_L_plan_b0 {Q : Int32 → sT → Prop} (C : x_C p s m args c cL_plan RL gg) (hml : c.maxLocals = 5) (hr : meth.sig.returnType = (some .int)) (hlocks : meth.locks = false) (hst : l.stackTraces = false) (ht : c.exceptionTable.toList = tableOf [(0, 10, 13, 13)]) {mc ms kc ks : Nat} (hk : kc ≤ mc ∧ ks ≤ ms) {x0 : Nat} {x1 : Int32} {x2 : Int32} {x3 : Nat}  {S : sT}  (h : wA_L_plan_b0 mc ms kc ks x0 x1 x2 x3 S  Q) : x_X p l e (rA_L_plan mc ms) s m args below meth c gg 5 kc ks (MQ below (va_Qi Q (fun S1 t => s_Rep gg S1 t.heap) (s_A gg)) args s mc ms (s_A gg)) 0 [(0, .ref x0), (1, .int x1), (2, .int x2), (3, .ref x3)] [] S := by
  unfold wA_L_plan_b0 at h
  obtain ⟨hx, hb, -⟩ := id C
  intro H locs ls hR hS hl
  refine lv_aload_n hx hb dL_plan_0 rfl (lv_at hl 3 rfl) ?_
  refine lv_iconst (v := 0) hx hb dL_plan_1 (by decide) ?_
  refine lv_aload_n hx hb dL_plan_2 rfl (lv_at hl 0 rfl) ?_
  refine lv_iload_n hx hb dL_plan_3 rfl (lv_at hl 1 rfl) ?_
  refine lv_iload_n hx hb dL_plan_4 rfl (lv_at hl 2 rfl) ?_
  obtain ⟨hK_x0, h⟩ := h
  rcases h with h | h
  · refine x_ki (x_runV (As := [.int x1, .int x2]) (rest := [.int (0 : Int32), .ref x3]) C hml hR hS (m_X6_plan l gg x0 x1 x2 S h) b_X6_plan q_42_2 (by rw [hK_x0]; decide) (s_E_7 hK_x0) rfl rfl rfl rfl ⟨Nat.le_of_ble_eq_true rfl, Nat.le_of_ble_eq_true rfl⟩ rfl hl.1 (Nat.le_of_ble_eq_true rfl) dL_plan_5 ⟨hk.1, hk.2⟩) hS (fun x102 S101 H locs hn hR hS => ?_)
    replace h := hn
    clear hn
    refine lv_i2l hx hb dL_plan_8 rfl ?_
    refine lv_topl (fun j103 ej103 => ?_)
    replace h := h j103 ej103
    obtain ⟨hK_x3, h⟩ := h
    obtain ⟨hi104, h⟩ := h
    refine x_last C hR hK_x3 hS hi104 dL_plan_9 (fun H locs hR hS => ?_)
    obtain ⟨S105, eS105⟩ : ∃ z : sT, z = s_sG S101 x3 (Int32.toNatClampNeg (0 : Int32)) j103 := ⟨_, rfl⟩
    rw [← eS105] at hR
    replace h := h S105 eS105
    have hK_x3 : s_K S105 x3 = 14 := by rw [eS105]; exact hK_x3
    refine lv_goto (tgt := 17) hx hb dL_plan_10 (by decide) ?_
    refine lv_iconst (v := 0) hx hb dL_plan_17 (by decide) ?_
    refine W.widen (k := mc) (n := ms) hk.1 hk.2 ?_
    exact W.iret (v := (0 : Int32)) hx hb hr (fun t ht hW => ⟨⟨(0 : Int32), S105, rfl, h, x_rt ht hR⟩, hS.F ht⟩) hS.2.2 dL_plan_18
  · obtain ⟨hk1, hk2, h⟩ := h
    refine x_ze (x_runVT (As := [.int x1, .int x2]) (rest := [.int (0 : Int32), .ref x3]) C hml hR hS (mT_X6_plan l gg x0 x1 x2 S hst h) b_X6_plan q_42_2 (by rw [hK_x0]; decide) (s_E_7 hK_x0) rfl rfl rfl rfl ⟨Nat.le_of_ble_eq_true rfl, Nat.le_of_ble_eq_true rfl⟩ rfl hl.1 (Nat.le_of_ble_eq_true rfl) dL_plan_5 ⟨hk1, hk2⟩) hS (fun E9 ce q9 S106 H locs hq hR hS hce hcv hcl => ?_)
    have hk : (kc + 1) ≤ mc ∧ (ks + 6) ≤ ms := ⟨hk1, hk2⟩
    clear h
    obtain ⟨g0, hE⟩ := hq
    rcases hE with rfl
    · have h := g0 rfl
      refine x_catch C [] ⟨0, 10, 13, 13⟩ [] (by rw [ht]; rfl) (fun z hz => absurd hz List.not_mem_nil) (by decide) (by decide) q_4_0 xe_c0 hce hcv hcl ?_
      refine lv_astore (lv' := [(4, .ref q9), (0, .ref x0), (1, .int x1), (2, .int x2), (3, .ref x3)]) hx hb dL_plan_13 hl (by decide) rfl (fun ls hl => ?_)
      refine lv_iconst (v := 1) hx hb dL_plan_15 (by decide) ?_
      refine W.widen (k := mc) (n := ms) hk.1 hk.2 ?_
      exact W.iret (v := (1 : Int32)) hx hb hr (fun t ht hW => ⟨⟨(1 : Int32), S106, rfl, h, x_rt ht hR⟩, hS.F ht⟩) hS.2.2 dL_plan_16
theorem mA_L_plan (l : Launch) (gg : sG) (mc ms : Nat) (x0 : Nat) (x1 : Int32) (x2 : Int32) (x3 : Nat) (S : sT) (hst : l.stackTraces = false) {Q : Int32 → sT → Prop} (h : wA_L_plan mc ms x0 x1 x2 x3 S Q) : x_Mi l gg yL_plan (x_wsH yL_plan cL_plan 5 (some .int) [(0, 10, 13, 13)]) (rA_L_plan mc ms) [.ref x0, .int x1, .int x2, .ref x3] S Q mc ms := by
  refine x_ofWH (cc := cL_plan) (own := RL) (by decide +kernel) rfl (Nat.le_of_ble_eq_true rfl) ?_
  intro p e s m args below meth c C hml hr hlocks ht H locs ls hR hS hl
  exact tA_L_plan_b0 C hml hr hlocks hst ht ⟨Nat.zero_le _, Nat.zero_le _⟩ h H locs ls hR hS (lv_sub (l' := [(0, .ref x0), (1, .int x1), (2, .int x2), (3, .ref x3)]) hl [0, 1, 2, 3] rfl)
end
