section
variable {p : Program} {l : Launch} {e : Env} {s : State} {m : MethodId} {args : Array Value} {below : List Frame} {meth : Method} {c : Code} {gg : sG}
def wT_X6_society_b43  (S : sT)  (QX : String → sT → Prop) : Prop :=
QX "java/lang/IllegalArgumentException" S
def wT_X6_society_b0 (x0 : Nat) (x1 : Int32) (x2 : Int32) (x3 : Int32) (x4 : Int32) (S : sT)  (QX : String → sT → Prop) : Prop :=
w_X6_isWithin x1 (1 : Int32) (9 : Int32) S (fun x102 S101 =>
    ((x102 = 0 → wT_X6_society_b43  S101  QX) ∧
    (¬ x102 = 0 → w_X6_isWithin x2 (0 : Int32) (50 : Int32) S101 (fun x105 S104 =>
    ((x105 = 0 → wT_X6_society_b43  S104  QX) ∧
    (¬ x105 = 0 → w_X6_isWithin x3 (0 : Int32) (209 : Int32) S104 (fun x108 S107 =>
    ((x108 = 0 → wT_X6_society_b43  S107  QX) ∧
    (¬ x108 = 0 → w_X6_isWithin x4 (1 : Int32) (210 : Int32) S107 (fun x111 S110 =>
    ((¬ x111 = 0 → s_K S110 x0 = 8 ∧
    ∃ a113 : Nat, s_R S110 224 x0 = some a113 ∧
    s_K S110 a113 = 4 ∧
    ∃ a114 : Nat, s_R S110 96 a113 = some a114 ∧
    s_K S110 a114 = 1 ∧
    w_Jx4a65c_size_8abf5 a114 S110 (fun x116 S115 =>
    ((x116 < (3 : Int32) → False) ∧
    (¬ x116 < (3 : Int32) → QX "java/lang/IllegalStateException" S115)))) ∧
    (x111 = 0 → wT_X6_society_b43  S110  QX))))))))))))
def wT_X6_society (x0 : Nat) (x1 : Int32) (x2 : Int32) (x3 : Int32) (x4 : Int32) (S : sT) (QX : String → sT → Prop) : Prop := wT_X6_society_b0 x0 x1 x2 x3 x4 S QX
def rT_X6_society : Room := x_rm 6 92 1 6
set_option maxHeartbeats 4000000 in
theorem tT_X6_society_b43 {QX : String → sT → Prop} (C : x_C p s m args c cX6_society RX6 gg) (hml : c.maxLocals = 5) (hr : meth.sig.returnType = (some .int)) (hlocks : meth.locks = false) (hst : l.stackTraces = false) (ht : ∀ x ∈ c.exceptionTable.toList, False)   {S : sT}  (h : wT_X6_society_b43  S  QX) : x_X p l e rT_X6_society s m args below meth c gg 5 0 0 (vx_MQ below (fun _ _ _ _ => False) (x_XC gg QX) args s 1 6 (s_A gg)) 43 [] [] S := by
  unfold wT_X6_society_b43 at h
  obtain ⟨hx, hb, -⟩ := id C
  intro H locs ls hR hS hl
  exact x_thr hst C hR hS hl hml ht hlocks (by decide) xe_w0 xe_b0 (xe_h0 _) xe_c0 q_4_6 q_4_7 xe_s25 dX6_society_43 dX6_society_46 dX6_society_47 dX6_society_49 dX6_society_52 (Nat.le_of_ble_eq_true rfl) (Nat.le_of_ble_eq_true rfl) (Nat.le_of_ble_eq_true rfl) (Nat.le_of_ble_eq_true rfl) (Nat.le_of_ble_eq_true rfl) (Nat.le_of_ble_eq_true rfl) h
set_option maxHeartbeats 4000000 in
theorem tT_X6_society_b0 {QX : String → sT → Prop} (C : x_C p s m args c cX6_society RX6 gg) (hml : c.maxLocals = 5) (hr : meth.sig.returnType = (some .int)) (hlocks : meth.locks = false) (hst : l.stackTraces = false) (ht : ∀ x ∈ c.exceptionTable.toList, False) {x0 : Nat} {x1 : Int32} {x2 : Int32} {x3 : Int32} {x4 : Int32}  {S : sT}  (h : wT_X6_society_b0 x0 x1 x2 x3 x4 S  QX) : x_X p l e rT_X6_society s m args below meth c gg 5 0 0 (vx_MQ below (fun _ _ _ _ => False) (x_XC gg QX) args s 1 6 (s_A gg)) 0 [(0, .ref x0), (1, .int x1), (2, .int x2), (3, .int x3), (4, .int x4)] [] S := by
  unfold wT_X6_society_b0 at h
  obtain ⟨hx, hb, -⟩ := id C
  intro H locs ls hR hS hl
  refine lv_iload_n hx hb dX6_society_0 rfl (lv_at hl 1 rfl) ?_
  refine lv_iconst (v := 1) hx hb dX6_society_1 (by decide) ?_
  refine lv_bipush (v := 9) hx hb dX6_society_2 (by decide) ?_
  refine x_ki (x_runS (As := [.int x1, .int (1 : Int32), .int (9 : Int32)]) (rest := []) C hml hR hS (m_X6_isWithin l gg x1 (1 : Int32) (9 : Int32) S h) b_X6_isWithin q_4_11 rfl rfl ⟨Nat.le_of_ble_eq_true rfl, Nat.le_of_ble_eq_true rfl⟩ rfl hl.1 (Nat.le_of_ble_eq_true rfl) dX6_society_4 ⟨Nat.le_of_ble_eq_true rfl, Nat.le_of_ble_eq_true rfl⟩) hS (fun x102 S101 H locs hn hR hS => ?_)
  replace h := hn
  clear hn
  refine lv_if_eq (tgt := 43) hx hb dX6_society_7 (by decide) (fun hc103 => ?_) (fun hc103 => ?_)
  · replace h := h.1 hc103
    exact tT_X6_society_b43 C hml hr hlocks hst ht  h H locs ls hR hS (lv_sub (l' := []) hl [] rfl)
  · replace h := h.2 hc103
    refine lv_iload_n hx hb dX6_society_10 rfl (lv_at hl 2 rfl) ?_
    refine lv_iconst (v := 0) hx hb dX6_society_11 (by decide) ?_
    refine lv_bipush (v := 50) hx hb dX6_society_12 (by decide) ?_
    refine x_ki (x_runS (As := [.int x2, .int (0 : Int32), .int (50 : Int32)]) (rest := []) C hml hR hS (m_X6_isWithin l gg x2 (0 : Int32) (50 : Int32) S101 h) b_X6_isWithin q_4_11 rfl rfl ⟨Nat.le_of_ble_eq_true rfl, Nat.le_of_ble_eq_true rfl⟩ rfl hl.1 (Nat.le_of_ble_eq_true rfl) dX6_society_14 ⟨Nat.le_of_ble_eq_true rfl, Nat.le_of_ble_eq_true rfl⟩) hS (fun x105 S104 H locs hn hR hS => ?_)
    replace h := hn
    clear hn
    refine lv_if_eq (tgt := 43) hx hb dX6_society_17 (by decide) (fun hc106 => ?_) (fun hc106 => ?_)
    · replace h := h.1 hc106
      exact tT_X6_society_b43 C hml hr hlocks hst ht  h H locs ls hR hS (lv_sub (l' := []) hl [] rfl)
    · replace h := h.2 hc106
      refine lv_iload_n hx hb dX6_society_20 rfl (lv_at hl 3 rfl) ?_
      refine lv_iconst (v := 0) hx hb dX6_society_21 (by decide) ?_
      refine lv_sipush (v := 209) hx hb dX6_society_22 (by decide) ?_
      refine x_ki (x_runS (As := [.int x3, .int (0 : Int32), .int (209 : Int32)]) (rest := []) C hml hR hS (m_X6_isWithin l gg x3 (0 : Int32) (209 : Int32) S104 h) b_X6_isWithin q_4_11 rfl rfl ⟨Nat.le_of_ble_eq_true rfl, Nat.le_of_ble_eq_true rfl⟩ rfl hl.1 (Nat.le_of_ble_eq_true rfl) dX6_society_25 ⟨Nat.le_of_ble_eq_true rfl, Nat.le_of_ble_eq_true rfl⟩) hS (fun x108 S107 H locs hn hR hS => ?_)
      replace h := hn
      clear hn
      refine lv_if_eq (tgt := 43) hx hb dX6_society_28 (by decide) (fun hc109 => ?_) (fun hc109 => ?_)
      · replace h := h.1 hc109
        exact tT_X6_society_b43 C hml hr hlocks hst ht  h H locs ls hR hS (lv_sub (l' := []) hl [] rfl)
      · replace h := h.2 hc109
        refine lv_iload hx hb dX6_society_31 (lv_at hl 4 rfl) ?_
        refine lv_iconst (v := 1) hx hb dX6_society_33 (by decide) ?_
        refine lv_sipush (v := 210) hx hb dX6_society_34 (by decide) ?_
        refine x_ki (x_runS (As := [.int x4, .int (1 : Int32), .int (210 : Int32)]) (rest := []) C hml hR hS (m_X6_isWithin l gg x4 (1 : Int32) (210 : Int32) S107 h) b_X6_isWithin q_4_11 rfl rfl ⟨Nat.le_of_ble_eq_true rfl, Nat.le_of_ble_eq_true rfl⟩ rfl hl.1 (Nat.le_of_ble_eq_true rfl) dX6_society_37 ⟨Nat.le_of_ble_eq_true rfl, Nat.le_of_ble_eq_true rfl⟩) hS (fun x111 S110 H locs hn hR hS => ?_)
        replace h := hn
        clear hn
        refine lv_if_ne (tgt := 53) hx hb dX6_society_40 (by decide) (fun hc112 => ?_) (fun hc112 => ?_)
        · replace h := h.1 hc112
          refine lv_aload_n hx hb dX6_society_53 rfl (lv_at hl 0 rfl) ?_
          obtain ⟨hK_x0, h⟩ := h
          refine x_g_224 C hR hK_x0 q_1_17 dX6_society_54 ?_
          obtain ⟨a113, ea113, h⟩ := h
          refine x_some ea113 ?_
          obtain ⟨hK_a113, h⟩ := h
          refine x_g_96 C hR hK_a113 q_4_10 dX6_society_57 ?_
          obtain ⟨a114, ea114, h⟩ := h
          refine x_some ea114 ?_
          obtain ⟨hK_a114, h⟩ := h
          refine x_ki (x_runV (As := []) (rest := []) C hml hR hS (m_Jx4a65c_size_8abf5 l gg a114 S110 h) b_Jx4a65c_size_8abf5 q_4_14 (by rw [hK_a114]; decide) (s_E_0 hK_a114) rfl rfl rfl rfl ⟨Nat.le_of_ble_eq_true rfl, Nat.le_of_ble_eq_true rfl⟩ rfl hl.1 (Nat.le_of_ble_eq_true rfl) dX6_society_60 ⟨Nat.le_of_ble_eq_true rfl, Nat.le_of_ble_eq_true rfl⟩) hS (fun x116 S115 H locs hn hR hS => ?_)
          replace h := hn
          clear hn
          refine lv_iconst (v := 3) hx hb dX6_society_63 (by decide) ?_
          refine lv_icmp_lt (tgt := 77) hx hb dX6_society_64 (by decide) (fun hc117 => ?_) (fun hc117 => ?_)
          · replace h := h.1 hc117
            exact h.elim
          · replace h := h.2 hc117
            exact x_thr hst C hR hS hl hml ht hlocks (by decide) xe_w1 xe_b1 (xe_h1 _) xe_c1 q_4_8 q_4_9 xe_s42 dX6_society_67 dX6_society_70 dX6_society_71 dX6_society_73 dX6_society_76 (Nat.le_of_ble_eq_true rfl) (Nat.le_of_ble_eq_true rfl) (Nat.le_of_ble_eq_true rfl) (Nat.le_of_ble_eq_true rfl) (Nat.le_of_ble_eq_true rfl) (Nat.le_of_ble_eq_true rfl) h
        · replace h := h.2 hc112
          exact tT_X6_society_b43 C hml hr hlocks hst ht  h H locs ls hR hS (lv_sub (l' := []) hl [] rfl)
theorem mT_X6_society (l : Launch) (gg : sG) (x0 : Nat) (x1 : Int32) (x2 : Int32) (x3 : Int32) (x4 : Int32) (S : sT) (hst : l.stackTraces = false) {QX : String → sT → Prop} (h : wT_X6_society x0 x1 x2 x3 x4 S QX) : x_T l gg yX6_society (x_ws yX6_society cX6_society 5 (some .int)) rT_X6_society [.ref x0, .int x1, .int x2, .int x3, .int x4] S QX 1 6 := by
  refine x_ofWT (cc := cX6_society) (own := RX6) (by decide +kernel) rfl (Nat.le_of_ble_eq_true rfl) ?_
  intro p e s m args below meth c C hml hr hlocks hin ht H locs ls hR hS hl
  exact tT_X6_society_b0 C hml hr hlocks hst ht h H locs ls hR hS (lv_sub (l' := [(0, .ref x0), (1, .int x1), (2, .int x2), (3, .int x3), (4, .int x4)]) hl [0, 1, 2, 3, 4] rfl)
def wT_X6_societyAt_b18  (S : sT)  (QX : String → sT → Prop) : Prop :=
QX "java/lang/IndexOutOfBoundsException" S
def wT_X6_societyAt_b0 (x0 : Nat) (x1 : Int32) (S : sT)  (QX : String → sT → Prop) : Prop :=
((x1 < 0 → wT_X6_societyAt_b18  S  QX) ∧
    (¬ x1 < 0 → s_K S x0 = 8 ∧
    ∃ a102 : Nat, s_R S 224 x0 = some a102 ∧
    s_K S a102 = 4 ∧
    ∃ a103 : Nat, s_R S 96 a102 = some a103 ∧
    s_K S a103 = 1 ∧
    w_Jx4a65c_size_8abf5 a103 S (fun x105 S104 =>
    ((x1 < x105 → False) ∧
    (¬ x1 < x105 → wT_X6_societyAt_b18  S104  QX)))))
def wT_X6_societyAt (x0 : Nat) (x1 : Int32) (S : sT) (QX : String → sT → Prop) : Prop := wT_X6_societyAt_b0 x0 x1 S QX
def rT_X6_societyAt : Room := x_rm 6 92 1 6
set_option maxHeartbeats 4000000 in
theorem tT_X6_societyAt_b18 {QX : String → sT → Prop} (C : x_C p s m args c cX6_societyAt RX6 gg) (hml : c.maxLocals = 2) (hr : meth.sig.returnType = (some (.object "Subakhall$Society"))) (hlocks : meth.locks = false) (hst : l.stackTraces = false) (ht : ∀ x ∈ c.exceptionTable.toList, False)   {S : sT}  (h : wT_X6_societyAt_b18  S  QX) : x_X p l e rT_X6_societyAt s m args below meth c gg 2 0 0 (vx_MQ below (fun _ _ _ _ => False) (x_XC gg QX) args s 1 6 (s_A gg)) 18 [] [] S := by
  unfold wT_X6_societyAt_b18 at h
  obtain ⟨hx, hb, -⟩ := id C
  intro H locs ls hR hS hl
  exact x_thrW hst C hR hS hl hml ht hlocks (by decide) xe_w2 xe_b2 (xe_h2 _) xe_c2 q_9_9 q_9_10 xe_s370 dX6_societyAt_18 dX6_societyAt_21 dX6_societyAt_22 dX6_societyAt_25 dX6_societyAt_28 (Nat.le_of_ble_eq_true rfl) (Nat.le_of_ble_eq_true rfl) (Nat.le_of_ble_eq_true rfl) (Nat.le_of_ble_eq_true rfl) (Nat.le_of_ble_eq_true rfl) (Nat.le_of_ble_eq_true rfl) h
set_option maxHeartbeats 4000000 in
theorem tT_X6_societyAt_b0 {QX : String → sT → Prop} (C : x_C p s m args c cX6_societyAt RX6 gg) (hml : c.maxLocals = 2) (hr : meth.sig.returnType = (some (.object "Subakhall$Society"))) (hlocks : meth.locks = false) (hst : l.stackTraces = false) (ht : ∀ x ∈ c.exceptionTable.toList, False) {x0 : Nat} {x1 : Int32}  {S : sT}  (h : wT_X6_societyAt_b0 x0 x1 S  QX) : x_X p l e rT_X6_societyAt s m args below meth c gg 2 0 0 (vx_MQ below (fun _ _ _ _ => False) (x_XC gg QX) args s 1 6 (s_A gg)) 0 [(0, .ref x0), (1, .int x1)] [] S := by
  unfold wT_X6_societyAt_b0 at h
  obtain ⟨hx, hb, -⟩ := id C
  intro H locs ls hR hS hl
  refine lv_iload_n hx hb dX6_societyAt_0 rfl (lv_at hl 1 rfl) ?_
  refine lv_if_lt (tgt := 18) hx hb dX6_societyAt_1 (by decide) (fun hc101 => ?_) (fun hc101 => ?_)
  · replace h := h.1 hc101
    exact tT_X6_societyAt_b18 C hml hr hlocks hst ht  h H locs ls hR hS (lv_sub (l' := []) hl [] rfl)
  · replace h := h.2 hc101
    refine lv_iload_n hx hb dX6_societyAt_4 rfl (lv_at hl 1 rfl) ?_
    refine lv_aload_n hx hb dX6_societyAt_5 rfl (lv_at hl 0 rfl) ?_
    obtain ⟨hK_x0, h⟩ := h
    refine x_g_224 C hR hK_x0 q_1_17 dX6_societyAt_6 ?_
    obtain ⟨a102, ea102, h⟩ := h
    refine x_some ea102 ?_
    obtain ⟨hK_a102, h⟩ := h
    refine x_g_96 C hR hK_a102 q_4_10 dX6_societyAt_9 ?_
    obtain ⟨a103, ea103, h⟩ := h
    refine x_some ea103 ?_
    obtain ⟨hK_a103, h⟩ := h
    refine x_ki (x_runV (As := []) (rest := [.int x1]) C hml hR hS (m_Jx4a65c_size_8abf5 l gg a103 S h) b_Jx4a65c_size_8abf5 q_4_14 (by rw [hK_a103]; decide) (s_E_0 hK_a103) rfl rfl rfl rfl ⟨Nat.le_of_ble_eq_true rfl, Nat.le_of_ble_eq_true rfl⟩ rfl hl.1 (Nat.le_of_ble_eq_true rfl) dX6_societyAt_12 ⟨Nat.le_of_ble_eq_true rfl, Nat.le_of_ble_eq_true rfl⟩) hS (fun x105 S104 H locs hn hR hS => ?_)
    replace h := hn
    clear hn
    refine lv_icmp_lt (tgt := 29) hx hb dX6_societyAt_15 (by decide) (fun hc106 => ?_) (fun hc106 => ?_)
    · replace h := h.1 hc106
      exact h.elim
    · replace h := h.2 hc106
      exact tT_X6_societyAt_b18 C hml hr hlocks hst ht  h H locs ls hR hS (lv_sub (l' := []) hl [] rfl)
theorem mT_X6_societyAt (l : Launch) (gg : sG) (x0 : Nat) (x1 : Int32) (S : sT) (hst : l.stackTraces = false) {QX : String → sT → Prop} (h : wT_X6_societyAt x0 x1 S QX) : x_T l gg yX6_societyAt (x_ws yX6_societyAt cX6_societyAt 2 (some (.object "Subakhall$Society"))) rT_X6_societyAt [.ref x0, .int x1] S QX 1 6 := by
  refine x_ofWT (cc := cX6_societyAt) (own := RX6) (by decide +kernel) rfl (Nat.le_of_ble_eq_true rfl) ?_
  intro p e s m args below meth c C hml hr hlocks hin ht H locs ls hR hS hl
  exact tT_X6_societyAt_b0 C hml hr hlocks hst ht h H locs ls hR hS (lv_sub (l' := [(0, .ref x0), (1, .int x1)]) hl [0, 1] rfl)
def wT_X6_field_b26  (S : sT)  (QX : String → sT → Prop) : Prop :=
QX "java/lang/IllegalArgumentException" S
def wT_X6_field_b0 (x0 : Nat) (x1 : Int32) (x2 : Int32) (x3 : Int32) (S : sT)  (QX : String → sT → Prop) : Prop :=
s_K S x0 = 8 ∧
    ((w_X6_societyAt x0 x1 S (fun a102 S101 =>
    w_X6_isWithin x2 (1 : Int32) (9 : Int32) S101 (fun x104 S103 =>
    ((x104 = 0 → wT_X6_field_b26  S103  QX) ∧
    (¬ x104 = 0 → w_X6_isWithin x3 (5 : Int32) (60 : Int32) S103 (fun x107 S106 =>
    ((¬ x107 = 0 → s_K S106 x0 = 8 ∧
    ∃ a109 : Nat, s_R S106 224 x0 = some a109 ∧
    s_K S106 a109 = 4 ∧
    ∃ a110 : Nat, s_R S106 97 a109 = some a110 ∧
    s_K S106 a110 = 1 ∧
    w_Jx4a65c_size_8abf5 a110 S106 (fun x112 S111 =>
    ((x112 < (12 : Int32) → False) ∧
    (¬ x112 < (12 : Int32) → QX "java/lang/IllegalStateException" S111)))) ∧
    (x107 = 0 → wT_X6_field_b26  S106  QX)))))))) ∨ wT_X6_societyAt x0 x1 S QX)
def wT_X6_field (x0 : Nat) (x1 : Int32) (x2 : Int32) (x3 : Int32) (S : sT) (QX : String → sT → Prop) : Prop := wT_X6_field_b0 x0 x1 x2 x3 S QX
def rT_X6_field : Room := x_rm 7 113 1 6
set_option maxHeartbeats 4000000 in
theorem tT_X6_field_b26 {QX : String → sT → Prop} (C : x_C p s m args c cX6_field RX6 gg) (hml : c.maxLocals = 4) (hr : meth.sig.returnType = (some .int)) (hlocks : meth.locks = false) (hst : l.stackTraces = false) (ht : ∀ x ∈ c.exceptionTable.toList, False)   {S : sT}  (h : wT_X6_field_b26  S  QX) : x_X p l e rT_X6_field s m args below meth c gg 4 0 0 (vx_MQ below (fun _ _ _ _ => False) (x_XC gg QX) args s 1 6 (s_A gg)) 26 [] [] S := by
  unfold wT_X6_field_b26 at h
  obtain ⟨hx, hb, -⟩ := id C
  intro H locs ls hR hS hl
  exact x_thr hst C hR hS hl hml ht hlocks (by decide) xe_w0 xe_b0 (xe_h0 _) xe_c0 q_4_6 q_4_7 xe_s53 dX6_field_26 dX6_field_29 dX6_field_30 dX6_field_32 dX6_field_35 (Nat.le_of_ble_eq_true rfl) (Nat.le_of_ble_eq_true rfl) (Nat.le_of_ble_eq_true rfl) (Nat.le_of_ble_eq_true rfl) (Nat.le_of_ble_eq_true rfl) (Nat.le_of_ble_eq_true rfl) h
set_option maxHeartbeats 4000000 in
theorem tT_X6_field_b0 {QX : String → sT → Prop} (C : x_C p s m args c cX6_field RX6 gg) (hml : c.maxLocals = 4) (hr : meth.sig.returnType = (some .int)) (hlocks : meth.locks = false) (hst : l.stackTraces = false) (ht : ∀ x ∈ c.exceptionTable.toList, False) {x0 : Nat} {x1 : Int32} {x2 : Int32} {x3 : Int32}  {S : sT}  (h : wT_X6_field_b0 x0 x1 x2 x3 S  QX) : x_X p l e rT_X6_field s m args below meth c gg 4 0 0 (vx_MQ below (fun _ _ _ _ => False) (x_XC gg QX) args s 1 6 (s_A gg)) 0 [(0, .ref x0), (1, .int x1), (2, .int x2), (3, .int x3)] [] S := by
  unfold wT_X6_field_b0 at h
  obtain ⟨hx, hb, -⟩ := id C
  intro H locs ls hR hS hl
  refine lv_aload_n hx hb dX6_field_0 rfl (lv_at hl 0 rfl) ?_
  refine lv_iload_n hx hb dX6_field_1 rfl (lv_at hl 1 rfl) ?_
  obtain ⟨hK_x0, h⟩ := h
  rcases h with h | h
  · refine x_kq (x_runV (As := [.int x1]) (rest := []) C hml hR hS (m_X6_societyAt l gg x0 x1 S h) b_X6_societyAt q_9_5 (by rw [hK_x0]; decide) (s_E_7 hK_x0) rfl rfl rfl rfl ⟨Nat.le_of_ble_eq_true rfl, Nat.le_of_ble_eq_true rfl⟩ rfl hl.1 (Nat.le_of_ble_eq_true rfl) dX6_field_2 ⟨Nat.le_of_ble_eq_true rfl, Nat.le_of_ble_eq_true rfl⟩) hS (fun ra102 S101 H locs hn hR hS => ?_)
    replace h := hn
    clear hn
    obtain ⟨a102, za102, h⟩ := h
    refine x_some za102 ?_
    refine lv_pop hx hb dX6_field_5 rfl ?_
    refine lv_iload_n hx hb dX6_field_6 rfl (lv_at hl 2 rfl) ?_
    refine lv_iconst (v := 1) hx hb dX6_field_7 (by decide) ?_
    refine lv_bipush (v := 9) hx hb dX6_field_8 (by decide) ?_
    refine x_ki (x_runS (As := [.int x2, .int (1 : Int32), .int (9 : Int32)]) (rest := []) C hml hR hS (m_X6_isWithin l gg x2 (1 : Int32) (9 : Int32) S101 h) b_X6_isWithin q_4_11 rfl rfl ⟨Nat.le_of_ble_eq_true rfl, Nat.le_of_ble_eq_true rfl⟩ rfl hl.1 (Nat.le_of_ble_eq_true rfl) dX6_field_10 ⟨Nat.le_of_ble_eq_true rfl, Nat.le_of_ble_eq_true rfl⟩) hS (fun x104 S103 H locs hn hR hS => ?_)
    replace h := hn
    clear hn
    refine lv_if_eq (tgt := 26) hx hb dX6_field_13 (by decide) (fun hc105 => ?_) (fun hc105 => ?_)
    · replace h := h.1 hc105
      exact tT_X6_field_b26 C hml hr hlocks hst ht  h H locs ls hR hS (lv_sub (l' := []) hl [] rfl)
    · replace h := h.2 hc105
      refine lv_iload_n hx hb dX6_field_16 rfl (lv_at hl 3 rfl) ?_
      refine lv_iconst (v := 5) hx hb dX6_field_17 (by decide) ?_
      refine lv_bipush (v := 60) hx hb dX6_field_18 (by decide) ?_
      refine x_ki (x_runS (As := [.int x3, .int (5 : Int32), .int (60 : Int32)]) (rest := []) C hml hR hS (m_X6_isWithin l gg x3 (5 : Int32) (60 : Int32) S103 h) b_X6_isWithin q_4_11 rfl rfl ⟨Nat.le_of_ble_eq_true rfl, Nat.le_of_ble_eq_true rfl⟩ rfl hl.1 (Nat.le_of_ble_eq_true rfl) dX6_field_20 ⟨Nat.le_of_ble_eq_true rfl, Nat.le_of_ble_eq_true rfl⟩) hS (fun x107 S106 H locs hn hR hS => ?_)
      replace h := hn
      clear hn
      refine lv_if_ne (tgt := 36) hx hb dX6_field_23 (by decide) (fun hc108 => ?_) (fun hc108 => ?_)
      · replace h := h.1 hc108
        refine lv_aload_n hx hb dX6_field_36 rfl (lv_at hl 0 rfl) ?_
        obtain ⟨hK_x0, h⟩ := h
        refine x_g_224 C hR hK_x0 q_1_17 dX6_field_37 ?_
        obtain ⟨a109, ea109, h⟩ := h
        refine x_some ea109 ?_
        obtain ⟨hK_a109, h⟩ := h
        refine x_g_97 C hR hK_a109 q_9_4 dX6_field_40 ?_
        obtain ⟨a110, ea110, h⟩ := h
        refine x_some ea110 ?_
        obtain ⟨hK_a110, h⟩ := h
        refine x_ki (x_runV (As := []) (rest := []) C hml hR hS (m_Jx4a65c_size_8abf5 l gg a110 S106 h) b_Jx4a65c_size_8abf5 q_4_14 (by rw [hK_a110]; decide) (s_E_0 hK_a110) rfl rfl rfl rfl ⟨Nat.le_of_ble_eq_true rfl, Nat.le_of_ble_eq_true rfl⟩ rfl hl.1 (Nat.le_of_ble_eq_true rfl) dX6_field_43 ⟨Nat.le_of_ble_eq_true rfl, Nat.le_of_ble_eq_true rfl⟩) hS (fun x112 S111 H locs hn hR hS => ?_)
        replace h := hn
        clear hn
        refine lv_bipush (v := 12) hx hb dX6_field_46 (by decide) ?_
        refine lv_icmp_lt (tgt := 61) hx hb dX6_field_48 (by decide) (fun hc113 => ?_) (fun hc113 => ?_)
        · replace h := h.1 hc113
          exact h.elim
        · replace h := h.2 hc113
          exact x_thr hst C hR hS hl hml ht hlocks (by decide) xe_w1 xe_b1 (xe_h1 _) xe_c1 q_4_8 q_4_9 xe_s58 dX6_field_51 dX6_field_54 dX6_field_55 dX6_field_57 dX6_field_60 (Nat.le_of_ble_eq_true rfl) (Nat.le_of_ble_eq_true rfl) (Nat.le_of_ble_eq_true rfl) (Nat.le_of_ble_eq_true rfl) (Nat.le_of_ble_eq_true rfl) (Nat.le_of_ble_eq_true rfl) h
      · replace h := h.2 hc108
        exact tT_X6_field_b26 C hml hr hlocks hst ht  h H locs ls hR hS (lv_sub (l' := []) hl [] rfl)
  · exact x_ze (x_runVT (As := [.int x1]) (rest := []) C hml hR hS (mT_X6_societyAt l gg x0 x1 S hst h) b_X6_societyAt q_9_5 (by rw [hK_x0]; decide) (s_E_7 hK_x0) rfl rfl rfl rfl ⟨Nat.le_of_ble_eq_true rfl, Nat.le_of_ble_eq_true rfl⟩ rfl hl.1 (Nat.le_of_ble_eq_true rfl) dX6_field_2 ⟨Nat.le_of_ble_eq_true rfl, Nat.le_of_ble_eq_true rfl⟩) hS (fun E9 ce q9 S1 H1 locs1 hq hR1 hS1 hce hcv hcl => x_zout ht hlocks hq hR1 hS1 hce hcv hcl (Nat.le_of_ble_eq_true rfl) (Nat.le_of_ble_eq_true rfl))
theorem mT_X6_field (l : Launch) (gg : sG) (x0 : Nat) (x1 : Int32) (x2 : Int32) (x3 : Int32) (S : sT) (hst : l.stackTraces = false) {QX : String → sT → Prop} (h : wT_X6_field x0 x1 x2 x3 S QX) : x_T l gg yX6_field (x_ws yX6_field cX6_field 4 (some .int)) rT_X6_field [.ref x0, .int x1, .int x2, .int x3] S QX 1 6 := by
  refine x_ofWT (cc := cX6_field) (own := RX6) (by decide +kernel) rfl (Nat.le_of_ble_eq_true rfl) ?_
  intro p e s m args below meth c C hml hr hlocks hin ht H locs ls hR hS hl
  exact tT_X6_field_b0 C hml hr hlocks hst ht h H locs ls hR hS (lv_sub (l' := [(0, .ref x0), (1, .int x1), (2, .int x2), (3, .int x3)]) hl [0, 1, 2, 3] rfl)
def wT_X6_fieldAt_b18  (S : sT)  (QX : String → sT → Prop) : Prop :=
QX "java/lang/IndexOutOfBoundsException" S
def wT_X6_fieldAt_b0 (x0 : Nat) (x1 : Int32) (S : sT)  (QX : String → sT → Prop) : Prop :=
((x1 < 0 → wT_X6_fieldAt_b18  S  QX) ∧
    (¬ x1 < 0 → s_K S x0 = 8 ∧
    ∃ a102 : Nat, s_R S 224 x0 = some a102 ∧
    s_K S a102 = 4 ∧
    ∃ a103 : Nat, s_R S 97 a102 = some a103 ∧
    s_K S a103 = 1 ∧
    w_Jx4a65c_size_8abf5 a103 S (fun x105 S104 =>
    ((x1 < x105 → False) ∧
    (¬ x1 < x105 → wT_X6_fieldAt_b18  S104  QX)))))
def wT_X6_fieldAt (x0 : Nat) (x1 : Int32) (S : sT) (QX : String → sT → Prop) : Prop := wT_X6_fieldAt_b0 x0 x1 S QX
def rT_X6_fieldAt : Room := x_rm 6 92 1 6
set_option maxHeartbeats 4000000 in
theorem tT_X6_fieldAt_b18 {QX : String → sT → Prop} (C : x_C p s m args c cX6_fieldAt RX6 gg) (hml : c.maxLocals = 2) (hr : meth.sig.returnType = (some (.object "Subakhall$Field"))) (hlocks : meth.locks = false) (hst : l.stackTraces = false) (ht : ∀ x ∈ c.exceptionTable.toList, False)   {S : sT}  (h : wT_X6_fieldAt_b18  S  QX) : x_X p l e rT_X6_fieldAt s m args below meth c gg 2 0 0 (vx_MQ below (fun _ _ _ _ => False) (x_XC gg QX) args s 1 6 (s_A gg)) 18 [] [] S := by
  unfold wT_X6_fieldAt_b18 at h
  obtain ⟨hx, hb, -⟩ := id C
  intro H locs ls hR hS hl
  exact x_thrW hst C hR hS hl hml ht hlocks (by decide) xe_w2 xe_b2 (xe_h2 _) xe_c2 q_9_9 q_9_10 xe_s377 dX6_fieldAt_18 dX6_fieldAt_21 dX6_fieldAt_22 dX6_fieldAt_25 dX6_fieldAt_28 (Nat.le_of_ble_eq_true rfl) (Nat.le_of_ble_eq_true rfl) (Nat.le_of_ble_eq_true rfl) (Nat.le_of_ble_eq_true rfl) (Nat.le_of_ble_eq_true rfl) (Nat.le_of_ble_eq_true rfl) h
set_option maxHeartbeats 4000000 in
theorem tT_X6_fieldAt_b0 {QX : String → sT → Prop} (C : x_C p s m args c cX6_fieldAt RX6 gg) (hml : c.maxLocals = 2) (hr : meth.sig.returnType = (some (.object "Subakhall$Field"))) (hlocks : meth.locks = false) (hst : l.stackTraces = false) (ht : ∀ x ∈ c.exceptionTable.toList, False) {x0 : Nat} {x1 : Int32}  {S : sT}  (h : wT_X6_fieldAt_b0 x0 x1 S  QX) : x_X p l e rT_X6_fieldAt s m args below meth c gg 2 0 0 (vx_MQ below (fun _ _ _ _ => False) (x_XC gg QX) args s 1 6 (s_A gg)) 0 [(0, .ref x0), (1, .int x1)] [] S := by
  unfold wT_X6_fieldAt_b0 at h
  obtain ⟨hx, hb, -⟩ := id C
  intro H locs ls hR hS hl
  refine lv_iload_n hx hb dX6_fieldAt_0 rfl (lv_at hl 1 rfl) ?_
  refine lv_if_lt (tgt := 18) hx hb dX6_fieldAt_1 (by decide) (fun hc101 => ?_) (fun hc101 => ?_)
  · replace h := h.1 hc101
    exact tT_X6_fieldAt_b18 C hml hr hlocks hst ht  h H locs ls hR hS (lv_sub (l' := []) hl [] rfl)
  · replace h := h.2 hc101
    refine lv_iload_n hx hb dX6_fieldAt_4 rfl (lv_at hl 1 rfl) ?_
    refine lv_aload_n hx hb dX6_fieldAt_5 rfl (lv_at hl 0 rfl) ?_
    obtain ⟨hK_x0, h⟩ := h
    refine x_g_224 C hR hK_x0 q_1_17 dX6_fieldAt_6 ?_
    obtain ⟨a102, ea102, h⟩ := h
    refine x_some ea102 ?_
    obtain ⟨hK_a102, h⟩ := h
    refine x_g_97 C hR hK_a102 q_9_4 dX6_fieldAt_9 ?_
    obtain ⟨a103, ea103, h⟩ := h
    refine x_some ea103 ?_
    obtain ⟨hK_a103, h⟩ := h
    refine x_ki (x_runV (As := []) (rest := [.int x1]) C hml hR hS (m_Jx4a65c_size_8abf5 l gg a103 S h) b_Jx4a65c_size_8abf5 q_4_14 (by rw [hK_a103]; decide) (s_E_0 hK_a103) rfl rfl rfl rfl ⟨Nat.le_of_ble_eq_true rfl, Nat.le_of_ble_eq_true rfl⟩ rfl hl.1 (Nat.le_of_ble_eq_true rfl) dX6_fieldAt_12 ⟨Nat.le_of_ble_eq_true rfl, Nat.le_of_ble_eq_true rfl⟩) hS (fun x105 S104 H locs hn hR hS => ?_)
    replace h := hn
    clear hn
    refine lv_icmp_lt (tgt := 29) hx hb dX6_fieldAt_15 (by decide) (fun hc106 => ?_) (fun hc106 => ?_)
    · replace h := h.1 hc106
      exact h.elim
    · replace h := h.2 hc106
      exact tT_X6_fieldAt_b18 C hml hr hlocks hst ht  h H locs ls hR hS (lv_sub (l' := []) hl [] rfl)
theorem mT_X6_fieldAt (l : Launch) (gg : sG) (x0 : Nat) (x1 : Int32) (S : sT) (hst : l.stackTraces = false) {QX : String → sT → Prop} (h : wT_X6_fieldAt x0 x1 S QX) : x_T l gg yX6_fieldAt (x_ws yX6_fieldAt cX6_fieldAt 2 (some (.object "Subakhall$Field"))) rT_X6_fieldAt [.ref x0, .int x1] S QX 1 6 := by
  refine x_ofWT (cc := cX6_fieldAt) (own := RX6) (by decide +kernel) rfl (Nat.le_of_ble_eq_true rfl) ?_
  intro p e s m args below meth c C hml hr hlocks hin ht H locs ls hR hS hl
  exact tT_X6_fieldAt_b0 C hml hr hlocks hst ht h H locs ls hR hS (lv_sub (l' := [(0, .ref x0), (1, .int x1)]) hl [0, 1] rfl)
def wT_X6_gate_b0 (x0 : Nat) (x1 : Int32) (x2 : Int32) (S : sT)  (QX : String → sT → Prop) : Prop :=
s_K S x0 = 8 ∧
    ((w_X6_fieldAt x0 x1 S (fun a102 S101 =>
    False)) ∨ wT_X6_fieldAt x0 x1 S QX)
def wT_X6_gate (x0 : Nat) (x1 : Int32) (x2 : Int32) (S : sT) (QX : String → sT → Prop) : Prop := wT_X6_gate_b0 x0 x1 x2 S QX
def rT_X6_gate : Room := x_rm 7 113 1 6
set_option maxHeartbeats 4000000 in
theorem tT_X6_gate_b0 {QX : String → sT → Prop} (C : x_C p s m args c cX6_gate RX6 gg) (hml : c.maxLocals = 5) (hr : meth.sig.returnType = (some .boolean)) (hlocks : meth.locks = false) (hst : l.stackTraces = false) (ht : ∀ x ∈ c.exceptionTable.toList, False) {x0 : Nat} {x1 : Int32} {x2 : Int32}  {S : sT}  (h : wT_X6_gate_b0 x0 x1 x2 S  QX) : x_X p l e rT_X6_gate s m args below meth c gg 5 0 0 (vx_MQ below (fun _ _ _ _ => False) (x_XC gg QX) args s 1 6 (s_A gg)) 0 [(0, .ref x0), (1, .int x1), (2, .int x2)] [] S := by
  unfold wT_X6_gate_b0 at h
  obtain ⟨hx, hb, -⟩ := id C
  intro H locs ls hR hS hl
  refine lv_aload_n hx hb dX6_gate_0 rfl (lv_at hl 0 rfl) ?_
  refine lv_iload_n hx hb dX6_gate_1 rfl (lv_at hl 1 rfl) ?_
  obtain ⟨hK_x0, h⟩ := h
  rcases h with h | h
  · refine x_kq (x_runV (As := [.int x1]) (rest := []) C hml hR hS (m_X6_fieldAt l gg x0 x1 S h) b_X6_fieldAt q_12_22 (by rw [hK_x0]; decide) (s_E_7 hK_x0) rfl rfl rfl rfl ⟨Nat.le_of_ble_eq_true rfl, Nat.le_of_ble_eq_true rfl⟩ rfl hl.1 (Nat.le_of_ble_eq_true rfl) dX6_gate_2 ⟨Nat.le_of_ble_eq_true rfl, Nat.le_of_ble_eq_true rfl⟩) hS (fun ra102 S101 H locs hn hR hS => ?_)
    replace h := hn
    clear hn
    obtain ⟨a102, za102, h⟩ := h
    refine x_some za102 ?_
    exact h.elim
  · exact x_ze (x_runVT (As := [.int x1]) (rest := []) C hml hR hS (mT_X6_fieldAt l gg x0 x1 S hst h) b_X6_fieldAt q_12_22 (by rw [hK_x0]; decide) (s_E_7 hK_x0) rfl rfl rfl rfl ⟨Nat.le_of_ble_eq_true rfl, Nat.le_of_ble_eq_true rfl⟩ rfl hl.1 (Nat.le_of_ble_eq_true rfl) dX6_gate_2 ⟨Nat.le_of_ble_eq_true rfl, Nat.le_of_ble_eq_true rfl⟩) hS (fun E9 ce q9 S1 H1 locs1 hq hR1 hS1 hce hcv hcl => x_zout ht hlocks hq hR1 hS1 hce hcv hcl (Nat.le_of_ble_eq_true rfl) (Nat.le_of_ble_eq_true rfl))
theorem mT_X6_gate (l : Launch) (gg : sG) (x0 : Nat) (x1 : Int32) (x2 : Int32) (S : sT) (hst : l.stackTraces = false) {QX : String → sT → Prop} (h : wT_X6_gate x0 x1 x2 S QX) : x_T l gg yX6_gate (x_ws yX6_gate cX6_gate 5 (some .boolean)) rT_X6_gate [.ref x0, .int x1, .int x2] S QX 1 6 := by
  refine x_ofWT (cc := cX6_gate) (own := RX6) (by decide +kernel) rfl (Nat.le_of_ble_eq_true rfl) ?_
  intro p e s m args below meth c C hml hr hlocks hin ht H locs ls hR hS hl
  exact tT_X6_gate_b0 C hml hr hlocks hst ht h H locs ls hR hS (lv_sub (l' := [(0, .ref x0), (1, .int x1), (2, .int x2)]) hl [0, 1, 2] rfl)
def wT_X6_stones_b0 (x0 : Nat) (x1 : Int32) (x2 : Int32) (S : sT)  (QX : String → sT → Prop) : Prop :=
s_K S x0 = 8 ∧
    ((w_X6_fieldAt x0 x1 S (fun a102 S101 =>
    w_X6_isWithin x2 (0 : Int32) (5 : Int32) S101 (fun x104 S103 =>
    ((¬ x104 = 0 → False) ∧
    (x104 = 0 → QX "java/lang/IllegalArgumentException" S103))))) ∨ wT_X6_fieldAt x0 x1 S QX)
def wT_X6_stones (x0 : Nat) (x1 : Int32) (x2 : Int32) (S : sT) (QX : String → sT → Prop) : Prop := wT_X6_stones_b0 x0 x1 x2 S QX
def rT_X6_stones : Room := x_rm 7 113 1 6
set_option maxHeartbeats 4000000 in
theorem tT_X6_stones_b0 {QX : String → sT → Prop} (C : x_C p s m args c cX6_stones RX6 gg) (hml : c.maxLocals = 5) (hr : meth.sig.returnType = (some .int)) (hlocks : meth.locks = false) (hst : l.stackTraces = false) (ht : ∀ x ∈ c.exceptionTable.toList, False) {x0 : Nat} {x1 : Int32} {x2 : Int32}  {S : sT}  (h : wT_X6_stones_b0 x0 x1 x2 S  QX) : x_X p l e rT_X6_stones s m args below meth c gg 5 0 0 (vx_MQ below (fun _ _ _ _ => False) (x_XC gg QX) args s 1 6 (s_A gg)) 0 [(0, .ref x0), (1, .int x1), (2, .int x2)] [] S := by
  unfold wT_X6_stones_b0 at h
  obtain ⟨hx, hb, -⟩ := id C
  intro H locs ls hR hS hl
  refine lv_aload_n hx hb dX6_stones_0 rfl (lv_at hl 0 rfl) ?_
  refine lv_iload_n hx hb dX6_stones_1 rfl (lv_at hl 1 rfl) ?_
  obtain ⟨hK_x0, h⟩ := h
  rcases h with h | h
  · refine x_kq (x_runV (As := [.int x1]) (rest := []) C hml hR hS (m_X6_fieldAt l gg x0 x1 S h) b_X6_fieldAt q_12_22 (by rw [hK_x0]; decide) (s_E_7 hK_x0) rfl rfl rfl rfl ⟨Nat.le_of_ble_eq_true rfl, Nat.le_of_ble_eq_true rfl⟩ rfl hl.1 (Nat.le_of_ble_eq_true rfl) dX6_stones_2 ⟨Nat.le_of_ble_eq_true rfl, Nat.le_of_ble_eq_true rfl⟩) hS (fun ra102 S101 H locs hn hR hS => ?_)
    replace h := hn
    clear hn
    obtain ⟨a102, za102, h⟩ := h
    refine x_some za102 ?_
    refine lv_astore_n (lv' := [(3, .ref a102), (0, .ref x0), (1, .int x1), (2, .int x2)]) hx hb dX6_stones_5 rfl hl (by decide) rfl (fun ls hl => ?_)
    refine lv_iload_n hx hb dX6_stones_6 rfl (lv_at hl 3 rfl) ?_
    refine lv_iconst (v := 0) hx hb dX6_stones_7 (by decide) ?_
    refine lv_iconst (v := 5) hx hb dX6_stones_8 (by decide) ?_
    refine x_ki (x_runS (As := [.int x2, .int (0 : Int32), .int (5 : Int32)]) (rest := []) C hml hR hS (m_X6_isWithin l gg x2 (0 : Int32) (5 : Int32) S101 h) b_X6_isWithin q_4_11 rfl rfl ⟨Nat.le_of_ble_eq_true rfl, Nat.le_of_ble_eq_true rfl⟩ rfl hl.1 (Nat.le_of_ble_eq_true rfl) dX6_stones_9 ⟨Nat.le_of_ble_eq_true rfl, Nat.le_of_ble_eq_true rfl⟩) hS (fun x104 S103 H locs hn hR hS => ?_)
    replace h := hn
    clear hn
    refine lv_if_ne (tgt := 25) hx hb dX6_stones_12 (by decide) (fun hc105 => ?_) (fun hc105 => ?_)
    · replace h := h.1 hc105
      exact h.elim
    · replace h := h.2 hc105
      exact x_thr hst C hR hS hl hml ht hlocks (by decide) xe_w0 xe_b0 (xe_h0 _) xe_c0 q_4_6 q_4_7 xe_s74 dX6_stones_15 dX6_stones_18 dX6_stones_19 dX6_stones_21 dX6_stones_24 (Nat.le_of_ble_eq_true rfl) (Nat.le_of_ble_eq_true rfl) (Nat.le_of_ble_eq_true rfl) (Nat.le_of_ble_eq_true rfl) (Nat.le_of_ble_eq_true rfl) (Nat.le_of_ble_eq_true rfl) h
  · exact x_ze (x_runVT (As := [.int x1]) (rest := []) C hml hR hS (mT_X6_fieldAt l gg x0 x1 S hst h) b_X6_fieldAt q_12_22 (by rw [hK_x0]; decide) (s_E_7 hK_x0) rfl rfl rfl rfl ⟨Nat.le_of_ble_eq_true rfl, Nat.le_of_ble_eq_true rfl⟩ rfl hl.1 (Nat.le_of_ble_eq_true rfl) dX6_stones_2 ⟨Nat.le_of_ble_eq_true rfl, Nat.le_of_ble_eq_true rfl⟩) hS (fun E9 ce q9 S1 H1 locs1 hq hR1 hS1 hce hcv hcl => x_zout ht hlocks hq hR1 hS1 hce hcv hcl (Nat.le_of_ble_eq_true rfl) (Nat.le_of_ble_eq_true rfl))
theorem mT_X6_stones (l : Launch) (gg : sG) (x0 : Nat) (x1 : Int32) (x2 : Int32) (S : sT) (hst : l.stackTraces = false) {QX : String → sT → Prop} (h : wT_X6_stones x0 x1 x2 S QX) : x_T l gg yX6_stones (x_ws yX6_stones cX6_stones 5 (some .int)) rT_X6_stones [.ref x0, .int x1, .int x2] S QX 1 6 := by
  refine x_ofWT (cc := cX6_stones) (own := RX6) (by decide +kernel) rfl (Nat.le_of_ble_eq_true rfl) ?_
  intro p e s m args below meth c C hml hr hlocks hin ht H locs ls hR hS hl
  exact tT_X6_stones_b0 C hml hr hlocks hst ht h H locs ls hR hS (lv_sub (l' := [(0, .ref x0), (1, .int x1), (2, .int x2)]) hl [0, 1, 2] rfl)
def wT_X6_rotate_b0 (x0 : Nat) (x1 : Int32) (x2 : Int32) (S : sT)  (QX : String → sT → Prop) : Prop :=
s_K S x0 = 8 ∧
    ((w_X6_societyAt x0 x1 S (fun a102 S101 =>
    False)) ∨ wT_X6_societyAt x0 x1 S QX)
def wT_X6_rotate (x0 : Nat) (x1 : Int32) (x2 : Int32) (S : sT) (QX : String → sT → Prop) : Prop := wT_X6_rotate_b0 x0 x1 x2 S QX
def rT_X6_rotate : Room := x_rm 7 113 1 6
set_option maxHeartbeats 4000000 in
theorem tT_X6_rotate_b0 {QX : String → sT → Prop} (C : x_C p s m args c cX6_rotate RX6 gg) (hml : c.maxLocals = 5) (hr : meth.sig.returnType = (some .boolean)) (hlocks : meth.locks = false) (hst : l.stackTraces = false) (ht : ∀ x ∈ c.exceptionTable.toList, False) {x0 : Nat} {x1 : Int32} {x2 : Int32}  {S : sT}  (h : wT_X6_rotate_b0 x0 x1 x2 S  QX) : x_X p l e rT_X6_rotate s m args below meth c gg 5 0 0 (vx_MQ below (fun _ _ _ _ => False) (x_XC gg QX) args s 1 6 (s_A gg)) 0 [(0, .ref x0), (1, .int x1), (2, .int x2)] [] S := by
  unfold wT_X6_rotate_b0 at h
  obtain ⟨hx, hb, -⟩ := id C
  intro H locs ls hR hS hl
  refine lv_aload_n hx hb dX6_rotate_0 rfl (lv_at hl 0 rfl) ?_
  refine lv_iload_n hx hb dX6_rotate_1 rfl (lv_at hl 1 rfl) ?_
  obtain ⟨hK_x0, h⟩ := h
  rcases h with h | h
  · refine x_kq (x_runV (As := [.int x1]) (rest := []) C hml hR hS (m_X6_societyAt l gg x0 x1 S h) b_X6_societyAt q_9_5 (by rw [hK_x0]; decide) (s_E_7 hK_x0) rfl rfl rfl rfl ⟨Nat.le_of_ble_eq_true rfl, Nat.le_of_ble_eq_true rfl⟩ rfl hl.1 (Nat.le_of_ble_eq_true rfl) dX6_rotate_2 ⟨Nat.le_of_ble_eq_true rfl, Nat.le_of_ble_eq_true rfl⟩) hS (fun ra102 S101 H locs hn hR hS => ?_)
    replace h := hn
    clear hn
    obtain ⟨a102, za102, h⟩ := h
    refine x_some za102 ?_
    exact h.elim
  · exact x_ze (x_runVT (As := [.int x1]) (rest := []) C hml hR hS (mT_X6_societyAt l gg x0 x1 S hst h) b_X6_societyAt q_9_5 (by rw [hK_x0]; decide) (s_E_7 hK_x0) rfl rfl rfl rfl ⟨Nat.le_of_ble_eq_true rfl, Nat.le_of_ble_eq_true rfl⟩ rfl hl.1 (Nat.le_of_ble_eq_true rfl) dX6_rotate_2 ⟨Nat.le_of_ble_eq_true rfl, Nat.le_of_ble_eq_true rfl⟩) hS (fun E9 ce q9 S1 H1 locs1 hq hR1 hS1 hce hcv hcl => x_zout ht hlocks hq hR1 hS1 hce hcv hcl (Nat.le_of_ble_eq_true rfl) (Nat.le_of_ble_eq_true rfl))
theorem mT_X6_rotate (l : Launch) (gg : sG) (x0 : Nat) (x1 : Int32) (x2 : Int32) (S : sT) (hst : l.stackTraces = false) {QX : String → sT → Prop} (h : wT_X6_rotate x0 x1 x2 S QX) : x_T l gg yX6_rotate (x_ws yX6_rotate cX6_rotate 5 (some .boolean)) rT_X6_rotate [.ref x0, .int x1, .int x2] S QX 1 6 := by
  refine x_ofWT (cc := cX6_rotate) (own := RX6) (by decide +kernel) rfl (Nat.le_of_ble_eq_true rfl) ?_
  intro p e s m args below meth c C hml hr hlocks hin ht H locs ls hR hS hl
  exact tT_X6_rotate_b0 C hml hr hlocks hst ht h H locs ls hR hS (lv_sub (l' := [(0, .ref x0), (1, .int x1), (2, .int x2)]) hl [0, 1, 2] rfl)
def wT_X6_puddle_b25  (S : sT)  (QX : String → sT → Prop) : Prop :=
QX "java/lang/IllegalStateException" S
def wT_X6_puddle_b0 (x0 : Nat) (x1 : Int32) (S : sT)  (QX : String → sT → Prop) : Prop :=
s_K S x0 = 8 ∧
    ((w_X6_fieldAt x0 x1 S (fun a102 S101 =>
    s_K S101 a102 = 3 ∧
    ∃ a103 : Nat, s_R S101 69 a102 = some a103 ∧
    s_K S101 a103 = 2 ∧
    ∀ x104 : Int32, x104 = s_I S101 32 a103 →
    ((¬ x104 = 0 → wT_X6_puddle_b25  S101  QX) ∧
    (x104 = 0 → ∀ x106 : Int32, x106 = s_I S101 73 a102 →
    (((10 : Int32) ≤ x106 → False) ∧
    (¬ (10 : Int32) ≤ x106 → wT_X6_puddle_b25  S101  QX)))))) ∨ wT_X6_fieldAt x0 x1 S QX)
def wT_X6_puddle (x0 : Nat) (x1 : Int32) (S : sT) (QX : String → sT → Prop) : Prop := wT_X6_puddle_b0 x0 x1 S QX
def rT_X6_puddle : Room := x_rm 7 113 1 6
set_option maxHeartbeats 4000000 in
theorem tT_X6_puddle_b25 {QX : String → sT → Prop} (C : x_C p s m args c cX6_puddle RX6 gg) (hml : c.maxLocals = 3) (hr : meth.sig.returnType = (some .int)) (hlocks : meth.locks = false) (hst : l.stackTraces = false) (ht : ∀ x ∈ c.exceptionTable.toList, False)   {S : sT}  (h : wT_X6_puddle_b25  S  QX) : x_X p l e rT_X6_puddle s m args below meth c gg 3 0 0 (vx_MQ below (fun _ _ _ _ => False) (x_XC gg QX) args s 1 6 (s_A gg)) 25 [] [] S := by
  unfold wT_X6_puddle_b25 at h
  obtain ⟨hx, hb, -⟩ := id C
  intro H locs ls hR hS hl
  exact x_thr hst C hR hS hl hml ht hlocks (by decide) xe_w1 xe_b1 (xe_h1 _) xe_c1 q_4_8 q_4_9 xe_s97 dX6_puddle_25 dX6_puddle_28 dX6_puddle_29 dX6_puddle_31 dX6_puddle_34 (Nat.le_of_ble_eq_true rfl) (Nat.le_of_ble_eq_true rfl) (Nat.le_of_ble_eq_true rfl) (Nat.le_of_ble_eq_true rfl) (Nat.le_of_ble_eq_true rfl) (Nat.le_of_ble_eq_true rfl) h
set_option maxHeartbeats 4000000 in
theorem tT_X6_puddle_b0 {QX : String → sT → Prop} (C : x_C p s m args c cX6_puddle RX6 gg) (hml : c.maxLocals = 3) (hr : meth.sig.returnType = (some .int)) (hlocks : meth.locks = false) (hst : l.stackTraces = false) (ht : ∀ x ∈ c.exceptionTable.toList, False) {x0 : Nat} {x1 : Int32}  {S : sT}  (h : wT_X6_puddle_b0 x0 x1 S  QX) : x_X p l e rT_X6_puddle s m args below meth c gg 3 0 0 (vx_MQ below (fun _ _ _ _ => False) (x_XC gg QX) args s 1 6 (s_A gg)) 0 [(0, .ref x0), (1, .int x1)] [] S := by
  unfold wT_X6_puddle_b0 at h
  obtain ⟨hx, hb, -⟩ := id C
  intro H locs ls hR hS hl
  refine lv_aload_n hx hb dX6_puddle_0 rfl (lv_at hl 0 rfl) ?_
  refine lv_iload_n hx hb dX6_puddle_1 rfl (lv_at hl 1 rfl) ?_
  obtain ⟨hK_x0, h⟩ := h
  rcases h with h | h
  · refine x_kq (x_runV (As := [.int x1]) (rest := []) C hml hR hS (m_X6_fieldAt l gg x0 x1 S h) b_X6_fieldAt q_12_22 (by rw [hK_x0]; decide) (s_E_7 hK_x0) rfl rfl rfl rfl ⟨Nat.le_of_ble_eq_true rfl, Nat.le_of_ble_eq_true rfl⟩ rfl hl.1 (Nat.le_of_ble_eq_true rfl) dX6_puddle_2 ⟨Nat.le_of_ble_eq_true rfl, Nat.le_of_ble_eq_true rfl⟩) hS (fun ra102 S101 H locs hn hR hS => ?_)
    replace h := hn
    clear hn
    obtain ⟨a102, za102, h⟩ := h
    refine x_some za102 ?_
    refine lv_astore_n (lv' := [(2, .ref a102), (0, .ref x0), (1, .int x1)]) hx hb dX6_puddle_5 rfl hl (by decide) rfl (fun ls hl => ?_)
    refine lv_aload_n hx hb dX6_puddle_6 rfl (lv_at hl 0 rfl) ?_
    obtain ⟨hK_a102, h⟩ := h
    refine x_g_69 C hR hK_a102 q_14_18 dX6_puddle_7 ?_
    obtain ⟨a103, ea103, h⟩ := h
    refine x_some ea103 ?_
    obtain ⟨hK_a103, h⟩ := h
    refine x_g_32 C hR hK_a103 q_14_19 dX6_puddle_10 ?_
    refine lv_topi (fun x104 ex104 => ?_)
    replace h := h x104 ex104
    refine lv_if_ne (tgt := 25) hx hb dX6_puddle_13 (by decide) (fun hc105 => ?_) (fun hc105 => ?_)
    · replace h := h.1 hc105
      exact tT_X6_puddle_b25 C hml hr hlocks hst ht  h H locs ls hR hS (lv_sub (l' := []) hl [] rfl)
    · replace h := h.2 hc105
      refine lv_aload_n hx hb dX6_puddle_16 rfl (lv_at hl 0 rfl) ?_
      refine x_g_73 C hR hK_a102 q_14_20 dX6_puddle_17 ?_
      refine lv_topi (fun x106 ex106 => ?_)
      replace h := h x106 ex106
      refine lv_bipush (v := 10) hx hb dX6_puddle_20 (by decide) ?_
      refine lv_icmp_ge (tgt := 35) hx hb dX6_puddle_22 (by decide) (fun hc107 => ?_) (fun hc107 => ?_)
      · replace h := h.1 hc107
        exact h.elim
      · replace h := h.2 hc107
        exact tT_X6_puddle_b25 C hml hr hlocks hst ht  h H locs ls hR hS (lv_sub (l' := []) hl [] rfl)
  · exact x_ze (x_runVT (As := [.int x1]) (rest := []) C hml hR hS (mT_X6_fieldAt l gg x0 x1 S hst h) b_X6_fieldAt q_12_22 (by rw [hK_x0]; decide) (s_E_7 hK_x0) rfl rfl rfl rfl ⟨Nat.le_of_ble_eq_true rfl, Nat.le_of_ble_eq_true rfl⟩ rfl hl.1 (Nat.le_of_ble_eq_true rfl) dX6_puddle_2 ⟨Nat.le_of_ble_eq_true rfl, Nat.le_of_ble_eq_true rfl⟩) hS (fun E9 ce q9 S1 H1 locs1 hq hR1 hS1 hce hcv hcl => x_zout ht hlocks hq hR1 hS1 hce hcv hcl (Nat.le_of_ble_eq_true rfl) (Nat.le_of_ble_eq_true rfl))
theorem mT_X6_puddle (l : Launch) (gg : sG) (x0 : Nat) (x1 : Int32) (S : sT) (hst : l.stackTraces = false) {QX : String → sT → Prop} (h : wT_X6_puddle x0 x1 S QX) : x_T l gg yX6_puddle (x_ws yX6_puddle cX6_puddle 3 (some .int)) rT_X6_puddle [.ref x0, .int x1] S QX 1 6 := by
  refine x_ofWT (cc := cX6_puddle) (own := RX6) (by decide +kernel) rfl (Nat.le_of_ble_eq_true rfl) ?_
  intro p e s m args below meth c C hml hr hlocks hin ht H locs ls hR hS hl
  exact tT_X6_puddle_b0 C hml hr hlocks hst ht h H locs ls hR hS (lv_sub (l' := [(0, .ref x0), (1, .int x1)]) hl [0, 1] rfl)
def wT_X6_checkKind_b0 (x0 : Int32) (S : sT)  (QX : String → sT → Prop) : Prop :=
w_X6_isWithin x0 (0 : Int32) (2 : Int32) S (fun x102 S101 =>
    ((¬ x102 = 0 → False) ∧
    (x102 = 0 → QX "java/lang/IllegalArgumentException" S101)))
def wT_X6_checkKind (x0 : Int32) (S : sT) (QX : String → sT → Prop) : Prop := wT_X6_checkKind_b0 x0 S QX
def rT_X6_checkKind : Room := x_rm 6 92 1 6
set_option maxHeartbeats 4000000 in
theorem tT_X6_checkKind_b0 {QX : String → sT → Prop} (C : x_C p s m args c cX6_checkKind RX6 gg) (hml : c.maxLocals = 1) (hr : meth.sig.returnType = none) (hlocks : meth.locks = false) (hst : l.stackTraces = false) (ht : ∀ x ∈ c.exceptionTable.toList, False) {x0 : Int32}  {S : sT}  (h : wT_X6_checkKind_b0 x0 S  QX) : x_X p l e rT_X6_checkKind s m args below meth c gg 1 0 0 (vx_MQ below (fun _ _ _ _ => False) (x_XC gg QX) args s 1 6 (s_A gg)) 0 [(0, .int x0)] [] S := by
  unfold wT_X6_checkKind_b0 at h
  obtain ⟨hx, hb, -⟩ := id C
  intro H locs ls hR hS hl
  refine lv_iload_n hx hb dX6_checkKind_0 rfl (lv_at hl 0 rfl) ?_
  refine lv_iconst (v := 0) hx hb dX6_checkKind_1 (by decide) ?_
  refine lv_iconst (v := 2) hx hb dX6_checkKind_2 (by decide) ?_
  refine x_ki (x_runS (As := [.int x0, .int (0 : Int32), .int (2 : Int32)]) (rest := []) C hml hR hS (m_X6_isWithin l gg x0 (0 : Int32) (2 : Int32) S h) b_X6_isWithin q_4_11 rfl rfl ⟨Nat.le_of_ble_eq_true rfl, Nat.le_of_ble_eq_true rfl⟩ rfl hl.1 (Nat.le_of_ble_eq_true rfl) dX6_checkKind_3 ⟨Nat.le_of_ble_eq_true rfl, Nat.le_of_ble_eq_true rfl⟩) hS (fun x102 S101 H locs hn hR hS => ?_)
  replace h := hn
  clear hn
  refine lv_if_ne (tgt := 20) hx hb dX6_checkKind_6 (by decide) (fun hc103 => ?_) (fun hc103 => ?_)
  · replace h := h.1 hc103
    exact h.elim
  · replace h := h.2 hc103
    exact x_thrW hst C hR hS hl hml ht hlocks (by decide) xe_w0 xe_b0 (xe_h0 _) xe_c0 q_4_6 q_4_7 xe_s381 dX6_checkKind_9 dX6_checkKind_12 dX6_checkKind_13 dX6_checkKind_16 dX6_checkKind_19 (Nat.le_of_ble_eq_true rfl) (Nat.le_of_ble_eq_true rfl) (Nat.le_of_ble_eq_true rfl) (Nat.le_of_ble_eq_true rfl) (Nat.le_of_ble_eq_true rfl) (Nat.le_of_ble_eq_true rfl) h
theorem mT_X6_checkKind (l : Launch) (gg : sG) (x0 : Int32) (S : sT) (hst : l.stackTraces = false) {QX : String → sT → Prop} (h : wT_X6_checkKind x0 S QX) : x_T l gg yX6_checkKind (x_ws yX6_checkKind cX6_checkKind 1 none) rT_X6_checkKind [.int x0] S QX 1 6 := by
  refine x_ofWT (cc := cX6_checkKind) (own := RX6) (by decide +kernel) rfl (Nat.le_of_ble_eq_true rfl) ?_
  intro p e s m args below meth c C hml hr hlocks hin ht H locs ls hR hS hl
  exact tT_X6_checkKind_b0 C hml hr hlocks hst ht h H locs ls hR hS (lv_sub (l' := [(0, .int x0)]) hl [0] rfl)
def wT_X6_plant_b42  (S : sT)  (QX : String → sT → Prop) : Prop :=
QX "java/lang/IllegalStateException" S
def wT_X6_plant_b0 (x0 : Nat) (x1 : Int32) (x2 : Int32) (S : sT)  (QX : String → sT → Prop) : Prop :=
s_K S x0 = 8 ∧
    ((w_X6_fieldAt x0 x1 S (fun a102 S101 =>
    ((w_X6_checkKind x2 S101 (fun S103 =>
    s_K S103 a102 = 3 ∧
    ∃ a104 : Nat, s_R S103 69 a102 = some a104 ∧
    s_K S103 a104 = 2 ∧
    ∀ x105 : Int32, x105 = s_I S103 32 a104 →
    ((¬ x105 = (1 : Int32) → wT_X6_plant_b42  S103  QX) ∧
    (x105 = (1 : Int32) → s_K S103 x0 = 8 ∧
    ∃ a107 : Nat, s_R S103 224 x0 = some a107 ∧
    s_K S103 a107 = 4 ∧
    w_X2_isDark a107 S103 (fun x109 S108 =>
    ((¬ x109 = 0 → wT_X6_plant_b42  S108  QX) ∧
    (x109 = 0 → s_K S108 a102 = 3 ∧
    ∃ a111 : Nat, s_R S108 69 a102 = some a111 ∧
    s_K S108 a111 = 2 ∧
    ∀ x112 : Int32, x112 = s_I S108 37 a111 →
    (((3 : Int32) ≤ x112 → False) ∧
    (¬ (3 : Int32) ≤ x112 → wT_X6_plant_b42  S108  QX))))))))) ∨ wT_X6_checkKind x2 S101 QX))) ∨ wT_X6_fieldAt x0 x1 S QX)
def wT_X6_plant (x0 : Nat) (x1 : Int32) (x2 : Int32) (S : sT) (QX : String → sT → Prop) : Prop := wT_X6_plant_b0 x0 x1 x2 S QX
def rT_X6_plant : Room := x_rm 7 113 1 6
set_option maxHeartbeats 4000000 in
theorem tT_X6_plant_b42 {QX : String → sT → Prop} (C : x_C p s m args c cX6_plant RX6 gg) (hml : c.maxLocals = 4) (hr : meth.sig.returnType = (some .int)) (hlocks : meth.locks = false) (hst : l.stackTraces = false) (ht : ∀ x ∈ c.exceptionTable.toList, False)   {S : sT}  (h : wT_X6_plant_b42  S  QX) : x_X p l e rT_X6_plant s m args below meth c gg 4 0 0 (vx_MQ below (fun _ _ _ _ => False) (x_XC gg QX) args s 1 6 (s_A gg)) 42 [] [] S := by
  unfold wT_X6_plant_b42 at h
  obtain ⟨hx, hb, -⟩ := id C
  intro H locs ls hR hS hl
  exact x_thr hst C hR hS hl hml ht hlocks (by decide) xe_w1 xe_b1 (xe_h1 _) xe_c1 q_4_8 q_4_9 xe_s113 dX6_plant_42 dX6_plant_45 dX6_plant_46 dX6_plant_48 dX6_plant_51 (Nat.le_of_ble_eq_true rfl) (Nat.le_of_ble_eq_true rfl) (Nat.le_of_ble_eq_true rfl) (Nat.le_of_ble_eq_true rfl) (Nat.le_of_ble_eq_true rfl) (Nat.le_of_ble_eq_true rfl) h
set_option maxHeartbeats 4000000 in
theorem tT_X6_plant_b0 {QX : String → sT → Prop} (C : x_C p s m args c cX6_plant RX6 gg) (hml : c.maxLocals = 4) (hr : meth.sig.returnType = (some .int)) (hlocks : meth.locks = false) (hst : l.stackTraces = false) (ht : ∀ x ∈ c.exceptionTable.toList, False) {x0 : Nat} {x1 : Int32} {x2 : Int32}  {S : sT}  (h : wT_X6_plant_b0 x0 x1 x2 S  QX) : x_X p l e rT_X6_plant s m args below meth c gg 4 0 0 (vx_MQ below (fun _ _ _ _ => False) (x_XC gg QX) args s 1 6 (s_A gg)) 0 [(0, .ref x0), (1, .int x1), (2, .int x2)] [] S := by
  unfold wT_X6_plant_b0 at h
  obtain ⟨hx, hb, -⟩ := id C
  intro H locs ls hR hS hl
  refine lv_aload_n hx hb dX6_plant_0 rfl (lv_at hl 0 rfl) ?_
  refine lv_iload_n hx hb dX6_plant_1 rfl (lv_at hl 1 rfl) ?_
  obtain ⟨hK_x0, h⟩ := h
  rcases h with h | h
  · refine x_kq (x_runV (As := [.int x1]) (rest := []) C hml hR hS (m_X6_fieldAt l gg x0 x1 S h) b_X6_fieldAt q_12_22 (by rw [hK_x0]; decide) (s_E_7 hK_x0) rfl rfl rfl rfl ⟨Nat.le_of_ble_eq_true rfl, Nat.le_of_ble_eq_true rfl⟩ rfl hl.1 (Nat.le_of_ble_eq_true rfl) dX6_plant_2 ⟨Nat.le_of_ble_eq_true rfl, Nat.le_of_ble_eq_true rfl⟩) hS (fun ra102 S101 H locs hn hR hS => ?_)
    replace h := hn
    clear hn
    obtain ⟨a102, za102, h⟩ := h
    refine x_some za102 ?_
    refine lv_astore_n (lv' := [(3, .ref a102), (0, .ref x0), (1, .int x1), (2, .int x2)]) hx hb dX6_plant_5 rfl hl (by decide) rfl (fun ls hl => ?_)
    refine lv_iload_n hx hb dX6_plant_6 rfl (lv_at hl 3 rfl) ?_
    rcases h with h | h
    · refine x_kv (x_runS (As := [.int x2]) (rest := []) C hml hR hS (m_X6_checkKind l gg x2 S101 h) b_X6_checkKind q_15_11 rfl rfl ⟨Nat.le_of_ble_eq_true rfl, Nat.le_of_ble_eq_true rfl⟩ rfl hl.1 (Nat.le_of_ble_eq_true rfl) dX6_plant_7 ⟨Nat.le_of_ble_eq_true rfl, Nat.le_of_ble_eq_true rfl⟩) hS (fun S103 H locs hn hR hS => ?_)
      replace h := hn
      clear hn
      refine lv_aload_n hx hb dX6_plant_10 rfl (lv_at hl 0 rfl) ?_
      obtain ⟨hK_a102, h⟩ := h
      refine x_g_69 C hR hK_a102 q_14_18 dX6_plant_11 ?_
      obtain ⟨a104, ea104, h⟩ := h
      refine x_some ea104 ?_
      obtain ⟨hK_a104, h⟩ := h
      refine x_g_32 C hR hK_a104 q_14_19 dX6_plant_14 ?_
      refine lv_topi (fun x105 ex105 => ?_)
      replace h := h x105 ex105
      refine lv_iconst (v := 1) hx hb dX6_plant_17 (by decide) ?_
      refine lv_icmp_ne (tgt := 42) hx hb dX6_plant_18 (by decide) (fun hc106 => ?_) (fun hc106 => ?_)
      · replace h := h.1 hc106
        exact tT_X6_plant_b42 C hml hr hlocks hst ht  h H locs ls hR hS (lv_sub (l' := []) hl [] rfl)
      · replace h := h.2 hc106
        refine lv_aload_n hx hb dX6_plant_21 rfl (lv_at hl 1 rfl) ?_
        obtain ⟨hK_x0, h⟩ := h
        refine x_g_224 C hR hK_x0 q_1_17 dX6_plant_22 ?_
        obtain ⟨a107, ea107, h⟩ := h
        refine x_some ea107 ?_
        obtain ⟨hK_a107, h⟩ := h
        refine x_ki (x_runV (As := []) (rest := []) C hml hR hS (m_X2_isDark l gg a107 S103 h) b_X2_isDark q_15_14 (by rw [hK_a107]; decide) (s_E_3 hK_a107) rfl rfl rfl rfl ⟨Nat.le_of_ble_eq_true rfl, Nat.le_of_ble_eq_true rfl⟩ rfl hl.1 (Nat.le_of_ble_eq_true rfl) dX6_plant_25 ⟨Nat.le_of_ble_eq_true rfl, Nat.le_of_ble_eq_true rfl⟩) hS (fun x109 S108 H locs hn hR hS => ?_)
        replace h := hn
        clear hn
        refine lv_if_ne (tgt := 42) hx hb dX6_plant_28 (by decide) (fun hc110 => ?_) (fun hc110 => ?_)
        · replace h := h.1 hc110
          exact tT_X6_plant_b42 C hml hr hlocks hst ht  h H locs ls hR hS (lv_sub (l' := []) hl [] rfl)
        · replace h := h.2 hc110
          refine lv_aload_n hx hb dX6_plant_31 rfl (lv_at hl 0 rfl) ?_
          obtain ⟨hK_a102, h⟩ := h
          refine x_g_69 C hR hK_a102 q_14_18 dX6_plant_32 ?_
          obtain ⟨a111, ea111, h⟩ := h
          refine x_some ea111 ?_
          obtain ⟨hK_a111, h⟩ := h
          refine x_g_37 C hR hK_a111 q_15_9 dX6_plant_35 ?_
          refine lv_topi (fun x112 ex112 => ?_)
          replace h := h x112 ex112
          refine lv_iconst (v := 3) hx hb dX6_plant_38 (by decide) ?_
          refine lv_icmp_ge (tgt := 52) hx hb dX6_plant_39 (by decide) (fun hc113 => ?_) (fun hc113 => ?_)
          · replace h := h.1 hc113
            exact h.elim
          · replace h := h.2 hc113
            exact tT_X6_plant_b42 C hml hr hlocks hst ht  h H locs ls hR hS (lv_sub (l' := []) hl [] rfl)
    · exact x_ze (x_runST (As := [.int x2]) (rest := []) C hml hR hS (mT_X6_checkKind l gg x2 S101 hst h) b_X6_checkKind q_15_11 rfl rfl ⟨Nat.le_of_ble_eq_true rfl, Nat.le_of_ble_eq_true rfl⟩ rfl hl.1 (Nat.le_of_ble_eq_true rfl) dX6_plant_7 ⟨Nat.le_of_ble_eq_true rfl, Nat.le_of_ble_eq_true rfl⟩) hS (fun E9 ce q9 S1 H1 locs1 hq hR1 hS1 hce hcv hcl => x_zout ht hlocks hq hR1 hS1 hce hcv hcl (Nat.le_of_ble_eq_true rfl) (Nat.le_of_ble_eq_true rfl))
  · exact x_ze (x_runVT (As := [.int x1]) (rest := []) C hml hR hS (mT_X6_fieldAt l gg x0 x1 S hst h) b_X6_fieldAt q_12_22 (by rw [hK_x0]; decide) (s_E_7 hK_x0) rfl rfl rfl rfl ⟨Nat.le_of_ble_eq_true rfl, Nat.le_of_ble_eq_true rfl⟩ rfl hl.1 (Nat.le_of_ble_eq_true rfl) dX6_plant_2 ⟨Nat.le_of_ble_eq_true rfl, Nat.le_of_ble_eq_true rfl⟩) hS (fun E9 ce q9 S1 H1 locs1 hq hR1 hS1 hce hcv hcl => x_zout ht hlocks hq hR1 hS1 hce hcv hcl (Nat.le_of_ble_eq_true rfl) (Nat.le_of_ble_eq_true rfl))
theorem mT_X6_plant (l : Launch) (gg : sG) (x0 : Nat) (x1 : Int32) (x2 : Int32) (S : sT) (hst : l.stackTraces = false) {QX : String → sT → Prop} (h : wT_X6_plant x0 x1 x2 S QX) : x_T l gg yX6_plant (x_ws yX6_plant cX6_plant 4 (some .int)) rT_X6_plant [.ref x0, .int x1, .int x2] S QX 1 6 := by
  refine x_ofWT (cc := cX6_plant) (own := RX6) (by decide +kernel) rfl (Nat.le_of_ble_eq_true rfl) ?_
  intro p e s m args below meth c C hml hr hlocks hin ht H locs ls hR hS hl
  exact tT_X6_plant_b0 C hml hr hlocks hst ht h H locs ls hR hS (lv_sub (l' := [(0, .ref x0), (1, .int x1), (2, .int x2)]) hl [0, 1, 2] rfl)
def wT_X6_help_b0 (x0 : Nat) (x1 : Int32) (x2 : Int32) (S : sT)  (QX : String → sT → Prop) : Prop :=
s_K S x0 = 8 ∧
    ((w_X6_fieldAt x0 x1 S (fun a102 S101 =>
    s_K S101 a102 = 3 ∧
    ∃ a103 : Nat, s_R S101 68 a102 = some a103 ∧
    s_K S101 x0 = 8 ∧
    ((w_X6_fieldAt x0 x2 S101 (fun a105 S104 =>
    False)) ∨ wT_X6_fieldAt x0 x2 S101 QX))) ∨ wT_X6_fieldAt x0 x1 S QX)
def wT_X6_help (x0 : Nat) (x1 : Int32) (x2 : Int32) (S : sT) (QX : String → sT → Prop) : Prop := wT_X6_help_b0 x0 x1 x2 S QX
def rT_X6_help : Room := x_rm 7 113 1 6
set_option maxHeartbeats 4000000 in
theorem tT_X6_help_b0 {QX : String → sT → Prop} (C : x_C p s m args c cX6_help RX6 gg) (hml : c.maxLocals = 5) (hr : meth.sig.returnType = (some .int)) (hlocks : meth.locks = false) (hst : l.stackTraces = false) (ht : ∀ x ∈ c.exceptionTable.toList, False) {x0 : Nat} {x1 : Int32} {x2 : Int32}  {S : sT}  (h : wT_X6_help_b0 x0 x1 x2 S  QX) : x_X p l e rT_X6_help s m args below meth c gg 5 0 0 (vx_MQ below (fun _ _ _ _ => False) (x_XC gg QX) args s 1 6 (s_A gg)) 0 [(0, .ref x0), (1, .int x1), (2, .int x2)] [] S := by
  unfold wT_X6_help_b0 at h
  obtain ⟨hx, hb, -⟩ := id C
  intro H locs ls hR hS hl
  refine lv_aload_n hx hb dX6_help_0 rfl (lv_at hl 0 rfl) ?_
  refine lv_iload_n hx hb dX6_help_1 rfl (lv_at hl 1 rfl) ?_
  obtain ⟨hK_x0, h⟩ := h
  rcases h with h | h
  · refine x_kq (x_runV (As := [.int x1]) (rest := []) C hml hR hS (m_X6_fieldAt l gg x0 x1 S h) b_X6_fieldAt q_12_22 (by rw [hK_x0]; decide) (s_E_7 hK_x0) rfl rfl rfl rfl ⟨Nat.le_of_ble_eq_true rfl, Nat.le_of_ble_eq_true rfl⟩ rfl hl.1 (Nat.le_of_ble_eq_true rfl) dX6_help_2 ⟨Nat.le_of_ble_eq_true rfl, Nat.le_of_ble_eq_true rfl⟩) hS (fun ra102 S101 H locs hn hR hS => ?_)
    replace h := hn
    clear hn
    obtain ⟨a102, za102, h⟩ := h
    refine x_some za102 ?_
    obtain ⟨hK_a102, h⟩ := h
    refine x_g_68 C hR hK_a102 q_16_21 dX6_help_5 ?_
    obtain ⟨a103, ea103, h⟩ := h
    refine x_some ea103 ?_
    refine lv_astore_n (lv' := [(3, .ref a103), (0, .ref x0), (1, .int x1), (2, .int x2)]) hx hb dX6_help_8 rfl hl (by decide) rfl (fun ls hl => ?_)
    refine lv_aload_n hx hb dX6_help_9 rfl (lv_at hl 1 rfl) ?_
    refine lv_iload_n hx hb dX6_help_10 rfl (lv_at hl 3 rfl) ?_
    obtain ⟨hK_x0, h⟩ := h
    rcases h with h | h
    · refine x_kq (x_runV (As := [.int x2]) (rest := []) C hml hR hS (m_X6_fieldAt l gg x0 x2 S101 h) b_X6_fieldAt q_12_22 (by rw [hK_x0]; decide) (s_E_7 hK_x0) rfl rfl rfl rfl ⟨Nat.le_of_ble_eq_true rfl, Nat.le_of_ble_eq_true rfl⟩ rfl hl.1 (Nat.le_of_ble_eq_true rfl) dX6_help_11 ⟨Nat.le_of_ble_eq_true rfl, Nat.le_of_ble_eq_true rfl⟩) hS (fun ra105 S104 H locs hn hR hS => ?_)
      replace h := hn
      clear hn
      obtain ⟨a105, za105, h⟩ := h
      refine x_some za105 ?_
      exact h.elim
    · exact x_ze (x_runVT (As := [.int x2]) (rest := []) C hml hR hS (mT_X6_fieldAt l gg x0 x2 S101 hst h) b_X6_fieldAt q_12_22 (by rw [hK_x0]; decide) (s_E_7 hK_x0) rfl rfl rfl rfl ⟨Nat.le_of_ble_eq_true rfl, Nat.le_of_ble_eq_true rfl⟩ rfl hl.1 (Nat.le_of_ble_eq_true rfl) dX6_help_11 ⟨Nat.le_of_ble_eq_true rfl, Nat.le_of_ble_eq_true rfl⟩) hS (fun E9 ce q9 S1 H1 locs1 hq hR1 hS1 hce hcv hcl => x_zout ht hlocks hq hR1 hS1 hce hcv hcl (Nat.le_of_ble_eq_true rfl) (Nat.le_of_ble_eq_true rfl))
  · exact x_ze (x_runVT (As := [.int x1]) (rest := []) C hml hR hS (mT_X6_fieldAt l gg x0 x1 S hst h) b_X6_fieldAt q_12_22 (by rw [hK_x0]; decide) (s_E_7 hK_x0) rfl rfl rfl rfl ⟨Nat.le_of_ble_eq_true rfl, Nat.le_of_ble_eq_true rfl⟩ rfl hl.1 (Nat.le_of_ble_eq_true rfl) dX6_help_2 ⟨Nat.le_of_ble_eq_true rfl, Nat.le_of_ble_eq_true rfl⟩) hS (fun E9 ce q9 S1 H1 locs1 hq hR1 hS1 hce hcv hcl => x_zout ht hlocks hq hR1 hS1 hce hcv hcl (Nat.le_of_ble_eq_true rfl) (Nat.le_of_ble_eq_true rfl))
theorem mT_X6_help (l : Launch) (gg : sG) (x0 : Nat) (x1 : Int32) (x2 : Int32) (S : sT) (hst : l.stackTraces = false) {QX : String → sT → Prop} (h : wT_X6_help x0 x1 x2 S QX) : x_T l gg yX6_help (x_ws yX6_help cX6_help 5 (some .int)) rT_X6_help [.ref x0, .int x1, .int x2] S QX 1 6 := by
  refine x_ofWT (cc := cX6_help) (own := RX6) (by decide +kernel) rfl (Nat.le_of_ble_eq_true rfl) ?_
  intro p e s m args below meth c C hml hr hlocks hin ht H locs ls hR hS hl
  exact tT_X6_help_b0 C hml hr hlocks hst ht h H locs ls hR hS (lv_sub (l' := [(0, .ref x0), (1, .int x1), (2, .int x2)]) hl [0, 1, 2] rfl)
def wT_X6_ducks_b0 (x0 : Nat) (x1 : Int32) (x2 : Int32) (S : sT)  (QX : String → sT → Prop) : Prop :=
s_K S x0 = 8 ∧
    ((w_X6_fieldAt x0 x1 S (fun a102 S101 =>
    False)) ∨ wT_X6_fieldAt x0 x1 S QX)
def wT_X6_ducks (x0 : Nat) (x1 : Int32) (x2 : Int32) (S : sT) (QX : String → sT → Prop) : Prop := wT_X6_ducks_b0 x0 x1 x2 S QX
def rT_X6_ducks : Room := x_rm 7 113 1 6
set_option maxHeartbeats 4000000 in
theorem tT_X6_ducks_b0 {QX : String → sT → Prop} (C : x_C p s m args c cX6_ducks RX6 gg) (hml : c.maxLocals = 4) (hr : meth.sig.returnType = (some .int)) (hlocks : meth.locks = false) (hst : l.stackTraces = false) (ht : ∀ x ∈ c.exceptionTable.toList, False) {x0 : Nat} {x1 : Int32} {x2 : Int32}  {S : sT}  (h : wT_X6_ducks_b0 x0 x1 x2 S  QX) : x_X p l e rT_X6_ducks s m args below meth c gg 4 0 0 (vx_MQ below (fun _ _ _ _ => False) (x_XC gg QX) args s 1 6 (s_A gg)) 0 [(0, .ref x0), (1, .int x1), (2, .int x2)] [] S := by
  unfold wT_X6_ducks_b0 at h
  obtain ⟨hx, hb, -⟩ := id C
  intro H locs ls hR hS hl
  refine lv_aload_n hx hb dX6_ducks_0 rfl (lv_at hl 0 rfl) ?_
  refine lv_iload_n hx hb dX6_ducks_1 rfl (lv_at hl 1 rfl) ?_
  obtain ⟨hK_x0, h⟩ := h
  rcases h with h | h
  · refine x_kq (x_runV (As := [.int x1]) (rest := []) C hml hR hS (m_X6_fieldAt l gg x0 x1 S h) b_X6_fieldAt q_12_22 (by rw [hK_x0]; decide) (s_E_7 hK_x0) rfl rfl rfl rfl ⟨Nat.le_of_ble_eq_true rfl, Nat.le_of_ble_eq_true rfl⟩ rfl hl.1 (Nat.le_of_ble_eq_true rfl) dX6_ducks_2 ⟨Nat.le_of_ble_eq_true rfl, Nat.le_of_ble_eq_true rfl⟩) hS (fun ra102 S101 H locs hn hR hS => ?_)
    replace h := hn
    clear hn
    obtain ⟨a102, za102, h⟩ := h
    refine x_some za102 ?_
    exact h.elim
  · exact x_ze (x_runVT (As := [.int x1]) (rest := []) C hml hR hS (mT_X6_fieldAt l gg x0 x1 S hst h) b_X6_fieldAt q_12_22 (by rw [hK_x0]; decide) (s_E_7 hK_x0) rfl rfl rfl rfl ⟨Nat.le_of_ble_eq_true rfl, Nat.le_of_ble_eq_true rfl⟩ rfl hl.1 (Nat.le_of_ble_eq_true rfl) dX6_ducks_2 ⟨Nat.le_of_ble_eq_true rfl, Nat.le_of_ble_eq_true rfl⟩) hS (fun E9 ce q9 S1 H1 locs1 hq hR1 hS1 hce hcv hcl => x_zout ht hlocks hq hR1 hS1 hce hcv hcl (Nat.le_of_ble_eq_true rfl) (Nat.le_of_ble_eq_true rfl))
theorem mT_X6_ducks (l : Launch) (gg : sG) (x0 : Nat) (x1 : Int32) (x2 : Int32) (S : sT) (hst : l.stackTraces = false) {QX : String → sT → Prop} (h : wT_X6_ducks x0 x1 x2 S QX) : x_T l gg yX6_ducks (x_ws yX6_ducks cX6_ducks 4 (some .int)) rT_X6_ducks [.ref x0, .int x1, .int x2] S QX 1 6 := by
  refine x_ofWT (cc := cX6_ducks) (own := RX6) (by decide +kernel) rfl (Nat.le_of_ble_eq_true rfl) ?_
  intro p e s m args below meth c C hml hr hlocks hin ht H locs ls hR hS hl
  exact tT_X6_ducks_b0 C hml hr hlocks hst ht h H locs ls hR hS (lv_sub (l' := [(0, .ref x0), (1, .int x1), (2, .int x2)]) hl [0, 1, 2] rfl)
def wT_X6_ripeFieldAt_b0 (x0 : Nat) (x1 : Int32) (S : sT)  (QX : String → sT → Prop) : Prop :=
s_K S x0 = 8 ∧
    ((w_X6_fieldAt x0 x1 S (fun a102 S101 =>
    s_K S101 a102 = 3 ∧
    ∃ a103 : Nat, s_R S101 69 a102 = some a103 ∧
    s_K S101 a103 = 2 ∧
    ∀ x104 : Int32, x104 = s_I S101 32 a103 →
    ((x104 = (5 : Int32) → False) ∧
    (¬ x104 = (5 : Int32) → QX "java/lang/IllegalStateException" S101)))) ∨ wT_X6_fieldAt x0 x1 S QX)
def wT_X6_ripeFieldAt (x0 : Nat) (x1 : Int32) (S : sT) (QX : String → sT → Prop) : Prop := wT_X6_ripeFieldAt_b0 x0 x1 S QX
def rT_X6_ripeFieldAt : Room := x_rm 7 113 1 6
set_option maxHeartbeats 4000000 in
theorem tT_X6_ripeFieldAt_b0 {QX : String → sT → Prop} (C : x_C p s m args c cX6_ripeFieldAt RX6 gg) (hml : c.maxLocals = 3) (hr : meth.sig.returnType = (some (.object "Subakhall$Field"))) (hlocks : meth.locks = false) (hst : l.stackTraces = false) (ht : ∀ x ∈ c.exceptionTable.toList, False) {x0 : Nat} {x1 : Int32}  {S : sT}  (h : wT_X6_ripeFieldAt_b0 x0 x1 S  QX) : x_X p l e rT_X6_ripeFieldAt s m args below meth c gg 3 0 0 (vx_MQ below (fun _ _ _ _ => False) (x_XC gg QX) args s 1 6 (s_A gg)) 0 [(0, .ref x0), (1, .int x1)] [] S := by
  unfold wT_X6_ripeFieldAt_b0 at h
  obtain ⟨hx, hb, -⟩ := id C
  intro H locs ls hR hS hl
  refine lv_aload_n hx hb dX6_ripeFieldAt_0 rfl (lv_at hl 0 rfl) ?_
  refine lv_iload_n hx hb dX6_ripeFieldAt_1 rfl (lv_at hl 1 rfl) ?_
  obtain ⟨hK_x0, h⟩ := h
  rcases h with h | h
  · refine x_kq (x_runV (As := [.int x1]) (rest := []) C hml hR hS (m_X6_fieldAt l gg x0 x1 S h) b_X6_fieldAt q_12_22 (by rw [hK_x0]; decide) (s_E_7 hK_x0) rfl rfl rfl rfl ⟨Nat.le_of_ble_eq_true rfl, Nat.le_of_ble_eq_true rfl⟩ rfl hl.1 (Nat.le_of_ble_eq_true rfl) dX6_ripeFieldAt_2 ⟨Nat.le_of_ble_eq_true rfl, Nat.le_of_ble_eq_true rfl⟩) hS (fun ra102 S101 H locs hn hR hS => ?_)
    replace h := hn
    clear hn
    obtain ⟨a102, za102, h⟩ := h
    refine x_some za102 ?_
    refine lv_astore_n (lv' := [(2, .ref a102), (0, .ref x0), (1, .int x1)]) hx hb dX6_ripeFieldAt_5 rfl hl (by decide) rfl (fun ls hl => ?_)
    refine lv_aload_n hx hb dX6_ripeFieldAt_6 rfl (lv_at hl 0 rfl) ?_
    obtain ⟨hK_a102, h⟩ := h
    refine x_g_69 C hR hK_a102 q_14_18 dX6_ripeFieldAt_7 ?_
    obtain ⟨a103, ea103, h⟩ := h
    refine x_some ea103 ?_
    obtain ⟨hK_a103, h⟩ := h
    refine x_g_32 C hR hK_a103 q_14_19 dX6_ripeFieldAt_10 ?_
    refine lv_topi (fun x104 ex104 => ?_)
    replace h := h x104 ex104
    refine lv_iconst (v := 5) hx hb dX6_ripeFieldAt_13 (by decide) ?_
    refine lv_icmp_eq (tgt := 28) hx hb dX6_ripeFieldAt_14 (by decide) (fun hc105 => ?_) (fun hc105 => ?_)
    · replace h := h.1 hc105
      exact h.elim
    · replace h := h.2 hc105
      exact x_thrW hst C hR hS hl hml ht hlocks (by decide) xe_w1 xe_b1 (xe_h1 _) xe_c1 q_4_8 q_4_9 xe_s379 dX6_ripeFieldAt_17 dX6_ripeFieldAt_20 dX6_ripeFieldAt_21 dX6_ripeFieldAt_24 dX6_ripeFieldAt_27 (Nat.le_of_ble_eq_true rfl) (Nat.le_of_ble_eq_true rfl) (Nat.le_of_ble_eq_true rfl) (Nat.le_of_ble_eq_true rfl) (Nat.le_of_ble_eq_true rfl) (Nat.le_of_ble_eq_true rfl) h
  · exact x_ze (x_runVT (As := [.int x1]) (rest := []) C hml hR hS (mT_X6_fieldAt l gg x0 x1 S hst h) b_X6_fieldAt q_12_22 (by rw [hK_x0]; decide) (s_E_7 hK_x0) rfl rfl rfl rfl ⟨Nat.le_of_ble_eq_true rfl, Nat.le_of_ble_eq_true rfl⟩ rfl hl.1 (Nat.le_of_ble_eq_true rfl) dX6_ripeFieldAt_2 ⟨Nat.le_of_ble_eq_true rfl, Nat.le_of_ble_eq_true rfl⟩) hS (fun E9 ce q9 S1 H1 locs1 hq hR1 hS1 hce hcv hcl => x_zout ht hlocks hq hR1 hS1 hce hcv hcl (Nat.le_of_ble_eq_true rfl) (Nat.le_of_ble_eq_true rfl))
theorem mT_X6_ripeFieldAt (l : Launch) (gg : sG) (x0 : Nat) (x1 : Int32) (S : sT) (hst : l.stackTraces = false) {QX : String → sT → Prop} (h : wT_X6_ripeFieldAt x0 x1 S QX) : x_T l gg yX6_ripeFieldAt (x_ws yX6_ripeFieldAt cX6_ripeFieldAt 3 (some (.object "Subakhall$Field"))) rT_X6_ripeFieldAt [.ref x0, .int x1] S QX 1 6 := by
  refine x_ofWT (cc := cX6_ripeFieldAt) (own := RX6) (by decide +kernel) rfl (Nat.le_of_ble_eq_true rfl) ?_
  intro p e s m args below meth c C hml hr hlocks hin ht H locs ls hR hS hl
  exact tT_X6_ripeFieldAt_b0 C hml hr hlocks hst ht h H locs ls hR hS (lv_sub (l' := [(0, .ref x0), (1, .int x1)]) hl [0, 1] rfl)
def wT_X6_harvest_b0 (x0 : Nat) (x1 : Int32) (x2 : Int32) (S : sT)  (QX : String → sT → Prop) : Prop :=
s_K S x0 = 8 ∧
    ((w_X6_ripeFieldAt x0 x1 S (fun a102 S101 =>
    False)) ∨ wT_X6_ripeFieldAt x0 x1 S QX)
def wT_X6_harvest (x0 : Nat) (x1 : Int32) (x2 : Int32) (S : sT) (QX : String → sT → Prop) : Prop := wT_X6_harvest_b0 x0 x1 x2 S QX
def rT_X6_harvest : Room := x_rm 8 135 1 6
set_option maxHeartbeats 4000000 in
theorem tT_X6_harvest_b0 {QX : String → sT → Prop} (C : x_C p s m args c cX6_harvest RX6 gg) (hml : c.maxLocals = 6) (hr : meth.sig.returnType = (some .int)) (hlocks : meth.locks = false) (hst : l.stackTraces = false) (ht : ∀ x ∈ c.exceptionTable.toList, False) {x0 : Nat} {x1 : Int32} {x2 : Int32}  {S : sT}  (h : wT_X6_harvest_b0 x0 x1 x2 S  QX) : x_X p l e rT_X6_harvest s m args below meth c gg 6 0 0 (vx_MQ below (fun _ _ _ _ => False) (x_XC gg QX) args s 1 6 (s_A gg)) 0 [(0, .ref x0), (1, .int x1), (2, .int x2)] [] S := by
  unfold wT_X6_harvest_b0 at h
  obtain ⟨hx, hb, -⟩ := id C
  intro H locs ls hR hS hl
  refine lv_aload_n hx hb dX6_harvest_0 rfl (lv_at hl 0 rfl) ?_
  refine lv_iload_n hx hb dX6_harvest_1 rfl (lv_at hl 1 rfl) ?_
  obtain ⟨hK_x0, h⟩ := h
  rcases h with h | h
  · refine x_kq (x_runV (As := [.int x1]) (rest := []) C hml hR hS (m_X6_ripeFieldAt l gg x0 x1 S h) b_X6_ripeFieldAt q_18_4 (by rw [hK_x0]; decide) (s_E_7 hK_x0) rfl rfl rfl rfl ⟨Nat.le_of_ble_eq_true rfl, Nat.le_of_ble_eq_true rfl⟩ rfl hl.1 (Nat.le_of_ble_eq_true rfl) dX6_harvest_2 ⟨Nat.le_of_ble_eq_true rfl, Nat.le_of_ble_eq_true rfl⟩) hS (fun ra102 S101 H locs hn hR hS => ?_)
    replace h := hn
    clear hn
    obtain ⟨a102, za102, h⟩ := h
    refine x_some za102 ?_
    exact h.elim
  · exact x_ze (x_runVT (As := [.int x1]) (rest := []) C hml hR hS (mT_X6_ripeFieldAt l gg x0 x1 S hst h) b_X6_ripeFieldAt q_18_4 (by rw [hK_x0]; decide) (s_E_7 hK_x0) rfl rfl rfl rfl ⟨Nat.le_of_ble_eq_true rfl, Nat.le_of_ble_eq_true rfl⟩ rfl hl.1 (Nat.le_of_ble_eq_true rfl) dX6_harvest_2 ⟨Nat.le_of_ble_eq_true rfl, Nat.le_of_ble_eq_true rfl⟩) hS (fun E9 ce q9 S1 H1 locs1 hq hR1 hS1 hce hcv hcl => x_zout ht hlocks hq hR1 hS1 hce hcv hcl (Nat.le_of_ble_eq_true rfl) (Nat.le_of_ble_eq_true rfl))
theorem mT_X6_harvest (l : Launch) (gg : sG) (x0 : Nat) (x1 : Int32) (x2 : Int32) (S : sT) (hst : l.stackTraces = false) {QX : String → sT → Prop} (h : wT_X6_harvest x0 x1 x2 S QX) : x_T l gg yX6_harvest (x_ws yX6_harvest cX6_harvest 6 (some .int)) rT_X6_harvest [.ref x0, .int x1, .int x2] S QX 1 6 := by
  refine x_ofWT (cc := cX6_harvest) (own := RX6) (by decide +kernel) rfl (Nat.le_of_ble_eq_true rfl) ?_
  intro p e s m args below meth c C hml hr hlocks hin ht H locs ls hR hS hl
  exact tT_X6_harvest_b0 C hml hr hlocks hst ht h H locs ls hR hS (lv_sub (l' := [(0, .ref x0), (1, .int x1), (2, .int x2)]) hl [0, 1, 2] rfl)
def wT_X6_cut_b0 (x0 : Nat) (x1 : Int32) (S : sT)  (QX : String → sT → Prop) : Prop :=
s_K S x0 = 8 ∧
    ((w_X6_ripeFieldAt x0 x1 S (fun a102 S101 =>
    False)) ∨ wT_X6_ripeFieldAt x0 x1 S QX)
def wT_X6_cut (x0 : Nat) (x1 : Int32) (S : sT) (QX : String → sT → Prop) : Prop := wT_X6_cut_b0 x0 x1 S QX
def rT_X6_cut : Room := x_rm 8 135 1 6
set_option maxHeartbeats 4000000 in
theorem tT_X6_cut_b0 {QX : String → sT → Prop} (C : x_C p s m args c cX6_cut RX6 gg) (hml : c.maxLocals = 5) (hr : meth.sig.returnType = (some .int)) (hlocks : meth.locks = false) (hst : l.stackTraces = false) (ht : ∀ x ∈ c.exceptionTable.toList, False) {x0 : Nat} {x1 : Int32}  {S : sT}  (h : wT_X6_cut_b0 x0 x1 S  QX) : x_X p l e rT_X6_cut s m args below meth c gg 5 0 0 (vx_MQ below (fun _ _ _ _ => False) (x_XC gg QX) args s 1 6 (s_A gg)) 0 [(0, .ref x0), (1, .int x1)] [] S := by
  unfold wT_X6_cut_b0 at h
  obtain ⟨hx, hb, -⟩ := id C
  intro H locs ls hR hS hl
  refine lv_aload_n hx hb dX6_cut_0 rfl (lv_at hl 0 rfl) ?_
  refine lv_iload_n hx hb dX6_cut_1 rfl (lv_at hl 1 rfl) ?_
  obtain ⟨hK_x0, h⟩ := h
  rcases h with h | h
  · refine x_kq (x_runV (As := [.int x1]) (rest := []) C hml hR hS (m_X6_ripeFieldAt l gg x0 x1 S h) b_X6_ripeFieldAt q_18_4 (by rw [hK_x0]; decide) (s_E_7 hK_x0) rfl rfl rfl rfl ⟨Nat.le_of_ble_eq_true rfl, Nat.le_of_ble_eq_true rfl⟩ rfl hl.1 (Nat.le_of_ble_eq_true rfl) dX6_cut_2 ⟨Nat.le_of_ble_eq_true rfl, Nat.le_of_ble_eq_true rfl⟩) hS (fun ra102 S101 H locs hn hR hS => ?_)
    replace h := hn
    clear hn
    obtain ⟨a102, za102, h⟩ := h
    refine x_some za102 ?_
    exact h.elim
  · exact x_ze (x_runVT (As := [.int x1]) (rest := []) C hml hR hS (mT_X6_ripeFieldAt l gg x0 x1 S hst h) b_X6_ripeFieldAt q_18_4 (by rw [hK_x0]; decide) (s_E_7 hK_x0) rfl rfl rfl rfl ⟨Nat.le_of_ble_eq_true rfl, Nat.le_of_ble_eq_true rfl⟩ rfl hl.1 (Nat.le_of_ble_eq_true rfl) dX6_cut_2 ⟨Nat.le_of_ble_eq_true rfl, Nat.le_of_ble_eq_true rfl⟩) hS (fun E9 ce q9 S1 H1 locs1 hq hR1 hS1 hce hcv hcl => x_zout ht hlocks hq hR1 hS1 hce hcv hcl (Nat.le_of_ble_eq_true rfl) (Nat.le_of_ble_eq_true rfl))
theorem mT_X6_cut (l : Launch) (gg : sG) (x0 : Nat) (x1 : Int32) (S : sT) (hst : l.stackTraces = false) {QX : String → sT → Prop} (h : wT_X6_cut x0 x1 S QX) : x_T l gg yX6_cut (x_ws yX6_cut cX6_cut 5 (some .int)) rT_X6_cut [.ref x0, .int x1] S QX 1 6 := by
  refine x_ofWT (cc := cX6_cut) (own := RX6) (by decide +kernel) rfl (Nat.le_of_ble_eq_true rfl) ?_
  intro p e s m args below meth c C hml hr hlocks hin ht H locs ls hR hS hl
  exact tT_X6_cut_b0 C hml hr hlocks hst ht h H locs ls hR hS (lv_sub (l' := [(0, .ref x0), (1, .int x1)]) hl [0, 1] rfl)
def wT_X6_day_b31  (S : sT)  (QX : String → sT → Prop) : Prop :=
QX "java/lang/IllegalArgumentException" S
def wT_X6_day_b0 (x0 : Nat) (x1 : Int32) (x2 : Int32) (x3 : Int32) (S : sT)  (QX : String → sT → Prop) : Prop :=
w_X6_isWithin x1 (0 : Int32) (200 : Int32) S (fun x102 S101 =>
    ((x102 = 0 → wT_X6_day_b31  S101  QX) ∧
    (¬ x102 = 0 → w_X6_isWithin x2 (0 : Int32) (40 : Int32) S101 (fun x105 S104 =>
    ((x105 = 0 → wT_X6_day_b31  S104  QX) ∧
    (¬ x105 = 0 → w_X6_isWithin x3 (0 : Int32) (30 : Int32) S104 (fun x108 S107 =>
    ((¬ x108 = 0 → False) ∧
    (x108 = 0 → wT_X6_day_b31  S107  QX)))))))))
def wT_X6_day (x0 : Nat) (x1 : Int32) (x2 : Int32) (x3 : Int32) (S : sT) (QX : String → sT → Prop) : Prop := wT_X6_day_b0 x0 x1 x2 x3 S QX
def rT_X6_day : Room := x_rm 6 92 1 6
set_option maxHeartbeats 4000000 in
theorem tT_X6_day_b31 {QX : String → sT → Prop} (C : x_C p s m args c cX6_day RX6 gg) (hml : c.maxLocals = 4) (hr : meth.sig.returnType = (some .int)) (hlocks : meth.locks = false) (hst : l.stackTraces = false) (ht : ∀ x ∈ c.exceptionTable.toList, False)   {S : sT}  (h : wT_X6_day_b31  S  QX) : x_X p l e rT_X6_day s m args below meth c gg 4 0 0 (vx_MQ below (fun _ _ _ _ => False) (x_XC gg QX) args s 1 6 (s_A gg)) 31 [] [] S := by
  unfold wT_X6_day_b31 at h
  obtain ⟨hx, hb, -⟩ := id C
  intro H locs ls hR hS hl
  exact x_thr hst C hR hS hl hml ht hlocks (by decide) xe_w0 xe_b0 (xe_h0 _) xe_c0 q_4_6 q_4_7 xe_s176 dX6_day_31 dX6_day_34 dX6_day_35 dX6_day_37 dX6_day_40 (Nat.le_of_ble_eq_true rfl) (Nat.le_of_ble_eq_true rfl) (Nat.le_of_ble_eq_true rfl) (Nat.le_of_ble_eq_true rfl) (Nat.le_of_ble_eq_true rfl) (Nat.le_of_ble_eq_true rfl) h
set_option maxHeartbeats 4000000 in
theorem tT_X6_day_b0 {QX : String → sT → Prop} (C : x_C p s m args c cX6_day RX6 gg) (hml : c.maxLocals = 4) (hr : meth.sig.returnType = (some .int)) (hlocks : meth.locks = false) (hst : l.stackTraces = false) (ht : ∀ x ∈ c.exceptionTable.toList, False) {x0 : Nat} {x1 : Int32} {x2 : Int32} {x3 : Int32}  {S : sT}  (h : wT_X6_day_b0 x0 x1 x2 x3 S  QX) : x_X p l e rT_X6_day s m args below meth c gg 4 0 0 (vx_MQ below (fun _ _ _ _ => False) (x_XC gg QX) args s 1 6 (s_A gg)) 0 [(0, .ref x0), (1, .int x1), (2, .int x2), (3, .int x3)] [] S := by
  unfold wT_X6_day_b0 at h
  obtain ⟨hx, hb, -⟩ := id C
  intro H locs ls hR hS hl
  refine lv_iload_n hx hb dX6_day_0 rfl (lv_at hl 1 rfl) ?_
  refine lv_iconst (v := 0) hx hb dX6_day_1 (by decide) ?_
  refine lv_sipush (v := 200) hx hb dX6_day_2 (by decide) ?_
  refine x_ki (x_runS (As := [.int x1, .int (0 : Int32), .int (200 : Int32)]) (rest := []) C hml hR hS (m_X6_isWithin l gg x1 (0 : Int32) (200 : Int32) S h) b_X6_isWithin q_4_11 rfl rfl ⟨Nat.le_of_ble_eq_true rfl, Nat.le_of_ble_eq_true rfl⟩ rfl hl.1 (Nat.le_of_ble_eq_true rfl) dX6_day_5 ⟨Nat.le_of_ble_eq_true rfl, Nat.le_of_ble_eq_true rfl⟩) hS (fun x102 S101 H locs hn hR hS => ?_)
  replace h := hn
  clear hn
  refine lv_if_eq (tgt := 31) hx hb dX6_day_8 (by decide) (fun hc103 => ?_) (fun hc103 => ?_)
  · replace h := h.1 hc103
    exact tT_X6_day_b31 C hml hr hlocks hst ht  h H locs ls hR hS (lv_sub (l' := []) hl [] rfl)
  · replace h := h.2 hc103
    refine lv_iload_n hx hb dX6_day_11 rfl (lv_at hl 2 rfl) ?_
    refine lv_iconst (v := 0) hx hb dX6_day_12 (by decide) ?_
    refine lv_bipush (v := 40) hx hb dX6_day_13 (by decide) ?_
    refine x_ki (x_runS (As := [.int x2, .int (0 : Int32), .int (40 : Int32)]) (rest := []) C hml hR hS (m_X6_isWithin l gg x2 (0 : Int32) (40 : Int32) S101 h) b_X6_isWithin q_4_11 rfl rfl ⟨Nat.le_of_ble_eq_true rfl, Nat.le_of_ble_eq_true rfl⟩ rfl hl.1 (Nat.le_of_ble_eq_true rfl) dX6_day_15 ⟨Nat.le_of_ble_eq_true rfl, Nat.le_of_ble_eq_true rfl⟩) hS (fun x105 S104 H locs hn hR hS => ?_)
    replace h := hn
    clear hn
    refine lv_if_eq (tgt := 31) hx hb dX6_day_18 (by decide) (fun hc106 => ?_) (fun hc106 => ?_)
    · replace h := h.1 hc106
      exact tT_X6_day_b31 C hml hr hlocks hst ht  h H locs ls hR hS (lv_sub (l' := []) hl [] rfl)
    · replace h := h.2 hc106
      refine lv_iload_n hx hb dX6_day_21 rfl (lv_at hl 3 rfl) ?_
      refine lv_iconst (v := 0) hx hb dX6_day_22 (by decide) ?_
      refine lv_bipush (v := 30) hx hb dX6_day_23 (by decide) ?_
      refine x_ki (x_runS (As := [.int x3, .int (0 : Int32), .int (30 : Int32)]) (rest := []) C hml hR hS (m_X6_isWithin l gg x3 (0 : Int32) (30 : Int32) S104 h) b_X6_isWithin q_4_11 rfl rfl ⟨Nat.le_of_ble_eq_true rfl, Nat.le_of_ble_eq_true rfl⟩ rfl hl.1 (Nat.le_of_ble_eq_true rfl) dX6_day_25 ⟨Nat.le_of_ble_eq_true rfl, Nat.le_of_ble_eq_true rfl⟩) hS (fun x108 S107 H locs hn hR hS => ?_)
      replace h := hn
      clear hn
      refine lv_if_ne (tgt := 41) hx hb dX6_day_28 (by decide) (fun hc109 => ?_) (fun hc109 => ?_)
      · replace h := h.1 hc109
        exact h.elim
      · replace h := h.2 hc109
        exact tT_X6_day_b31 C hml hr hlocks hst ht  h H locs ls hR hS (lv_sub (l' := []) hl [] rfl)
theorem mT_X6_day (l : Launch) (gg : sG) (x0 : Nat) (x1 : Int32) (x2 : Int32) (x3 : Int32) (S : sT) (hst : l.stackTraces = false) {QX : String → sT → Prop} (h : wT_X6_day x0 x1 x2 x3 S QX) : x_T l gg yX6_day (x_ws yX6_day cX6_day 4 (some .int)) rT_X6_day [.ref x0, .int x1, .int x2, .int x3] S QX 1 6 := by
  refine x_ofWT (cc := cX6_day) (own := RX6) (by decide +kernel) rfl (Nat.le_of_ble_eq_true rfl) ?_
  intro p e s m args below meth c C hml hr hlocks hin ht H locs ls hR hS hl
  exact tT_X6_day_b0 C hml hr hlocks hst ht h H locs ls hR hS (lv_sub (l' := [(0, .ref x0), (1, .int x1), (2, .int x2), (3, .int x3)]) hl [0, 1, 2, 3] rfl)
def wT_X6_inspect_b0 (x0 : Nat) (x1 : Int32) (S : sT)  (QX : String → sT → Prop) : Prop :=
s_K S x0 = 8 ∧
    ((w_X6_societyAt x0 x1 S (fun a102 S101 =>
    False)) ∨ wT_X6_societyAt x0 x1 S QX)
def wT_X6_inspect (x0 : Nat) (x1 : Int32) (S : sT) (QX : String → sT → Prop) : Prop := wT_X6_inspect_b0 x0 x1 S QX
def rT_X6_inspect : Room := x_rm 7 113 1 6
set_option maxHeartbeats 4000000 in
theorem tT_X6_inspect_b0 {QX : String → sT → Prop} (C : x_C p s m args c cX6_inspect RX6 gg) (hml : c.maxLocals = 2) (hr : meth.sig.returnType = (some .int)) (hlocks : meth.locks = false) (hst : l.stackTraces = false) (ht : ∀ x ∈ c.exceptionTable.toList, False) {x0 : Nat} {x1 : Int32}  {S : sT}  (h : wT_X6_inspect_b0 x0 x1 S  QX) : x_X p l e rT_X6_inspect s m args below meth c gg 2 0 0 (vx_MQ below (fun _ _ _ _ => False) (x_XC gg QX) args s 1 6 (s_A gg)) 0 [(0, .ref x0), (1, .int x1)] [] S := by
  unfold wT_X6_inspect_b0 at h
  obtain ⟨hx, hb, -⟩ := id C
  intro H locs ls hR hS hl
  refine lv_aload_n hx hb dX6_inspect_0 rfl (lv_at hl 0 rfl) ?_
  refine lv_iload_n hx hb dX6_inspect_1 rfl (lv_at hl 1 rfl) ?_
  obtain ⟨hK_x0, h⟩ := h
  rcases h with h | h
  · refine x_kq (x_runV (As := [.int x1]) (rest := []) C hml hR hS (m_X6_societyAt l gg x0 x1 S h) b_X6_societyAt q_9_5 (by rw [hK_x0]; decide) (s_E_7 hK_x0) rfl rfl rfl rfl ⟨Nat.le_of_ble_eq_true rfl, Nat.le_of_ble_eq_true rfl⟩ rfl hl.1 (Nat.le_of_ble_eq_true rfl) dX6_inspect_2 ⟨Nat.le_of_ble_eq_true rfl, Nat.le_of_ble_eq_true rfl⟩) hS (fun ra102 S101 H locs hn hR hS => ?_)
    replace h := hn
    clear hn
    obtain ⟨a102, za102, h⟩ := h
    refine x_some za102 ?_
    exact h.elim
  · exact x_ze (x_runVT (As := [.int x1]) (rest := []) C hml hR hS (mT_X6_societyAt l gg x0 x1 S hst h) b_X6_societyAt q_9_5 (by rw [hK_x0]; decide) (s_E_7 hK_x0) rfl rfl rfl rfl ⟨Nat.le_of_ble_eq_true rfl, Nat.le_of_ble_eq_true rfl⟩ rfl hl.1 (Nat.le_of_ble_eq_true rfl) dX6_inspect_2 ⟨Nat.le_of_ble_eq_true rfl, Nat.le_of_ble_eq_true rfl⟩) hS (fun E9 ce q9 S1 H1 locs1 hq hR1 hS1 hce hcv hcl => x_zout ht hlocks hq hR1 hS1 hce hcv hcl (Nat.le_of_ble_eq_true rfl) (Nat.le_of_ble_eq_true rfl))
theorem mT_X6_inspect (l : Launch) (gg : sG) (x0 : Nat) (x1 : Int32) (S : sT) (hst : l.stackTraces = false) {QX : String → sT → Prop} (h : wT_X6_inspect x0 x1 S QX) : x_T l gg yX6_inspect (x_ws yX6_inspect cX6_inspect 2 (some .int)) rT_X6_inspect [.ref x0, .int x1] S QX 1 6 := by
  refine x_ofWT (cc := cX6_inspect) (own := RX6) (by decide +kernel) rfl (Nat.le_of_ble_eq_true rfl) ?_
  intro p e s m args below meth c C hml hr hlocks hin ht H locs ls hR hS hl
  exact tT_X6_inspect_b0 C hml hr hlocks hst ht h H locs ls hR hS (lv_sub (l' := [(0, .ref x0), (1, .int x1)]) hl [0, 1] rfl)
def wT_X6_sell_b0 (x0 : Nat) (x1 : Int32) (x2 : Int32) (S : sT)  (QX : String → sT → Prop) : Prop :=
s_K S x0 = 8 ∧
    ((w_X6_fieldAt x0 x1 S (fun a102 S101 =>
    s_K S101 a102 = 3 ∧
    ∃ a103 : Nat, s_R S101 68 a102 = some a103 ∧
    (((1 : Int32) ≤ x2 → s_K S101 a103 = 6 ∧
    ∀ x105 : Int32, x105 = s_I S101 162 a103 →
    ((x2 ≤ x105 → False) ∧
    (¬ x2 ≤ x105 → QX "java/lang/IllegalStateException" S101))) ∧
    (¬ (1 : Int32) ≤ x2 → QX "java/lang/IllegalArgumentException" S101)))) ∨ wT_X6_fieldAt x0 x1 S QX)
def wT_X6_sell (x0 : Nat) (x1 : Int32) (x2 : Int32) (S : sT) (QX : String → sT → Prop) : Prop := wT_X6_sell_b0 x0 x1 x2 S QX
def rT_X6_sell : Room := x_rm 7 113 1 6
set_option maxHeartbeats 4000000 in
theorem tT_X6_sell_b0 {QX : String → sT → Prop} (C : x_C p s m args c cX6_sell RX6 gg) (hml : c.maxLocals = 4) (hr : meth.sig.returnType = (some .int)) (hlocks : meth.locks = false) (hst : l.stackTraces = false) (ht : ∀ x ∈ c.exceptionTable.toList, False) {x0 : Nat} {x1 : Int32} {x2 : Int32}  {S : sT}  (h : wT_X6_sell_b0 x0 x1 x2 S  QX) : x_X p l e rT_X6_sell s m args below meth c gg 4 0 0 (vx_MQ below (fun _ _ _ _ => False) (x_XC gg QX) args s 1 6 (s_A gg)) 0 [(0, .ref x0), (1, .int x1), (2, .int x2)] [] S := by
  unfold wT_X6_sell_b0 at h
  obtain ⟨hx, hb, -⟩ := id C
  intro H locs ls hR hS hl
  refine lv_aload_n hx hb dX6_sell_0 rfl (lv_at hl 0 rfl) ?_
  refine lv_iload_n hx hb dX6_sell_1 rfl (lv_at hl 1 rfl) ?_
  obtain ⟨hK_x0, h⟩ := h
  rcases h with h | h
  · refine x_kq (x_runV (As := [.int x1]) (rest := []) C hml hR hS (m_X6_fieldAt l gg x0 x1 S h) b_X6_fieldAt q_12_22 (by rw [hK_x0]; decide) (s_E_7 hK_x0) rfl rfl rfl rfl ⟨Nat.le_of_ble_eq_true rfl, Nat.le_of_ble_eq_true rfl⟩ rfl hl.1 (Nat.le_of_ble_eq_true rfl) dX6_sell_2 ⟨Nat.le_of_ble_eq_true rfl, Nat.le_of_ble_eq_true rfl⟩) hS (fun ra102 S101 H locs hn hR hS => ?_)
    replace h := hn
    clear hn
    obtain ⟨a102, za102, h⟩ := h
    refine x_some za102 ?_
    obtain ⟨hK_a102, h⟩ := h
    refine x_g_68 C hR hK_a102 q_16_21 dX6_sell_5 ?_
    obtain ⟨a103, ea103, h⟩ := h
    refine x_some ea103 ?_
    refine lv_astore_n (lv' := [(3, .ref a103), (0, .ref x0), (1, .int x1), (2, .int x2)]) hx hb dX6_sell_8 rfl hl (by decide) rfl (fun ls hl => ?_)
    refine lv_iload_n hx hb dX6_sell_9 rfl (lv_at hl 3 rfl) ?_
    refine lv_iconst (v := 1) hx hb dX6_sell_10 (by decide) ?_
    refine lv_icmp_ge (tgt := 24) hx hb dX6_sell_11 (by decide) (fun hc104 => ?_) (fun hc104 => ?_)
    · replace h := h.1 hc104
      refine lv_aload_n hx hb dX6_sell_24 rfl (lv_at hl 0 rfl) ?_
      obtain ⟨hK_a103, h⟩ := h
      refine x_g_162 C hR hK_a103 q_18_2 dX6_sell_25 ?_
      refine lv_topi (fun x105 ex105 => ?_)
      replace h := h x105 ex105
      refine lv_iload_n hx hb dX6_sell_28 rfl (lv_at hl 3 rfl) ?_
      refine lv_icmp_ge (tgt := 42) hx hb dX6_sell_29 (by decide) (fun hc106 => ?_) (fun hc106 => ?_)
      · replace h := h.1 hc106
        exact h.elim
      · replace h := h.2 hc106
        exact x_thr hst C hR hS hl hml ht hlocks (by decide) xe_w1 xe_b1 (xe_h1 _) xe_c1 q_4_8 q_4_9 xe_s187 dX6_sell_32 dX6_sell_35 dX6_sell_36 dX6_sell_38 dX6_sell_41 (Nat.le_of_ble_eq_true rfl) (Nat.le_of_ble_eq_true rfl) (Nat.le_of_ble_eq_true rfl) (Nat.le_of_ble_eq_true rfl) (Nat.le_of_ble_eq_true rfl) (Nat.le_of_ble_eq_true rfl) h
    · replace h := h.2 hc104
      exact x_thr hst C hR hS hl hml ht hlocks (by decide) xe_w0 xe_b0 (xe_h0 _) xe_c0 q_4_6 q_4_7 xe_s185 dX6_sell_14 dX6_sell_17 dX6_sell_18 dX6_sell_20 dX6_sell_23 (Nat.le_of_ble_eq_true rfl) (Nat.le_of_ble_eq_true rfl) (Nat.le_of_ble_eq_true rfl) (Nat.le_of_ble_eq_true rfl) (Nat.le_of_ble_eq_true rfl) (Nat.le_of_ble_eq_true rfl) h
  · exact x_ze (x_runVT (As := [.int x1]) (rest := []) C hml hR hS (mT_X6_fieldAt l gg x0 x1 S hst h) b_X6_fieldAt q_12_22 (by rw [hK_x0]; decide) (s_E_7 hK_x0) rfl rfl rfl rfl ⟨Nat.le_of_ble_eq_true rfl, Nat.le_of_ble_eq_true rfl⟩ rfl hl.1 (Nat.le_of_ble_eq_true rfl) dX6_sell_2 ⟨Nat.le_of_ble_eq_true rfl, Nat.le_of_ble_eq_true rfl⟩) hS (fun E9 ce q9 S1 H1 locs1 hq hR1 hS1 hce hcv hcl => x_zout ht hlocks hq hR1 hS1 hce hcv hcl (Nat.le_of_ble_eq_true rfl) (Nat.le_of_ble_eq_true rfl))
theorem mT_X6_sell (l : Launch) (gg : sG) (x0 : Nat) (x1 : Int32) (x2 : Int32) (S : sT) (hst : l.stackTraces = false) {QX : String → sT → Prop} (h : wT_X6_sell x0 x1 x2 S QX) : x_T l gg yX6_sell (x_ws yX6_sell cX6_sell 4 (some .int)) rT_X6_sell [.ref x0, .int x1, .int x2] S QX 1 6 := by
  refine x_ofWT (cc := cX6_sell) (own := RX6) (by decide +kernel) rfl (Nat.le_of_ble_eq_true rfl) ?_
  intro p e s m args below meth c C hml hr hlocks hin ht H locs ls hR hS hl
  exact tT_X6_sell_b0 C hml hr hlocks hst ht h H locs ls hR hS (lv_sub (l' := [(0, .ref x0), (1, .int x1), (2, .int x2)]) hl [0, 1, 2] rfl)
def wT_X6_vote_b56 (x2 : Nat) (x4 : Int32) (S : sT)  (QX : String → sT → Prop) : Prop :=
False
def wT_X6_vote_b0 (x0 : Nat) (x1 : Int32) (S : sT)  (QX : String → sT → Prop) : Prop :=
s_K S x0 = 8 ∧
    ((w_X6_societyAt x0 x1 S (fun a102 S101 =>
    False)) ∨ wT_X6_societyAt x0 x1 S QX)
def wT_X6_vote (x0 : Nat) (x1 : Int32) (S : sT) (QX : String → sT → Prop) : Prop := wT_X6_vote_b0 x0 x1 S QX
def rT_X6_vote : Room := x_rm 7 113 1 6
set_option maxHeartbeats 4000000 in
theorem tT_X6_vote_b56 {QX : String → sT → Prop} (C : x_C p s m args c cX6_vote RX6 gg) (hml : c.maxLocals = 5) (hr : meth.sig.returnType = (some .int)) (hlocks : meth.locks = false) (hst : l.stackTraces = false) (ht : ∀ x ∈ c.exceptionTable.toList, False) {x2 : Nat} {x4 : Int32}  {S : sT}  (h : wT_X6_vote_b56 x2 x4 S  QX) : x_X p l e rT_X6_vote s m args below meth c gg 5 0 0 (vx_MQ below (fun _ _ _ _ => False) (x_XC gg QX) args s 1 6 (s_A gg)) 56 [(2, .ref x2), (4, .int x4)] [] S := by
  unfold wT_X6_vote_b56 at h
  obtain ⟨hx, hb, -⟩ := id C
  intro H locs ls hR hS hl
  exact h.elim
set_option maxHeartbeats 4000000 in
theorem tT_X6_vote_b0 {QX : String → sT → Prop} (C : x_C p s m args c cX6_vote RX6 gg) (hml : c.maxLocals = 5) (hr : meth.sig.returnType = (some .int)) (hlocks : meth.locks = false) (hst : l.stackTraces = false) (ht : ∀ x ∈ c.exceptionTable.toList, False) {x0 : Nat} {x1 : Int32}  {S : sT}  (h : wT_X6_vote_b0 x0 x1 S  QX) : x_X p l e rT_X6_vote s m args below meth c gg 5 0 0 (vx_MQ below (fun _ _ _ _ => False) (x_XC gg QX) args s 1 6 (s_A gg)) 0 [(0, .ref x0), (1, .int x1)] [] S := by
  unfold wT_X6_vote_b0 at h
  obtain ⟨hx, hb, -⟩ := id C
  intro H locs ls hR hS hl
  refine lv_aload_n hx hb dX6_vote_0 rfl (lv_at hl 0 rfl) ?_
  refine lv_iload_n hx hb dX6_vote_1 rfl (lv_at hl 1 rfl) ?_
  obtain ⟨hK_x0, h⟩ := h
  rcases h with h | h
  · refine x_kq (x_runV (As := [.int x1]) (rest := []) C hml hR hS (m_X6_societyAt l gg x0 x1 S h) b_X6_societyAt q_9_5 (by rw [hK_x0]; decide) (s_E_7 hK_x0) rfl rfl rfl rfl ⟨Nat.le_of_ble_eq_true rfl, Nat.le_of_ble_eq_true rfl⟩ rfl hl.1 (Nat.le_of_ble_eq_true rfl) dX6_vote_2 ⟨Nat.le_of_ble_eq_true rfl, Nat.le_of_ble_eq_true rfl⟩) hS (fun ra102 S101 H locs hn hR hS => ?_)
    replace h := hn
    clear hn
    obtain ⟨a102, za102, h⟩ := h
    refine x_some za102 ?_
    exact h.elim
  · exact x_ze (x_runVT (As := [.int x1]) (rest := []) C hml hR hS (mT_X6_societyAt l gg x0 x1 S hst h) b_X6_societyAt q_9_5 (by rw [hK_x0]; decide) (s_E_7 hK_x0) rfl rfl rfl rfl ⟨Nat.le_of_ble_eq_true rfl, Nat.le_of_ble_eq_true rfl⟩ rfl hl.1 (Nat.le_of_ble_eq_true rfl) dX6_vote_2 ⟨Nat.le_of_ble_eq_true rfl, Nat.le_of_ble_eq_true rfl⟩) hS (fun E9 ce q9 S1 H1 locs1 hq hR1 hS1 hce hcv hcl => x_zout ht hlocks hq hR1 hS1 hce hcv hcl (Nat.le_of_ble_eq_true rfl) (Nat.le_of_ble_eq_true rfl))
theorem mT_X6_vote (l : Launch) (gg : sG) (x0 : Nat) (x1 : Int32) (S : sT) (hst : l.stackTraces = false) {QX : String → sT → Prop} (h : wT_X6_vote x0 x1 S QX) : x_T l gg yX6_vote (x_ws yX6_vote cX6_vote 5 (some .int)) rT_X6_vote [.ref x0, .int x1] S QX 1 6 := by
  refine x_ofWT (cc := cX6_vote) (own := RX6) (by decide +kernel) rfl (Nat.le_of_ble_eq_true rfl) ?_
  intro p e s m args below meth c C hml hr hlocks hin ht H locs ls hR hS hl
  exact tT_X6_vote_b0 C hml hr hlocks hst ht h H locs ls hR hS (lv_sub (l' := [(0, .ref x0), (1, .int x1)]) hl [0, 1] rfl)
def wT_X6_ofField_b0 (x0 : Nat) (x1 : Int32) (x2 : Int32) (S : sT)  (QX : String → sT → Prop) : Prop :=
s_K S x0 = 8 ∧
    ((w_X6_fieldAt x0 x1 S (fun a102 S101 =>
    ((x2 = 0 → False) ∧
    (x2 = 1 → False) ∧
    (x2 = 2 → False) ∧
    (x2 = 3 → False) ∧
    (x2 = 4 → False) ∧
    (x2 = 5 → False) ∧
    (x2 = 6 → False) ∧
    (x2 = 7 → False) ∧
    (x2 = 8 → False) ∧
    (x2 = 9 → False) ∧
    (x2 = 10 → False) ∧
    (x2 = 11 → False) ∧
    (x2 = 12 → False) ∧
    (x2 = 13 → False) ∧
    ((¬ x2 = 0 ∧ ¬ x2 = 1 ∧ ¬ x2 = 2 ∧ ¬ x2 = 3 ∧ ¬ x2 = 4 ∧ ¬ x2 = 5 ∧ ¬ x2 = 6 ∧ ¬ x2 = 7 ∧ ¬ x2 = 8 ∧ ¬ x2 = 9 ∧ ¬ x2 = 10 ∧ ¬ x2 = 11 ∧ ¬ x2 = 12 ∧ ¬ x2 = 13) → QX "java/lang/IllegalArgumentException" S101)))) ∨ wT_X6_fieldAt x0 x1 S QX)
def wT_X6_ofField (x0 : Nat) (x1 : Int32) (x2 : Int32) (S : sT) (QX : String → sT → Prop) : Prop := wT_X6_ofField_b0 x0 x1 x2 S QX
def rT_X6_ofField : Room := x_rm 7 113 1 6
set_option maxHeartbeats 4000000 in
theorem tT_X6_ofField_b0 {QX : String → sT → Prop} (C : x_C p s m args c cX6_ofField RX6 gg) (hml : c.maxLocals = 4) (hr : meth.sig.returnType = (some .int)) (hlocks : meth.locks = false) (hst : l.stackTraces = false) (ht : ∀ x ∈ c.exceptionTable.toList, False) {x0 : Nat} {x1 : Int32} {x2 : Int32}  {S : sT}  (h : wT_X6_ofField_b0 x0 x1 x2 S  QX) : x_X p l e rT_X6_ofField s m args below meth c gg 4 0 0 (vx_MQ below (fun _ _ _ _ => False) (x_XC gg QX) args s 1 6 (s_A gg)) 0 [(0, .ref x0), (1, .int x1), (2, .int x2)] [] S := by
  unfold wT_X6_ofField_b0 at h
  obtain ⟨hx, hb, -⟩ := id C
  intro H locs ls hR hS hl
  refine lv_aload_n hx hb dX6_ofField_0 rfl (lv_at hl 0 rfl) ?_
  refine lv_iload_n hx hb dX6_ofField_1 rfl (lv_at hl 1 rfl) ?_
  obtain ⟨hK_x0, h⟩ := h
  rcases h with h | h
  · refine x_kq (x_runV (As := [.int x1]) (rest := []) C hml hR hS (m_X6_fieldAt l gg x0 x1 S h) b_X6_fieldAt q_12_22 (by rw [hK_x0]; decide) (s_E_7 hK_x0) rfl rfl rfl rfl ⟨Nat.le_of_ble_eq_true rfl, Nat.le_of_ble_eq_true rfl⟩ rfl hl.1 (Nat.le_of_ble_eq_true rfl) dX6_ofField_2 ⟨Nat.le_of_ble_eq_true rfl, Nat.le_of_ble_eq_true rfl⟩) hS (fun ra102 S101 H locs hn hR hS => ?_)
    replace h := hn
    clear hn
    obtain ⟨a102, za102, h⟩ := h
    refine x_some za102 ?_
    refine lv_astore_n (lv' := [(3, .ref a102), (0, .ref x0), (1, .int x1), (2, .int x2)]) hx hb dX6_ofField_5 rfl hl (by decide) rfl (fun ls hl => ?_)
    refine lv_iload_n hx hb dX6_ofField_6 rfl (lv_at hl 3 rfl) ?_
    by_cases hc103 : x2 = 0
    · have h := h.1 hc103
      refine lv_tableIn (off := 69) (tgt := 76) hx hb dX6_ofField_7 (by rw [hc103]; decide) (by rw [hc103]; decide) (by rw [hc103]; rfl) (by decide) ?_
      exact h.elim
    · by_cases hc104 : x2 = 1
      · have h := h.2.1 hc104
        refine lv_tableIn (off := 77) (tgt := 84) hx hb dX6_ofField_7 (by rw [hc104]; decide) (by rw [hc104]; decide) (by rw [hc104]; rfl) (by decide) ?_
        exact h.elim
      · by_cases hc105 : x2 = 2
        · have h := h.2.2.1 hc105
          refine lv_tableIn (off := 82) (tgt := 89) hx hb dX6_ofField_7 (by rw [hc105]; decide) (by rw [hc105]; decide) (by rw [hc105]; rfl) (by decide) ?_
          exact h.elim
        · by_cases hc106 : x2 = 3
          · have h := h.2.2.2.1 hc106
            refine lv_tableIn (off := 87) (tgt := 94) hx hb dX6_ofField_7 (by rw [hc106]; decide) (by rw [hc106]; decide) (by rw [hc106]; rfl) (by decide) ?_
            exact h.elim
          · by_cases hc107 : x2 = 4
            · have h := h.2.2.2.2.1 hc107
              refine lv_tableIn (off := 92) (tgt := 99) hx hb dX6_ofField_7 (by rw [hc107]; decide) (by rw [hc107]; decide) (by rw [hc107]; rfl) (by decide) ?_
              exact h.elim
            · by_cases hc108 : x2 = 5
              · have h := h.2.2.2.2.2.1 hc108
                refine lv_tableIn (off := 100) (tgt := 107) hx hb dX6_ofField_7 (by rw [hc108]; decide) (by rw [hc108]; decide) (by rw [hc108]; rfl) (by decide) ?_
                exact h.elim
              · by_cases hc109 : x2 = 6
                · have h := h.2.2.2.2.2.2.1 hc109
                  refine lv_tableIn (off := 108) (tgt := 115) hx hb dX6_ofField_7 (by rw [hc109]; decide) (by rw [hc109]; decide) (by rw [hc109]; rfl) (by decide) ?_
                  exact h.elim
                · by_cases hc110 : x2 = 7
                  · have h := h.2.2.2.2.2.2.2.1 hc110
                    refine lv_tableIn (off := 116) (tgt := 123) hx hb dX6_ofField_7 (by rw [hc110]; decide) (by rw [hc110]; decide) (by rw [hc110]; rfl) (by decide) ?_
                    exact h.elim
                  · by_cases hc111 : x2 = 8
                    · have h := h.2.2.2.2.2.2.2.2.1 hc111
                      refine lv_tableIn (off := 124) (tgt := 131) hx hb dX6_ofField_7 (by rw [hc111]; decide) (by rw [hc111]; decide) (by rw [hc111]; rfl) (by decide) ?_
                      exact h.elim
                    · by_cases hc112 : x2 = 9
                      · have h := h.2.2.2.2.2.2.2.2.2.1 hc112
                        refine lv_tableIn (off := 129) (tgt := 136) hx hb dX6_ofField_7 (by rw [hc112]; decide) (by rw [hc112]; decide) (by rw [hc112]; rfl) (by decide) ?_
                        exact h.elim
                      · by_cases hc113 : x2 = 10
                        · have h := h.2.2.2.2.2.2.2.2.2.2.1 hc113
                          refine lv_tableIn (off := 137) (tgt := 144) hx hb dX6_ofField_7 (by rw [hc113]; decide) (by rw [hc113]; decide) (by rw [hc113]; rfl) (by decide) ?_
                          exact h.elim
                        · by_cases hc114 : x2 = 11
                          · have h := h.2.2.2.2.2.2.2.2.2.2.2.1 hc114
                            refine lv_tableIn (off := 145) (tgt := 152) hx hb dX6_ofField_7 (by rw [hc114]; decide) (by rw [hc114]; decide) (by rw [hc114]; rfl) (by decide) ?_
                            exact h.elim
                          · by_cases hc115 : x2 = 12
                            · have h := h.2.2.2.2.2.2.2.2.2.2.2.2.1 hc115
                              refine lv_tableIn (off := 153) (tgt := 160) hx hb dX6_ofField_7 (by rw [hc115]; decide) (by rw [hc115]; decide) (by rw [hc115]; rfl) (by decide) ?_
                              exact h.elim
                            · by_cases hc116 : x2 = 13
                              · have h := h.2.2.2.2.2.2.2.2.2.2.2.2.2.1 hc116
                                refine lv_tableIn (off := 158) (tgt := 165) hx hb dX6_ofField_7 (by rw [hc116]; decide) (by rw [hc116]; decide) (by rw [hc116]; rfl) (by decide) ?_
                                exact h.elim
                              · have h := h.2.2.2.2.2.2.2.2.2.2.2.2.2.2 ⟨hc103, hc104, hc105, hc106, hc107, hc108, hc109, hc110, hc111, hc112, hc113, hc114, hc115, hc116⟩
                                refine lv_tableOut (tgt := 173) hx hb dX6_ofField_7 (x_tout 0 13 (fun q1 q2 => ?_)) (by decide) ?_
                                · rcases (show x2.toInt = 0 ∨ x2.toInt = 1 ∨ x2.toInt = 2 ∨ x2.toInt = 3 ∨ x2.toInt = 4 ∨ x2.toInt = 5 ∨ x2.toInt = 6 ∨ x2.toInt = 7 ∨ x2.toInt = 8 ∨ x2.toInt = 9 ∨ x2.toInt = 10 ∨ x2.toInt = 11 ∨ x2.toInt = 12 ∨ x2.toInt = 13 by omega) with z | z | z | z | z | z | z | z | z | z | z | z | z | z
                                  · exact hc103 (x_ti z (by decide))
                                  · exact hc104 (x_ti z (by decide))
                                  · exact hc105 (x_ti z (by decide))
                                  · exact hc106 (x_ti z (by decide))
                                  · exact hc107 (x_ti z (by decide))
                                  · exact hc108 (x_ti z (by decide))
                                  · exact hc109 (x_ti z (by decide))
                                  · exact hc110 (x_ti z (by decide))
                                  · exact hc111 (x_ti z (by decide))
                                  · exact hc112 (x_ti z (by decide))
                                  · exact hc113 (x_ti z (by decide))
                                  · exact hc114 (x_ti z (by decide))
                                  · exact hc115 (x_ti z (by decide))
                                  · exact hc116 (x_ti z (by decide))
                                exact x_thr hst C hR hS hl hml ht hlocks (by decide) xe_w0 xe_b0 (xe_h0 _) xe_c0 q_4_6 q_4_7 xe_s229 dX6_ofField_173 dX6_ofField_176 dX6_ofField_177 dX6_ofField_179 dX6_ofField_182 (Nat.le_of_ble_eq_true rfl) (Nat.le_of_ble_eq_true rfl) (Nat.le_of_ble_eq_true rfl) (Nat.le_of_ble_eq_true rfl) (Nat.le_of_ble_eq_true rfl) (Nat.le_of_ble_eq_true rfl) h
  · exact x_ze (x_runVT (As := [.int x1]) (rest := []) C hml hR hS (mT_X6_fieldAt l gg x0 x1 S hst h) b_X6_fieldAt q_12_22 (by rw [hK_x0]; decide) (s_E_7 hK_x0) rfl rfl rfl rfl ⟨Nat.le_of_ble_eq_true rfl, Nat.le_of_ble_eq_true rfl⟩ rfl hl.1 (Nat.le_of_ble_eq_true rfl) dX6_ofField_2 ⟨Nat.le_of_ble_eq_true rfl, Nat.le_of_ble_eq_true rfl⟩) hS (fun E9 ce q9 S1 H1 locs1 hq hR1 hS1 hce hcv hcl => x_zout ht hlocks hq hR1 hS1 hce hcv hcl (Nat.le_of_ble_eq_true rfl) (Nat.le_of_ble_eq_true rfl))
theorem mT_X6_ofField (l : Launch) (gg : sG) (x0 : Nat) (x1 : Int32) (x2 : Int32) (S : sT) (hst : l.stackTraces = false) {QX : String → sT → Prop} (h : wT_X6_ofField x0 x1 x2 S QX) : x_T l gg yX6_ofField (x_ws yX6_ofField cX6_ofField 4 (some .int)) rT_X6_ofField [.ref x0, .int x1, .int x2] S QX 1 6 := by
  refine x_ofWT (cc := cX6_ofField) (own := RX6) (by decide +kernel) rfl (Nat.le_of_ble_eq_true rfl) ?_
  intro p e s m args below meth c C hml hr hlocks hin ht H locs ls hR hS hl
  exact tT_X6_ofField_b0 C hml hr hlocks hst ht h H locs ls hR hS (lv_sub (l' := [(0, .ref x0), (1, .int x1), (2, .int x2)]) hl [0, 1, 2] rfl)
def wT_X6_ofOwner_b0 (x0 : Nat) (x1 : Int32) (x2 : Int32) (S : sT)  (QX : String → sT → Prop) : Prop :=
s_K S x0 = 8 ∧
    ((w_X6_fieldAt x0 x1 S (fun a102 S101 =>
    s_K S101 a102 = 3 ∧
    ∃ a103 : Nat, s_R S101 68 a102 = some a103 ∧
    ((x2 = 0 → False) ∧
    (x2 = 1 → False) ∧
    (x2 = 2 → False) ∧
    (x2 = 3 → False) ∧
    ((¬ x2 = 0 ∧ ¬ x2 = 1 ∧ ¬ x2 = 2 ∧ ¬ x2 = 3) → QX "java/lang/IllegalArgumentException" S101)))) ∨ wT_X6_fieldAt x0 x1 S QX)
def wT_X6_ofOwner (x0 : Nat) (x1 : Int32) (x2 : Int32) (S : sT) (QX : String → sT → Prop) : Prop := wT_X6_ofOwner_b0 x0 x1 x2 S QX
def rT_X6_ofOwner : Room := x_rm 7 113 1 6
set_option maxHeartbeats 4000000 in
theorem tT_X6_ofOwner_b0 {QX : String → sT → Prop} (C : x_C p s m args c cX6_ofOwner RX6 gg) (hml : c.maxLocals = 4) (hr : meth.sig.returnType = (some .int)) (hlocks : meth.locks = false) (hst : l.stackTraces = false) (ht : ∀ x ∈ c.exceptionTable.toList, False) {x0 : Nat} {x1 : Int32} {x2 : Int32}  {S : sT}  (h : wT_X6_ofOwner_b0 x0 x1 x2 S  QX) : x_X p l e rT_X6_ofOwner s m args below meth c gg 4 0 0 (vx_MQ below (fun _ _ _ _ => False) (x_XC gg QX) args s 1 6 (s_A gg)) 0 [(0, .ref x0), (1, .int x1), (2, .int x2)] [] S := by
  unfold wT_X6_ofOwner_b0 at h
  obtain ⟨hx, hb, -⟩ := id C
  intro H locs ls hR hS hl
  refine lv_aload_n hx hb dX6_ofOwner_0 rfl (lv_at hl 0 rfl) ?_
  refine lv_iload_n hx hb dX6_ofOwner_1 rfl (lv_at hl 1 rfl) ?_
  obtain ⟨hK_x0, h⟩ := h
  rcases h with h | h
  · refine x_kq (x_runV (As := [.int x1]) (rest := []) C hml hR hS (m_X6_fieldAt l gg x0 x1 S h) b_X6_fieldAt q_12_22 (by rw [hK_x0]; decide) (s_E_7 hK_x0) rfl rfl rfl rfl ⟨Nat.le_of_ble_eq_true rfl, Nat.le_of_ble_eq_true rfl⟩ rfl hl.1 (Nat.le_of_ble_eq_true rfl) dX6_ofOwner_2 ⟨Nat.le_of_ble_eq_true rfl, Nat.le_of_ble_eq_true rfl⟩) hS (fun ra102 S101 H locs hn hR hS => ?_)
    replace h := hn
    clear hn
    obtain ⟨a102, za102, h⟩ := h
    refine x_some za102 ?_
    obtain ⟨hK_a102, h⟩ := h
    refine x_g_68 C hR hK_a102 q_16_21 dX6_ofOwner_5 ?_
    obtain ⟨a103, ea103, h⟩ := h
    refine x_some ea103 ?_
    refine lv_astore_n (lv' := [(3, .ref a103), (0, .ref x0), (1, .int x1), (2, .int x2)]) hx hb dX6_ofOwner_8 rfl hl (by decide) rfl (fun ls hl => ?_)
    refine lv_iload_n hx hb dX6_ofOwner_9 rfl (lv_at hl 3 rfl) ?_
    by_cases hc104 : x2 = 0
    · have h := h.1 hc104
      refine lv_tableIn (off := 30) (tgt := 40) hx hb dX6_ofOwner_10 (by rw [hc104]; decide) (by rw [hc104]; decide) (by rw [hc104]; rfl) (by decide) ?_
      exact h.elim
    · by_cases hc105 : x2 = 1
      · have h := h.2.1 hc105
        refine lv_tableIn (off := 35) (tgt := 45) hx hb dX6_ofOwner_10 (by rw [hc105]; decide) (by rw [hc105]; decide) (by rw [hc105]; rfl) (by decide) ?_
        exact h.elim
      · by_cases hc106 : x2 = 2
        · have h := h.2.2.1 hc106
          refine lv_tableIn (off := 40) (tgt := 50) hx hb dX6_ofOwner_10 (by rw [hc106]; decide) (by rw [hc106]; decide) (by rw [hc106]; rfl) (by decide) ?_
          exact h.elim
        · by_cases hc107 : x2 = 3
          · have h := h.2.2.2.1 hc107
            refine lv_tableIn (off := 45) (tgt := 55) hx hb dX6_ofOwner_10 (by rw [hc107]; decide) (by rw [hc107]; decide) (by rw [hc107]; rfl) (by decide) ?_
            exact h.elim
          · have h := h.2.2.2.2 ⟨hc104, hc105, hc106, hc107⟩
            refine lv_tableOut (tgt := 63) hx hb dX6_ofOwner_10 (x_tout 0 3 (fun q1 q2 => ?_)) (by decide) ?_
            · rcases (show x2.toInt = 0 ∨ x2.toInt = 1 ∨ x2.toInt = 2 ∨ x2.toInt = 3 by omega) with z | z | z | z
              · exact hc104 (x_ti z (by decide))
              · exact hc105 (x_ti z (by decide))
              · exact hc106 (x_ti z (by decide))
              · exact hc107 (x_ti z (by decide))
            exact x_thr hst C hR hS hl hml ht hlocks (by decide) xe_w0 xe_b0 (xe_h0 _) xe_c0 q_4_6 q_4_7 xe_s234 dX6_ofOwner_63 dX6_ofOwner_66 dX6_ofOwner_67 dX6_ofOwner_69 dX6_ofOwner_72 (Nat.le_of_ble_eq_true rfl) (Nat.le_of_ble_eq_true rfl) (Nat.le_of_ble_eq_true rfl) (Nat.le_of_ble_eq_true rfl) (Nat.le_of_ble_eq_true rfl) (Nat.le_of_ble_eq_true rfl) h
  · exact x_ze (x_runVT (As := [.int x1]) (rest := []) C hml hR hS (mT_X6_fieldAt l gg x0 x1 S hst h) b_X6_fieldAt q_12_22 (by rw [hK_x0]; decide) (s_E_7 hK_x0) rfl rfl rfl rfl ⟨Nat.le_of_ble_eq_true rfl, Nat.le_of_ble_eq_true rfl⟩ rfl hl.1 (Nat.le_of_ble_eq_true rfl) dX6_ofOwner_2 ⟨Nat.le_of_ble_eq_true rfl, Nat.le_of_ble_eq_true rfl⟩) hS (fun E9 ce q9 S1 H1 locs1 hq hR1 hS1 hce hcv hcl => x_zout ht hlocks hq hR1 hS1 hce hcv hcl (Nat.le_of_ble_eq_true rfl) (Nat.le_of_ble_eq_true rfl))
theorem mT_X6_ofOwner (l : Launch) (gg : sG) (x0 : Nat) (x1 : Int32) (x2 : Int32) (S : sT) (hst : l.stackTraces = false) {QX : String → sT → Prop} (h : wT_X6_ofOwner x0 x1 x2 S QX) : x_T l gg yX6_ofOwner (x_ws yX6_ofOwner cX6_ofOwner 4 (some .int)) rT_X6_ofOwner [.ref x0, .int x1, .int x2] S QX 1 6 := by
  refine x_ofWT (cc := cX6_ofOwner) (own := RX6) (by decide +kernel) rfl (Nat.le_of_ble_eq_true rfl) ?_
  intro p e s m args below meth c C hml hr hlocks hin ht H locs ls hR hS hl
  exact tT_X6_ofOwner_b0 C hml hr hlocks hst ht h H locs ls hR hS (lv_sub (l' := [(0, .ref x0), (1, .int x1), (2, .int x2)]) hl [0, 1, 2] rfl)
def wT_X6_ofSociety_b0 (x0 : Nat) (x1 : Int32) (x2 : Int32) (S : sT)  (QX : String → sT → Prop) : Prop :=
s_K S x0 = 8 ∧
    ((w_X6_societyAt x0 x1 S (fun a102 S101 =>
    ((x2 = 0 → False) ∧
    (x2 = 1 → False) ∧
    (x2 = 2 → False) ∧
    (x2 = 3 → False) ∧
    (x2 = 4 → False) ∧
    (x2 = 5 → False) ∧
    (x2 = 6 → False) ∧
    (x2 = 7 → False) ∧
    (x2 = 8 → False) ∧
    ((¬ x2 = 0 ∧ ¬ x2 = 1 ∧ ¬ x2 = 2 ∧ ¬ x2 = 3 ∧ ¬ x2 = 4 ∧ ¬ x2 = 5 ∧ ¬ x2 = 6 ∧ ¬ x2 = 7 ∧ ¬ x2 = 8) → QX "java/lang/IllegalArgumentException" S101)))) ∨ wT_X6_societyAt x0 x1 S QX)
def wT_X6_ofSociety (x0 : Nat) (x1 : Int32) (x2 : Int32) (S : sT) (QX : String → sT → Prop) : Prop := wT_X6_ofSociety_b0 x0 x1 x2 S QX
def rT_X6_ofSociety : Room := x_rm 7 113 1 6
set_option maxHeartbeats 4000000 in
theorem tT_X6_ofSociety_b0 {QX : String → sT → Prop} (C : x_C p s m args c cX6_ofSociety RX6 gg) (hml : c.maxLocals = 4) (hr : meth.sig.returnType = (some .int)) (hlocks : meth.locks = false) (hst : l.stackTraces = false) (ht : ∀ x ∈ c.exceptionTable.toList, False) {x0 : Nat} {x1 : Int32} {x2 : Int32}  {S : sT}  (h : wT_X6_ofSociety_b0 x0 x1 x2 S  QX) : x_X p l e rT_X6_ofSociety s m args below meth c gg 4 0 0 (vx_MQ below (fun _ _ _ _ => False) (x_XC gg QX) args s 1 6 (s_A gg)) 0 [(0, .ref x0), (1, .int x1), (2, .int x2)] [] S := by
  unfold wT_X6_ofSociety_b0 at h
  obtain ⟨hx, hb, -⟩ := id C
  intro H locs ls hR hS hl
  refine lv_aload_n hx hb dX6_ofSociety_0 rfl (lv_at hl 0 rfl) ?_
  refine lv_iload_n hx hb dX6_ofSociety_1 rfl (lv_at hl 1 rfl) ?_
  obtain ⟨hK_x0, h⟩ := h
  rcases h with h | h
  · refine x_kq (x_runV (As := [.int x1]) (rest := []) C hml hR hS (m_X6_societyAt l gg x0 x1 S h) b_X6_societyAt q_9_5 (by rw [hK_x0]; decide) (s_E_7 hK_x0) rfl rfl rfl rfl ⟨Nat.le_of_ble_eq_true rfl, Nat.le_of_ble_eq_true rfl⟩ rfl hl.1 (Nat.le_of_ble_eq_true rfl) dX6_ofSociety_2 ⟨Nat.le_of_ble_eq_true rfl, Nat.le_of_ble_eq_true rfl⟩) hS (fun ra102 S101 H locs hn hR hS => ?_)
    replace h := hn
    clear hn
    obtain ⟨a102, za102, h⟩ := h
    refine x_some za102 ?_
    refine lv_astore_n (lv' := [(3, .ref a102), (0, .ref x0), (1, .int x1), (2, .int x2)]) hx hb dX6_ofSociety_5 rfl hl (by decide) rfl (fun ls hl => ?_)
    refine lv_iload_n hx hb dX6_ofSociety_6 rfl (lv_at hl 3 rfl) ?_
    by_cases hc103 : x2 = 0
    · have h := h.1 hc103
      refine lv_tableIn (off := 49) (tgt := 56) hx hb dX6_ofSociety_7 (by rw [hc103]; decide) (by rw [hc103]; decide) (by rw [hc103]; rfl) (by decide) ?_
      exact h.elim
    · by_cases hc104 : x2 = 1
      · have h := h.2.1 hc104
        refine lv_tableIn (off := 54) (tgt := 61) hx hb dX6_ofSociety_7 (by rw [hc104]; decide) (by rw [hc104]; decide) (by rw [hc104]; rfl) (by decide) ?_
        exact h.elim
      · by_cases hc105 : x2 = 2
        · have h := h.2.2.1 hc105
          refine lv_tableIn (off := 59) (tgt := 66) hx hb dX6_ofSociety_7 (by rw [hc105]; decide) (by rw [hc105]; decide) (by rw [hc105]; rfl) (by decide) ?_
          exact h.elim
        · by_cases hc106 : x2 = 3
          · have h := h.2.2.2.1 hc106
            refine lv_tableIn (off := 64) (tgt := 71) hx hb dX6_ofSociety_7 (by rw [hc106]; decide) (by rw [hc106]; decide) (by rw [hc106]; rfl) (by decide) ?_
            exact h.elim
          · by_cases hc107 : x2 = 4
            · have h := h.2.2.2.2.1 hc107
              refine lv_tableIn (off := 69) (tgt := 76) hx hb dX6_ofSociety_7 (by rw [hc107]; decide) (by rw [hc107]; decide) (by rw [hc107]; rfl) (by decide) ?_
              exact h.elim
            · by_cases hc108 : x2 = 5
              · have h := h.2.2.2.2.2.1 hc108
                refine lv_tableIn (off := 84) (tgt := 91) hx hb dX6_ofSociety_7 (by rw [hc108]; decide) (by rw [hc108]; decide) (by rw [hc108]; rfl) (by decide) ?_
                exact h.elim
              · by_cases hc109 : x2 = 6
                · have h := h.2.2.2.2.2.2.1 hc109
                  refine lv_tableIn (off := 89) (tgt := 96) hx hb dX6_ofSociety_7 (by rw [hc109]; decide) (by rw [hc109]; decide) (by rw [hc109]; rfl) (by decide) ?_
                  exact h.elim
                · by_cases hc110 : x2 = 7
                  · have h := h.2.2.2.2.2.2.2.1 hc110
                    refine lv_tableIn (off := 97) (tgt := 104) hx hb dX6_ofSociety_7 (by rw [hc110]; decide) (by rw [hc110]; decide) (by rw [hc110]; rfl) (by decide) ?_
                    exact h.elim
                  · by_cases hc111 : x2 = 8
                    · have h := h.2.2.2.2.2.2.2.2.1 hc111
                      refine lv_tableIn (off := 102) (tgt := 109) hx hb dX6_ofSociety_7 (by rw [hc111]; decide) (by rw [hc111]; decide) (by rw [hc111]; rfl) (by decide) ?_
                      exact h.elim
                    · have h := h.2.2.2.2.2.2.2.2.2 ⟨hc103, hc104, hc105, hc106, hc107, hc108, hc109, hc110, hc111⟩
                      refine lv_tableOut (tgt := 117) hx hb dX6_ofSociety_7 (x_tout 0 8 (fun q1 q2 => ?_)) (by decide) ?_
                      · rcases (show x2.toInt = 0 ∨ x2.toInt = 1 ∨ x2.toInt = 2 ∨ x2.toInt = 3 ∨ x2.toInt = 4 ∨ x2.toInt = 5 ∨ x2.toInt = 6 ∨ x2.toInt = 7 ∨ x2.toInt = 8 by omega) with z | z | z | z | z | z | z | z | z
                        · exact hc103 (x_ti z (by decide))
                        · exact hc104 (x_ti z (by decide))
                        · exact hc105 (x_ti z (by decide))
                        · exact hc106 (x_ti z (by decide))
                        · exact hc107 (x_ti z (by decide))
                        · exact hc108 (x_ti z (by decide))
                        · exact hc109 (x_ti z (by decide))
                        · exact hc110 (x_ti z (by decide))
                        · exact hc111 (x_ti z (by decide))
                      exact x_thrW hst C hR hS hl hml ht hlocks (by decide) xe_w0 xe_b0 (xe_h0 _) xe_c0 q_4_6 q_4_7 xe_s257 dX6_ofSociety_117 dX6_ofSociety_120 dX6_ofSociety_121 dX6_ofSociety_124 dX6_ofSociety_127 (Nat.le_of_ble_eq_true rfl) (Nat.le_of_ble_eq_true rfl) (Nat.le_of_ble_eq_true rfl) (Nat.le_of_ble_eq_true rfl) (Nat.le_of_ble_eq_true rfl) (Nat.le_of_ble_eq_true rfl) h
  · exact x_ze (x_runVT (As := [.int x1]) (rest := []) C hml hR hS (mT_X6_societyAt l gg x0 x1 S hst h) b_X6_societyAt q_9_5 (by rw [hK_x0]; decide) (s_E_7 hK_x0) rfl rfl rfl rfl ⟨Nat.le_of_ble_eq_true rfl, Nat.le_of_ble_eq_true rfl⟩ rfl hl.1 (Nat.le_of_ble_eq_true rfl) dX6_ofSociety_2 ⟨Nat.le_of_ble_eq_true rfl, Nat.le_of_ble_eq_true rfl⟩) hS (fun E9 ce q9 S1 H1 locs1 hq hR1 hS1 hce hcv hcl => x_zout ht hlocks hq hR1 hS1 hce hcv hcl (Nat.le_of_ble_eq_true rfl) (Nat.le_of_ble_eq_true rfl))
theorem mT_X6_ofSociety (l : Launch) (gg : sG) (x0 : Nat) (x1 : Int32) (x2 : Int32) (S : sT) (hst : l.stackTraces = false) {QX : String → sT → Prop} (h : wT_X6_ofSociety x0 x1 x2 S QX) : x_T l gg yX6_ofSociety (x_ws yX6_ofSociety cX6_ofSociety 4 (some .int)) rT_X6_ofSociety [.ref x0, .int x1, .int x2] S QX 1 6 := by
  refine x_ofWT (cc := cX6_ofSociety) (own := RX6) (by decide +kernel) rfl (Nat.le_of_ble_eq_true rfl) ?_
  intro p e s m args below meth c C hml hr hlocks hin ht H locs ls hR hS hl
  exact tT_X6_ofSociety_b0 C hml hr hlocks hst ht h H locs ls hR hS (lv_sub (l' := [(0, .ref x0), (1, .int x1), (2, .int x2)]) hl [0, 1, 2] rfl)
def wT_X6_sumOfFields_b4  (QX : String → sT → Prop) : Nat → Nat → Int32 → Int32 → Int32 → sT → Prop
  | 0 => fun _ _ _ _ _ => False
  | n + 1 => fun x0 x1 x2 x3 S =>
False
def wT_X6_sumOfFields_b0 (x0 : Nat) (x1 : Int32) (S : sT)  (QX : String → sT → Prop) : Prop :=
False
def wT_X6_sumOfFields (x0 : Nat) (x1 : Int32) (S : sT) (QX : String → sT → Prop) : Prop := wT_X6_sumOfFields_b0 x0 x1 S QX
def rT_X6_sumOfFields : Room := x_rm 0 0 1 6
set_option maxHeartbeats 4000000 in
theorem tT_X6_sumOfFields_b4 {QX : String → sT → Prop} (C : x_C p s m args c cX6_sumOfFields RX6 gg) (hml : c.maxLocals = 4) (hr : meth.sig.returnType = (some .int)) (hlocks : meth.locks = false) (hst : l.stackTraces = false) (ht : ∀ x ∈ c.exceptionTable.toList, False)   : ∀ (n : Nat) (x0 : Nat) (x1 : Int32) (x2 : Int32) (x3 : Int32) (S : sT), wT_X6_sumOfFields_b4  QX n x0 x1 x2 x3 S → x_X p l e rT_X6_sumOfFields s m args below meth c gg 4 0 0 (vx_MQ below (fun _ _ _ _ => False) (x_XC gg QX) args s 1 6 (s_A gg)) 4 [(0, .ref x0), (1, .int x1), (2, .int x2), (3, .int x3)] [] S := by
  obtain ⟨hx, hb, -⟩ := id C
  intro n
  induction n with
  | zero => intro x0 x1 x2 x3 S h; exact absurd h id
  | succ n ih =>
    intro x0 x1 x2 x3 S h H locs ls hR hS hl
    unfold wT_X6_sumOfFields_b4 at h
    exact h.elim
set_option maxHeartbeats 4000000 in
theorem tT_X6_sumOfFields_b0 {QX : String → sT → Prop} (C : x_C p s m args c cX6_sumOfFields RX6 gg) (hml : c.maxLocals = 4) (hr : meth.sig.returnType = (some .int)) (hlocks : meth.locks = false) (hst : l.stackTraces = false) (ht : ∀ x ∈ c.exceptionTable.toList, False) {x0 : Nat} {x1 : Int32}  {S : sT}  (h : wT_X6_sumOfFields_b0 x0 x1 S  QX) : x_X p l e rT_X6_sumOfFields s m args below meth c gg 4 0 0 (vx_MQ below (fun _ _ _ _ => False) (x_XC gg QX) args s 1 6 (s_A gg)) 0 [(0, .ref x0), (1, .int x1)] [] S := by
  unfold wT_X6_sumOfFields_b0 at h
  obtain ⟨hx, hb, -⟩ := id C
  intro H locs ls hR hS hl
  exact h.elim
theorem mT_X6_sumOfFields (l : Launch) (gg : sG) (x0 : Nat) (x1 : Int32) (S : sT) (hst : l.stackTraces = false) {QX : String → sT → Prop} (h : wT_X6_sumOfFields x0 x1 S QX) : x_T l gg yX6_sumOfFields (x_ws yX6_sumOfFields cX6_sumOfFields 4 (some .int)) rT_X6_sumOfFields [.ref x0, .int x1] S QX 1 6 := by
  refine x_ofWT (cc := cX6_sumOfFields) (own := RX6) (by decide +kernel) rfl (Nat.le_of_ble_eq_true rfl) ?_
  intro p e s m args below meth c C hml hr hlocks hin ht H locs ls hR hS hl
  exact tT_X6_sumOfFields_b0 C hml hr hlocks hst ht h H locs ls hR hS (lv_sub (l' := [(0, .ref x0), (1, .int x1)]) hl [0, 1] rfl)
def wT_X6_sumOfSocieties_b4  (QX : String → sT → Prop) : Nat → Nat → Int32 → Int32 → Int32 → sT → Prop
  | 0 => fun _ _ _ _ _ => False
  | n + 1 => fun x0 x1 x2 x3 S =>
False
def wT_X6_sumOfSocieties_b0 (x0 : Nat) (x1 : Int32) (S : sT)  (QX : String → sT → Prop) : Prop :=
False
def wT_X6_sumOfSocieties (x0 : Nat) (x1 : Int32) (S : sT) (QX : String → sT → Prop) : Prop := wT_X6_sumOfSocieties_b0 x0 x1 S QX
def rT_X6_sumOfSocieties : Room := x_rm 0 0 1 6
set_option maxHeartbeats 4000000 in
theorem tT_X6_sumOfSocieties_b4 {QX : String → sT → Prop} (C : x_C p s m args c cX6_sumOfSocieties RX6 gg) (hml : c.maxLocals = 4) (hr : meth.sig.returnType = (some .int)) (hlocks : meth.locks = false) (hst : l.stackTraces = false) (ht : ∀ x ∈ c.exceptionTable.toList, False)   : ∀ (n : Nat) (x0 : Nat) (x1 : Int32) (x2 : Int32) (x3 : Int32) (S : sT), wT_X6_sumOfSocieties_b4  QX n x0 x1 x2 x3 S → x_X p l e rT_X6_sumOfSocieties s m args below meth c gg 4 0 0 (vx_MQ below (fun _ _ _ _ => False) (x_XC gg QX) args s 1 6 (s_A gg)) 4 [(0, .ref x0), (1, .int x1), (2, .int x2), (3, .int x3)] [] S := by
  obtain ⟨hx, hb, -⟩ := id C
  intro n
  induction n with
  | zero => intro x0 x1 x2 x3 S h; exact absurd h id
  | succ n ih =>
    intro x0 x1 x2 x3 S h H locs ls hR hS hl
    unfold wT_X6_sumOfSocieties_b4 at h
    exact h.elim
set_option maxHeartbeats 4000000 in
theorem tT_X6_sumOfSocieties_b0 {QX : String → sT → Prop} (C : x_C p s m args c cX6_sumOfSocieties RX6 gg) (hml : c.maxLocals = 4) (hr : meth.sig.returnType = (some .int)) (hlocks : meth.locks = false) (hst : l.stackTraces = false) (ht : ∀ x ∈ c.exceptionTable.toList, False) {x0 : Nat} {x1 : Int32}  {S : sT}  (h : wT_X6_sumOfSocieties_b0 x0 x1 S  QX) : x_X p l e rT_X6_sumOfSocieties s m args below meth c gg 4 0 0 (vx_MQ below (fun _ _ _ _ => False) (x_XC gg QX) args s 1 6 (s_A gg)) 0 [(0, .ref x0), (1, .int x1)] [] S := by
  unfold wT_X6_sumOfSocieties_b0 at h
  obtain ⟨hx, hb, -⟩ := id C
  intro H locs ls hR hS hl
  exact h.elim
theorem mT_X6_sumOfSocieties (l : Launch) (gg : sG) (x0 : Nat) (x1 : Int32) (S : sT) (hst : l.stackTraces = false) {QX : String → sT → Prop} (h : wT_X6_sumOfSocieties x0 x1 S QX) : x_T l gg yX6_sumOfSocieties (x_ws yX6_sumOfSocieties cX6_sumOfSocieties 4 (some .int)) rT_X6_sumOfSocieties [.ref x0, .int x1] S QX 1 6 := by
  refine x_ofWT (cc := cX6_sumOfSocieties) (own := RX6) (by decide +kernel) rfl (Nat.le_of_ble_eq_true rfl) ?_
  intro p e s m args below meth c C hml hr hlocks hin ht H locs ls hR hS hl
  exact tT_X6_sumOfSocieties_b0 C hml hr hlocks hst ht h H locs ls hR hS (lv_sub (l' := [(0, .ref x0), (1, .int x1)]) hl [0, 1] rfl)
def wT_X6_water_b0 (x0 : Nat) (x1 : Int32) (S : sT)  (QX : String → sT → Prop) : Prop :=
((x1 = 0 → False) ∧
    (x1 = 1 → s_K S x0 = 8 ∧
    ((w_X6_sumOfFields x0 (1 : Int32) S (fun x104 S103 =>
    False)) ∨ wT_X6_sumOfFields x0 (1 : Int32) S QX)) ∧
    (x1 = 2 → False) ∧
    (x1 = 3 → s_K S x0 = 8 ∧
    ((w_X6_sumOfSocieties x0 (3 : Int32) S (fun x108 S107 =>
    False)) ∨ wT_X6_sumOfSocieties x0 (3 : Int32) S QX)) ∧
    (x1 = 4 → False) ∧
    (x1 = 5 → False) ∧
    (x1 = 6 → False) ∧
    ((¬ x1 = 0 ∧ ¬ x1 = 1 ∧ ¬ x1 = 2 ∧ ¬ x1 = 3 ∧ ¬ x1 = 4 ∧ ¬ x1 = 5 ∧ ¬ x1 = 6) → QX "java/lang/IllegalArgumentException" S))
def wT_X6_water (x0 : Nat) (x1 : Int32) (S : sT) (QX : String → sT → Prop) : Prop := wT_X6_water_b0 x0 x1 S QX
def rT_X6_water : Room := x_rm 6 133 1 6
set_option maxHeartbeats 4000000 in
theorem tT_X6_water_b0 {QX : String → sT → Prop} (C : x_C p s m args c cX6_water RX6 gg) (hml : c.maxLocals = 2) (hr : meth.sig.returnType = (some .int)) (hlocks : meth.locks = false) (hst : l.stackTraces = false) (ht : ∀ x ∈ c.exceptionTable.toList, False) {x0 : Nat} {x1 : Int32}  {S : sT}  (h : wT_X6_water_b0 x0 x1 S  QX) : x_X p l e rT_X6_water s m args below meth c gg 2 0 0 (vx_MQ below (fun _ _ _ _ => False) (x_XC gg QX) args s 1 6 (s_A gg)) 0 [(0, .ref x0), (1, .int x1)] [] S := by
  unfold wT_X6_water_b0 at h
  obtain ⟨hx, hb, -⟩ := id C
  intro H locs ls hR hS hl
  refine lv_iload_n hx hb dX6_water_0 rfl (lv_at hl 1 rfl) ?_
  by_cases hc101 : x1 = 0
  · have h := h.1 hc101
    refine lv_tableIn (off := 43) (tgt := 44) hx hb dX6_water_1 (by rw [hc101]; decide) (by rw [hc101]; decide) (by rw [hc101]; rfl) (by decide) ?_
    exact h.elim
  · by_cases hc102 : x1 = 1
    · have h := h.2.1 hc102
      refine lv_tableIn (off := 54) (tgt := 55) hx hb dX6_water_1 (by rw [hc102]; decide) (by rw [hc102]; decide) (by rw [hc102]; rfl) (by decide) ?_
      refine lv_aload_n hx hb dX6_water_55 rfl (lv_at hl 0 rfl) ?_
      refine lv_iconst (v := 1) hx hb dX6_water_56 (by decide) ?_
      obtain ⟨hK_x0, h⟩ := h
      rcases h with h | h
      · refine x_ki (x_runV (As := [.int (1 : Int32)]) (rest := []) C hml hR hS (m_X6_sumOfFields l gg x0 (1 : Int32) S h) b_X6_sumOfFields q_34_9 (by rw [hK_x0]; decide) (s_E_7 hK_x0) rfl rfl rfl rfl ⟨Nat.le_of_ble_eq_true rfl, Nat.le_of_ble_eq_true rfl⟩ rfl hl.1 (Nat.le_of_ble_eq_true rfl) dX6_water_57 ⟨Nat.le_of_ble_eq_true rfl, Nat.le_of_ble_eq_true rfl⟩) hS (fun x104 S103 H locs hn hR hS => ?_)
        replace h := hn
        clear hn
        exact h.elim
      · exact x_ze (x_runVT (As := [.int (1 : Int32)]) (rest := []) C hml hR hS (mT_X6_sumOfFields l gg x0 (1 : Int32) S hst h) b_X6_sumOfFields q_34_9 (by rw [hK_x0]; decide) (s_E_7 hK_x0) rfl rfl rfl rfl ⟨Nat.le_of_ble_eq_true rfl, Nat.le_of_ble_eq_true rfl⟩ rfl hl.1 (Nat.le_of_ble_eq_true rfl) dX6_water_57 ⟨Nat.le_of_ble_eq_true rfl, Nat.le_of_ble_eq_true rfl⟩) hS (fun E9 ce q9 S1 H1 locs1 hq hR1 hS1 hce hcv hcl => x_zout ht hlocks hq hR1 hS1 hce hcv hcl (Nat.le_of_ble_eq_true rfl) (Nat.le_of_ble_eq_true rfl))
    · by_cases hc105 : x1 = 2
      · have h := h.2.2.1 hc105
        refine lv_tableIn (off := 60) (tgt := 61) hx hb dX6_water_1 (by rw [hc105]; decide) (by rw [hc105]; decide) (by rw [hc105]; rfl) (by decide) ?_
        exact h.elim
      · by_cases hc106 : x1 = 3
        · have h := h.2.2.2.1 hc106
          refine lv_tableIn (off := 68) (tgt := 69) hx hb dX6_water_1 (by rw [hc106]; decide) (by rw [hc106]; decide) (by rw [hc106]; rfl) (by decide) ?_
          refine lv_aload_n hx hb dX6_water_69 rfl (lv_at hl 0 rfl) ?_
          refine lv_iconst (v := 3) hx hb dX6_water_70 (by decide) ?_
          obtain ⟨hK_x0, h⟩ := h
          rcases h with h | h
          · refine x_ki (x_runV (As := [.int (3 : Int32)]) (rest := []) C hml hR hS (m_X6_sumOfSocieties l gg x0 (3 : Int32) S h) b_X6_sumOfSocieties q_34_14 (by rw [hK_x0]; decide) (s_E_7 hK_x0) rfl rfl rfl rfl ⟨Nat.le_of_ble_eq_true rfl, Nat.le_of_ble_eq_true rfl⟩ rfl hl.1 (Nat.le_of_ble_eq_true rfl) dX6_water_71 ⟨Nat.le_of_ble_eq_true rfl, Nat.le_of_ble_eq_true rfl⟩) hS (fun x108 S107 H locs hn hR hS => ?_)
            replace h := hn
            clear hn
            exact h.elim
          · exact x_ze (x_runVT (As := [.int (3 : Int32)]) (rest := []) C hml hR hS (mT_X6_sumOfSocieties l gg x0 (3 : Int32) S hst h) b_X6_sumOfSocieties q_34_14 (by rw [hK_x0]; decide) (s_E_7 hK_x0) rfl rfl rfl rfl ⟨Nat.le_of_ble_eq_true rfl, Nat.le_of_ble_eq_true rfl⟩ rfl hl.1 (Nat.le_of_ble_eq_true rfl) dX6_water_71 ⟨Nat.le_of_ble_eq_true rfl, Nat.le_of_ble_eq_true rfl⟩) hS (fun E9 ce q9 S1 H1 locs1 hq hR1 hS1 hce hcv hcl => x_zout ht hlocks hq hR1 hS1 hce hcv hcl (Nat.le_of_ble_eq_true rfl) (Nat.le_of_ble_eq_true rfl))
        · by_cases hc109 : x1 = 4
          · have h := h.2.2.2.2.1 hc109
            refine lv_tableIn (off := 74) (tgt := 75) hx hb dX6_water_1 (by rw [hc109]; decide) (by rw [hc109]; decide) (by rw [hc109]; rfl) (by decide) ?_
            exact h.elim
          · by_cases hc110 : x1 = 5
            · have h := h.2.2.2.2.2.1 hc110
              refine lv_tableIn (off := 85) (tgt := 86) hx hb dX6_water_1 (by rw [hc110]; decide) (by rw [hc110]; decide) (by rw [hc110]; rfl) (by decide) ?_
              exact h.elim
            · by_cases hc111 : x1 = 6
              · have h := h.2.2.2.2.2.2.1 hc111
                refine lv_tableIn (off := 96) (tgt := 97) hx hb dX6_water_1 (by rw [hc111]; decide) (by rw [hc111]; decide) (by rw [hc111]; rfl) (by decide) ?_
                exact h.elim
              · have h := h.2.2.2.2.2.2.2 ⟨hc101, hc102, hc105, hc106, hc109, hc110, hc111⟩
                refine lv_tableOut (tgt := 108) hx hb dX6_water_1 (x_tout 0 6 (fun q1 q2 => ?_)) (by decide) ?_
                · rcases (show x1.toInt = 0 ∨ x1.toInt = 1 ∨ x1.toInt = 2 ∨ x1.toInt = 3 ∨ x1.toInt = 4 ∨ x1.toInt = 5 ∨ x1.toInt = 6 by omega) with z | z | z | z | z | z | z
                  · exact hc101 (x_ti z (by decide))
                  · exact hc102 (x_ti z (by decide))
                  · exact hc105 (x_ti z (by decide))
                  · exact hc106 (x_ti z (by decide))
                  · exact hc109 (x_ti z (by decide))
                  · exact hc110 (x_ti z (by decide))
                  · exact hc111 (x_ti z (by decide))
                exact x_thrW hst C hR hS hl hml ht hlocks (by decide) xe_w0 xe_b0 (xe_h0 _) xe_c0 q_4_6 q_4_7 xe_s287 dX6_water_108 dX6_water_111 dX6_water_112 dX6_water_115 dX6_water_118 (Nat.le_of_ble_eq_true rfl) (Nat.le_of_ble_eq_true rfl) (Nat.le_of_ble_eq_true rfl) (Nat.le_of_ble_eq_true rfl) (Nat.le_of_ble_eq_true rfl) (Nat.le_of_ble_eq_true rfl) h
theorem mT_X6_water (l : Launch) (gg : sG) (x0 : Nat) (x1 : Int32) (S : sT) (hst : l.stackTraces = false) {QX : String → sT → Prop} (h : wT_X6_water x0 x1 S QX) : x_T l gg yX6_water (x_ws yX6_water cX6_water 2 (some .int)) rT_X6_water [.ref x0, .int x1] S QX 1 6 := by
  refine x_ofWT (cc := cX6_water) (own := RX6) (by decide +kernel) rfl (Nat.le_of_ble_eq_true rfl) ?_
  intro p e s m args below meth c C hml hr hlocks hin ht H locs ls hR hS hl
  exact tT_X6_water_b0 C hml hr hlocks hst ht h H locs ls hR hS (lv_sub (l' := [(0, .ref x0), (1, .int x1)]) hl [0, 1] rfl)
def wT_X6_thought_b24 (y0 : Int32) (S : sT)  (QX : String → sT → Prop) : Prop :=
False
def wT_X6_thought_b0 (x0 : Nat) (x1 : Int32) (x2 : Int32) (S : sT)  (QX : String → sT → Prop) : Prop :=
s_K S x0 = 8 ∧
    ((w_X6_fieldAt x0 x1 S (fun a102 S101 =>
    False)) ∨ wT_X6_fieldAt x0 x1 S QX)
def wT_X6_thought (x0 : Nat) (x1 : Int32) (x2 : Int32) (S : sT) (QX : String → sT → Prop) : Prop := wT_X6_thought_b0 x0 x1 x2 S QX
def rT_X6_thought : Room := x_rm 7 113 1 6
set_option maxHeartbeats 4000000 in
theorem tT_X6_thought_b24 {QX : String → sT → Prop} (C : x_C p s m args c cX6_thought RX6 gg) (hml : c.maxLocals = 4) (hr : meth.sig.returnType = (some .int)) (hlocks : meth.locks = false) (hst : l.stackTraces = false) (ht : ∀ x ∈ c.exceptionTable.toList, False) {y0 : Int32}  {S : sT}  (h : wT_X6_thought_b24 y0 S  QX) : x_X p l e rT_X6_thought s m args below meth c gg 4 0 0 (vx_MQ below (fun _ _ _ _ => False) (x_XC gg QX) args s 1 6 (s_A gg)) 24 [] [.int y0] S := by
  unfold wT_X6_thought_b24 at h
  obtain ⟨hx, hb, -⟩ := id C
  intro H locs ls hR hS hl
  exact h.elim
set_option maxHeartbeats 4000000 in
theorem tT_X6_thought_b0 {QX : String → sT → Prop} (C : x_C p s m args c cX6_thought RX6 gg) (hml : c.maxLocals = 4) (hr : meth.sig.returnType = (some .int)) (hlocks : meth.locks = false) (hst : l.stackTraces = false) (ht : ∀ x ∈ c.exceptionTable.toList, False) {x0 : Nat} {x1 : Int32} {x2 : Int32}  {S : sT}  (h : wT_X6_thought_b0 x0 x1 x2 S  QX) : x_X p l e rT_X6_thought s m args below meth c gg 4 0 0 (vx_MQ below (fun _ _ _ _ => False) (x_XC gg QX) args s 1 6 (s_A gg)) 0 [(0, .ref x0), (1, .int x1), (2, .int x2)] [] S := by
  unfold wT_X6_thought_b0 at h
  obtain ⟨hx, hb, -⟩ := id C
  intro H locs ls hR hS hl
  refine lv_aload_n hx hb dX6_thought_0 rfl (lv_at hl 0 rfl) ?_
  refine lv_iload_n hx hb dX6_thought_1 rfl (lv_at hl 1 rfl) ?_
  obtain ⟨hK_x0, h⟩ := h
  rcases h with h | h
  · refine x_kq (x_runV (As := [.int x1]) (rest := []) C hml hR hS (m_X6_fieldAt l gg x0 x1 S h) b_X6_fieldAt q_12_22 (by rw [hK_x0]; decide) (s_E_7 hK_x0) rfl rfl rfl rfl ⟨Nat.le_of_ble_eq_true rfl, Nat.le_of_ble_eq_true rfl⟩ rfl hl.1 (Nat.le_of_ble_eq_true rfl) dX6_thought_2 ⟨Nat.le_of_ble_eq_true rfl, Nat.le_of_ble_eq_true rfl⟩) hS (fun ra102 S101 H locs hn hR hS => ?_)
    replace h := hn
    clear hn
    obtain ⟨a102, za102, h⟩ := h
    refine x_some za102 ?_
    exact h.elim
  · exact x_ze (x_runVT (As := [.int x1]) (rest := []) C hml hR hS (mT_X6_fieldAt l gg x0 x1 S hst h) b_X6_fieldAt q_12_22 (by rw [hK_x0]; decide) (s_E_7 hK_x0) rfl rfl rfl rfl ⟨Nat.le_of_ble_eq_true rfl, Nat.le_of_ble_eq_true rfl⟩ rfl hl.1 (Nat.le_of_ble_eq_true rfl) dX6_thought_2 ⟨Nat.le_of_ble_eq_true rfl, Nat.le_of_ble_eq_true rfl⟩) hS (fun E9 ce q9 S1 H1 locs1 hq hR1 hS1 hce hcv hcl => x_zout ht hlocks hq hR1 hS1 hce hcv hcl (Nat.le_of_ble_eq_true rfl) (Nat.le_of_ble_eq_true rfl))
theorem mT_X6_thought (l : Launch) (gg : sG) (x0 : Nat) (x1 : Int32) (x2 : Int32) (S : sT) (hst : l.stackTraces = false) {QX : String → sT → Prop} (h : wT_X6_thought x0 x1 x2 S QX) : x_T l gg yX6_thought (x_ws yX6_thought cX6_thought 4 (some .int)) rT_X6_thought [.ref x0, .int x1, .int x2] S QX 1 6 := by
  refine x_ofWT (cc := cX6_thought) (own := RX6) (by decide +kernel) rfl (Nat.le_of_ble_eq_true rfl) ?_
  intro p e s m args below meth c C hml hr hlocks hin ht H locs ls hR hS hl
  exact tT_X6_thought_b0 C hml hr hlocks hst ht h H locs ls hR hS (lv_sub (l' := [(0, .ref x0), (1, .int x1), (2, .int x2)]) hl [0, 1, 2] rfl)
def wT_X6_sumOfOwners_b4  (QX : String → sT → Prop) : Nat → Nat → Int32 → Int32 → Int32 → sT → Prop
  | 0 => fun _ _ _ _ _ => False
  | n + 1 => fun x0 x1 x2 x3 S =>
False
def wT_X6_sumOfOwners_b0 (x0 : Nat) (x1 : Int32) (S : sT)  (QX : String → sT → Prop) : Prop :=
False
def wT_X6_sumOfOwners (x0 : Nat) (x1 : Int32) (S : sT) (QX : String → sT → Prop) : Prop := wT_X6_sumOfOwners_b0 x0 x1 S QX
def rT_X6_sumOfOwners : Room := x_rm 0 0 1 6
set_option maxHeartbeats 4000000 in
theorem tT_X6_sumOfOwners_b4 {QX : String → sT → Prop} (C : x_C p s m args c cX6_sumOfOwners RX6 gg) (hml : c.maxLocals = 4) (hr : meth.sig.returnType = (some .int)) (hlocks : meth.locks = false) (hst : l.stackTraces = false) (ht : ∀ x ∈ c.exceptionTable.toList, False)   : ∀ (n : Nat) (x0 : Nat) (x1 : Int32) (x2 : Int32) (x3 : Int32) (S : sT), wT_X6_sumOfOwners_b4  QX n x0 x1 x2 x3 S → x_X p l e rT_X6_sumOfOwners s m args below meth c gg 4 0 0 (vx_MQ below (fun _ _ _ _ => False) (x_XC gg QX) args s 1 6 (s_A gg)) 4 [(0, .ref x0), (1, .int x1), (2, .int x2), (3, .int x3)] [] S := by
  obtain ⟨hx, hb, -⟩ := id C
  intro n
  induction n with
  | zero => intro x0 x1 x2 x3 S h; exact absurd h id
  | succ n ih =>
    intro x0 x1 x2 x3 S h H locs ls hR hS hl
    unfold wT_X6_sumOfOwners_b4 at h
    exact h.elim
set_option maxHeartbeats 4000000 in
theorem tT_X6_sumOfOwners_b0 {QX : String → sT → Prop} (C : x_C p s m args c cX6_sumOfOwners RX6 gg) (hml : c.maxLocals = 4) (hr : meth.sig.returnType = (some .int)) (hlocks : meth.locks = false) (hst : l.stackTraces = false) (ht : ∀ x ∈ c.exceptionTable.toList, False) {x0 : Nat} {x1 : Int32}  {S : sT}  (h : wT_X6_sumOfOwners_b0 x0 x1 S  QX) : x_X p l e rT_X6_sumOfOwners s m args below meth c gg 4 0 0 (vx_MQ below (fun _ _ _ _ => False) (x_XC gg QX) args s 1 6 (s_A gg)) 0 [(0, .ref x0), (1, .int x1)] [] S := by
  unfold wT_X6_sumOfOwners_b0 at h
  obtain ⟨hx, hb, -⟩ := id C
  intro H locs ls hR hS hl
  exact h.elim
theorem mT_X6_sumOfOwners (l : Launch) (gg : sG) (x0 : Nat) (x1 : Int32) (S : sT) (hst : l.stackTraces = false) {QX : String → sT → Prop} (h : wT_X6_sumOfOwners x0 x1 S QX) : x_T l gg yX6_sumOfOwners (x_ws yX6_sumOfOwners cX6_sumOfOwners 4 (some .int)) rT_X6_sumOfOwners [.ref x0, .int x1] S QX 1 6 := by
  refine x_ofWT (cc := cX6_sumOfOwners) (own := RX6) (by decide +kernel) rfl (Nat.le_of_ble_eq_true rfl) ?_
  intro p e s m args below meth c C hml hr hlocks hin ht H locs ls hR hS hl
  exact tT_X6_sumOfOwners_b0 C hml hr hlocks hst ht h H locs ls hR hS (lv_sub (l' := [(0, .ref x0), (1, .int x1)]) hl [0, 1] rfl)
def wT_X6_many_b0 (x0 : Nat) (x1 : Int32) (S : sT)  (QX : String → sT → Prop) : Prop :=
((x1 = 0 → False) ∧
    (x1 = 1 → False) ∧
    (x1 = 2 → False) ∧
    (x1 = 3 → False) ∧
    (x1 = 4 → False) ∧
    (x1 = 5 → s_K S x0 = 8 ∧
    ((w_X6_sumOfFields x0 (8 : Int32) S (fun x108 S107 =>
    False)) ∨ wT_X6_sumOfFields x0 (8 : Int32) S QX)) ∧
    (x1 = 6 → s_K S x0 = 8 ∧
    ((w_X6_sumOfOwners x0 (0 : Int32) S (fun x111 S110 =>
    False)) ∨ wT_X6_sumOfOwners x0 (0 : Int32) S QX)) ∧
    (x1 = 7 → s_K S x0 = 8 ∧
    ((w_X6_sumOfSocieties x0 (2 : Int32) S (fun x114 S113 =>
    False)) ∨ wT_X6_sumOfSocieties x0 (2 : Int32) S QX)) ∧
    (x1 = 8 → s_K S x0 = 8 ∧
    ((w_X6_sumOfOwners x0 (3 : Int32) S (fun x117 S116 =>
    False)) ∨ wT_X6_sumOfOwners x0 (3 : Int32) S QX)) ∧
    (x1 = 9 → False) ∧
    (x1 = 10 → False) ∧
    (x1 = 11 → False) ∧
    ((¬ x1 = 0 ∧ ¬ x1 = 1 ∧ ¬ x1 = 2 ∧ ¬ x1 = 3 ∧ ¬ x1 = 4 ∧ ¬ x1 = 5 ∧ ¬ x1 = 6 ∧ ¬ x1 = 7 ∧ ¬ x1 = 8 ∧ ¬ x1 = 9 ∧ ¬ x1 = 10 ∧ ¬ x1 = 11) → QX "java/lang/IllegalArgumentException" S))
def wT_X6_many (x0 : Nat) (x1 : Int32) (S : sT) (QX : String → sT → Prop) : Prop := wT_X6_many_b0 x0 x1 S QX
def rT_X6_many : Room := x_rm 6 133 1 6
set_option maxHeartbeats 4000000 in
theorem tT_X6_many_b0 {QX : String → sT → Prop} (C : x_C p s m args c cX6_many RX6 gg) (hml : c.maxLocals = 2) (hr : meth.sig.returnType = (some .int)) (hlocks : meth.locks = false) (hst : l.stackTraces = false) (ht : ∀ x ∈ c.exceptionTable.toList, False) {x0 : Nat} {x1 : Int32}  {S : sT}  (h : wT_X6_many_b0 x0 x1 S  QX) : x_X p l e rT_X6_many s m args below meth c gg 2 0 0 (vx_MQ below (fun _ _ _ _ => False) (x_XC gg QX) args s 1 6 (s_A gg)) 0 [(0, .ref x0), (1, .int x1)] [] S := by
  unfold wT_X6_many_b0 at h
  obtain ⟨hx, hb, -⟩ := id C
  intro H locs ls hR hS hl
  refine lv_iload_n hx hb dX6_many_0 rfl (lv_at hl 1 rfl) ?_
  by_cases hc101 : x1 = 0
  · have h := h.1 hc101
    refine lv_tableIn (off := 63) (tgt := 64) hx hb dX6_many_1 (by rw [hc101]; decide) (by rw [hc101]; decide) (by rw [hc101]; rfl) (by decide) ?_
    exact h.elim
  · by_cases hc102 : x1 = 1
    · have h := h.2.1 hc102
      refine lv_tableIn (off := 74) (tgt := 75) hx hb dX6_many_1 (by rw [hc102]; decide) (by rw [hc102]; decide) (by rw [hc102]; rfl) (by decide) ?_
      exact h.elim
    · by_cases hc103 : x1 = 2
      · have h := h.2.2.1 hc103
        refine lv_tableIn (off := 85) (tgt := 86) hx hb dX6_many_1 (by rw [hc103]; decide) (by rw [hc103]; decide) (by rw [hc103]; rfl) (by decide) ?_
        exact h.elim
      · by_cases hc104 : x1 = 3
        · have h := h.2.2.2.1 hc104
          refine lv_tableIn (off := 93) (tgt := 94) hx hb dX6_many_1 (by rw [hc104]; decide) (by rw [hc104]; decide) (by rw [hc104]; rfl) (by decide) ?_
          exact h.elim
        · by_cases hc105 : x1 = 4
          · have h := h.2.2.2.2.1 hc105
            refine lv_tableIn (off := 101) (tgt := 102) hx hb dX6_many_1 (by rw [hc105]; decide) (by rw [hc105]; decide) (by rw [hc105]; rfl) (by decide) ?_
            exact h.elim
          · by_cases hc106 : x1 = 5
            · have h := h.2.2.2.2.2.1 hc106
              refine lv_tableIn (off := 112) (tgt := 113) hx hb dX6_many_1 (by rw [hc106]; decide) (by rw [hc106]; decide) (by rw [hc106]; rfl) (by decide) ?_
              refine lv_aload_n hx hb dX6_many_113 rfl (lv_at hl 0 rfl) ?_
              refine lv_bipush (v := 8) hx hb dX6_many_114 (by decide) ?_
              obtain ⟨hK_x0, h⟩ := h
              rcases h with h | h
              · refine x_ki (x_runV (As := [.int (8 : Int32)]) (rest := []) C hml hR hS (m_X6_sumOfFields l gg x0 (8 : Int32) S h) b_X6_sumOfFields q_34_9 (by rw [hK_x0]; decide) (s_E_7 hK_x0) rfl rfl rfl rfl ⟨Nat.le_of_ble_eq_true rfl, Nat.le_of_ble_eq_true rfl⟩ rfl hl.1 (Nat.le_of_ble_eq_true rfl) dX6_many_116 ⟨Nat.le_of_ble_eq_true rfl, Nat.le_of_ble_eq_true rfl⟩) hS (fun x108 S107 H locs hn hR hS => ?_)
                replace h := hn
                clear hn
                exact h.elim
              · exact x_ze (x_runVT (As := [.int (8 : Int32)]) (rest := []) C hml hR hS (mT_X6_sumOfFields l gg x0 (8 : Int32) S hst h) b_X6_sumOfFields q_34_9 (by rw [hK_x0]; decide) (s_E_7 hK_x0) rfl rfl rfl rfl ⟨Nat.le_of_ble_eq_true rfl, Nat.le_of_ble_eq_true rfl⟩ rfl hl.1 (Nat.le_of_ble_eq_true rfl) dX6_many_116 ⟨Nat.le_of_ble_eq_true rfl, Nat.le_of_ble_eq_true rfl⟩) hS (fun E9 ce q9 S1 H1 locs1 hq hR1 hS1 hce hcv hcl => x_zout ht hlocks hq hR1 hS1 hce hcv hcl (Nat.le_of_ble_eq_true rfl) (Nat.le_of_ble_eq_true rfl))
            · by_cases hc109 : x1 = 6
              · have h := h.2.2.2.2.2.2.1 hc109
                refine lv_tableIn (off := 119) (tgt := 120) hx hb dX6_many_1 (by rw [hc109]; decide) (by rw [hc109]; decide) (by rw [hc109]; rfl) (by decide) ?_
                refine lv_aload_n hx hb dX6_many_120 rfl (lv_at hl 0 rfl) ?_
                refine lv_iconst (v := 0) hx hb dX6_many_121 (by decide) ?_
                obtain ⟨hK_x0, h⟩ := h
                rcases h with h | h
                · refine x_ki (x_runV (As := [.int (0 : Int32)]) (rest := []) C hml hR hS (m_X6_sumOfOwners l gg x0 (0 : Int32) S h) b_X6_sumOfOwners q_36_18 (by rw [hK_x0]; decide) (s_E_7 hK_x0) rfl rfl rfl rfl ⟨Nat.le_of_ble_eq_true rfl, Nat.le_of_ble_eq_true rfl⟩ rfl hl.1 (Nat.le_of_ble_eq_true rfl) dX6_many_122 ⟨Nat.le_of_ble_eq_true rfl, Nat.le_of_ble_eq_true rfl⟩) hS (fun x111 S110 H locs hn hR hS => ?_)
                  replace h := hn
                  clear hn
                  exact h.elim
                · exact x_ze (x_runVT (As := [.int (0 : Int32)]) (rest := []) C hml hR hS (mT_X6_sumOfOwners l gg x0 (0 : Int32) S hst h) b_X6_sumOfOwners q_36_18 (by rw [hK_x0]; decide) (s_E_7 hK_x0) rfl rfl rfl rfl ⟨Nat.le_of_ble_eq_true rfl, Nat.le_of_ble_eq_true rfl⟩ rfl hl.1 (Nat.le_of_ble_eq_true rfl) dX6_many_122 ⟨Nat.le_of_ble_eq_true rfl, Nat.le_of_ble_eq_true rfl⟩) hS (fun E9 ce q9 S1 H1 locs1 hq hR1 hS1 hce hcv hcl => x_zout ht hlocks hq hR1 hS1 hce hcv hcl (Nat.le_of_ble_eq_true rfl) (Nat.le_of_ble_eq_true rfl))
              · by_cases hc112 : x1 = 7
                · have h := h.2.2.2.2.2.2.2.1 hc112
                  refine lv_tableIn (off := 125) (tgt := 126) hx hb dX6_many_1 (by rw [hc112]; decide) (by rw [hc112]; decide) (by rw [hc112]; rfl) (by decide) ?_
                  refine lv_aload_n hx hb dX6_many_126 rfl (lv_at hl 0 rfl) ?_
                  refine lv_iconst (v := 2) hx hb dX6_many_127 (by decide) ?_
                  obtain ⟨hK_x0, h⟩ := h
                  rcases h with h | h
                  · refine x_ki (x_runV (As := [.int (2 : Int32)]) (rest := []) C hml hR hS (m_X6_sumOfSocieties l gg x0 (2 : Int32) S h) b_X6_sumOfSocieties q_34_14 (by rw [hK_x0]; decide) (s_E_7 hK_x0) rfl rfl rfl rfl ⟨Nat.le_of_ble_eq_true rfl, Nat.le_of_ble_eq_true rfl⟩ rfl hl.1 (Nat.le_of_ble_eq_true rfl) dX6_many_128 ⟨Nat.le_of_ble_eq_true rfl, Nat.le_of_ble_eq_true rfl⟩) hS (fun x114 S113 H locs hn hR hS => ?_)
                    replace h := hn
                    clear hn
                    exact h.elim
                  · exact x_ze (x_runVT (As := [.int (2 : Int32)]) (rest := []) C hml hR hS (mT_X6_sumOfSocieties l gg x0 (2 : Int32) S hst h) b_X6_sumOfSocieties q_34_14 (by rw [hK_x0]; decide) (s_E_7 hK_x0) rfl rfl rfl rfl ⟨Nat.le_of_ble_eq_true rfl, Nat.le_of_ble_eq_true rfl⟩ rfl hl.1 (Nat.le_of_ble_eq_true rfl) dX6_many_128 ⟨Nat.le_of_ble_eq_true rfl, Nat.le_of_ble_eq_true rfl⟩) hS (fun E9 ce q9 S1 H1 locs1 hq hR1 hS1 hce hcv hcl => x_zout ht hlocks hq hR1 hS1 hce hcv hcl (Nat.le_of_ble_eq_true rfl) (Nat.le_of_ble_eq_true rfl))
                · by_cases hc115 : x1 = 8
                  · have h := h.2.2.2.2.2.2.2.2.1 hc115
                    refine lv_tableIn (off := 131) (tgt := 132) hx hb dX6_many_1 (by rw [hc115]; decide) (by rw [hc115]; decide) (by rw [hc115]; rfl) (by decide) ?_
                    refine lv_aload_n hx hb dX6_many_132 rfl (lv_at hl 0 rfl) ?_
                    refine lv_iconst (v := 3) hx hb dX6_many_133 (by decide) ?_
                    obtain ⟨hK_x0, h⟩ := h
                    rcases h with h | h
                    · refine x_ki (x_runV (As := [.int (3 : Int32)]) (rest := []) C hml hR hS (m_X6_sumOfOwners l gg x0 (3 : Int32) S h) b_X6_sumOfOwners q_36_18 (by rw [hK_x0]; decide) (s_E_7 hK_x0) rfl rfl rfl rfl ⟨Nat.le_of_ble_eq_true rfl, Nat.le_of_ble_eq_true rfl⟩ rfl hl.1 (Nat.le_of_ble_eq_true rfl) dX6_many_134 ⟨Nat.le_of_ble_eq_true rfl, Nat.le_of_ble_eq_true rfl⟩) hS (fun x117 S116 H locs hn hR hS => ?_)
                      replace h := hn
                      clear hn
                      exact h.elim
                    · exact x_ze (x_runVT (As := [.int (3 : Int32)]) (rest := []) C hml hR hS (mT_X6_sumOfOwners l gg x0 (3 : Int32) S hst h) b_X6_sumOfOwners q_36_18 (by rw [hK_x0]; decide) (s_E_7 hK_x0) rfl rfl rfl rfl ⟨Nat.le_of_ble_eq_true rfl, Nat.le_of_ble_eq_true rfl⟩ rfl hl.1 (Nat.le_of_ble_eq_true rfl) dX6_many_134 ⟨Nat.le_of_ble_eq_true rfl, Nat.le_of_ble_eq_true rfl⟩) hS (fun E9 ce q9 S1 H1 locs1 hq hR1 hS1 hce hcv hcl => x_zout ht hlocks hq hR1 hS1 hce hcv hcl (Nat.le_of_ble_eq_true rfl) (Nat.le_of_ble_eq_true rfl))
                  · by_cases hc118 : x1 = 9
                    · have h := h.2.2.2.2.2.2.2.2.2.1 hc118
                      refine lv_tableIn (off := 137) (tgt := 138) hx hb dX6_many_1 (by rw [hc118]; decide) (by rw [hc118]; decide) (by rw [hc118]; rfl) (by decide) ?_
                      exact h.elim
                    · by_cases hc119 : x1 = 10
                      · have h := h.2.2.2.2.2.2.2.2.2.2.1 hc119
                        refine lv_tableIn (off := 145) (tgt := 146) hx hb dX6_many_1 (by rw [hc119]; decide) (by rw [hc119]; decide) (by rw [hc119]; rfl) (by decide) ?_
                        exact h.elim
                      · by_cases hc120 : x1 = 11
                        · have h := h.2.2.2.2.2.2.2.2.2.2.2.1 hc120
                          refine lv_tableIn (off := 153) (tgt := 154) hx hb dX6_many_1 (by rw [hc120]; decide) (by rw [hc120]; decide) (by rw [hc120]; rfl) (by decide) ?_
                          exact h.elim
                        · have h := h.2.2.2.2.2.2.2.2.2.2.2.2 ⟨hc101, hc102, hc103, hc104, hc105, hc106, hc109, hc112, hc115, hc118, hc119, hc120⟩
                          refine lv_tableOut (tgt := 159) hx hb dX6_many_1 (x_tout 0 11 (fun q1 q2 => ?_)) (by decide) ?_
                          · rcases (show x1.toInt = 0 ∨ x1.toInt = 1 ∨ x1.toInt = 2 ∨ x1.toInt = 3 ∨ x1.toInt = 4 ∨ x1.toInt = 5 ∨ x1.toInt = 6 ∨ x1.toInt = 7 ∨ x1.toInt = 8 ∨ x1.toInt = 9 ∨ x1.toInt = 10 ∨ x1.toInt = 11 by omega) with z | z | z | z | z | z | z | z | z | z | z | z
                            · exact hc101 (x_ti z (by decide))
                            · exact hc102 (x_ti z (by decide))
                            · exact hc103 (x_ti z (by decide))
                            · exact hc104 (x_ti z (by decide))
                            · exact hc105 (x_ti z (by decide))
                            · exact hc106 (x_ti z (by decide))
                            · exact hc109 (x_ti z (by decide))
                            · exact hc112 (x_ti z (by decide))
                            · exact hc115 (x_ti z (by decide))
                            · exact hc118 (x_ti z (by decide))
                            · exact hc119 (x_ti z (by decide))
                            · exact hc120 (x_ti z (by decide))
                          exact x_thrW hst C hR hS hl hml ht hlocks (by decide) xe_w0 xe_b0 (xe_h0 _) xe_c0 q_4_6 q_4_7 xe_s304 dX6_many_159 dX6_many_162 dX6_many_163 dX6_many_166 dX6_many_169 (Nat.le_of_ble_eq_true rfl) (Nat.le_of_ble_eq_true rfl) (Nat.le_of_ble_eq_true rfl) (Nat.le_of_ble_eq_true rfl) (Nat.le_of_ble_eq_true rfl) (Nat.le_of_ble_eq_true rfl) h
theorem mT_X6_many (l : Launch) (gg : sG) (x0 : Nat) (x1 : Int32) (S : sT) (hst : l.stackTraces = false) {QX : String → sT → Prop} (h : wT_X6_many x0 x1 S QX) : x_T l gg yX6_many (x_ws yX6_many cX6_many 2 (some .int)) rT_X6_many [.ref x0, .int x1] S QX 1 6 := by
  refine x_ofWT (cc := cX6_many) (own := RX6) (by decide +kernel) rfl (Nat.le_of_ble_eq_true rfl) ?_
  intro p e s m args below meth c C hml hr hlocks hin ht H locs ls hR hS hl
  exact tT_X6_many_b0 C hml hr hlocks hst ht h H locs ls hR hS (lv_sub (l' := [(0, .ref x0), (1, .int x1)]) hl [0, 1] rfl)
def wT_X6_meanDepth_b0 (x0 : Nat) (x1 : Int32) (S : sT)  (QX : String → sT → Prop) : Prop :=
s_K S x0 = 8 ∧
    ((w_X6_societyAt x0 x1 S (fun a102 S101 =>
    False)) ∨ wT_X6_societyAt x0 x1 S QX)
def wT_X6_meanDepth (x0 : Nat) (x1 : Int32) (S : sT) (QX : String → sT → Prop) : Prop := wT_X6_meanDepth_b0 x0 x1 S QX
def rT_X6_meanDepth : Room := x_rm 7 113 1 6
set_option maxHeartbeats 4000000 in
theorem tT_X6_meanDepth_b0 {QX : String → sT → Prop} (C : x_C p s m args c cX6_meanDepth RX6 gg) (hml : c.maxLocals = 2) (hr : meth.sig.returnType = (some .double)) (hlocks : meth.locks = false) (hst : l.stackTraces = false) (ht : ∀ x ∈ c.exceptionTable.toList, False) {x0 : Nat} {x1 : Int32}  {S : sT}  (h : wT_X6_meanDepth_b0 x0 x1 S  QX) : x_X p l e rT_X6_meanDepth s m args below meth c gg 2 0 0 (vx_MQ below (fun _ _ _ _ => False) (x_XC gg QX) args s 1 6 (s_A gg)) 0 [(0, .ref x0), (1, .int x1)] [] S := by
  unfold wT_X6_meanDepth_b0 at h
  obtain ⟨hx, hb, -⟩ := id C
  intro H locs ls hR hS hl
  refine lv_aload_n hx hb dX6_meanDepth_0 rfl (lv_at hl 0 rfl) ?_
  refine lv_iload_n hx hb dX6_meanDepth_1 rfl (lv_at hl 1 rfl) ?_
  obtain ⟨hK_x0, h⟩ := h
  rcases h with h | h
  · refine x_kq (x_runV (As := [.int x1]) (rest := []) C hml hR hS (m_X6_societyAt l gg x0 x1 S h) b_X6_societyAt q_9_5 (by rw [hK_x0]; decide) (s_E_7 hK_x0) rfl rfl rfl rfl ⟨Nat.le_of_ble_eq_true rfl, Nat.le_of_ble_eq_true rfl⟩ rfl hl.1 (Nat.le_of_ble_eq_true rfl) dX6_meanDepth_2 ⟨Nat.le_of_ble_eq_true rfl, Nat.le_of_ble_eq_true rfl⟩) hS (fun ra102 S101 H locs hn hR hS => ?_)
    replace h := hn
    clear hn
    obtain ⟨a102, za102, h⟩ := h
    refine x_some za102 ?_
    exact h.elim
  · exact x_ze (x_runVT (As := [.int x1]) (rest := []) C hml hR hS (mT_X6_societyAt l gg x0 x1 S hst h) b_X6_societyAt q_9_5 (by rw [hK_x0]; decide) (s_E_7 hK_x0) rfl rfl rfl rfl ⟨Nat.le_of_ble_eq_true rfl, Nat.le_of_ble_eq_true rfl⟩ rfl hl.1 (Nat.le_of_ble_eq_true rfl) dX6_meanDepth_2 ⟨Nat.le_of_ble_eq_true rfl, Nat.le_of_ble_eq_true rfl⟩) hS (fun E9 ce q9 S1 H1 locs1 hq hR1 hS1 hce hcv hcl => x_zout ht hlocks hq hR1 hS1 hce hcv hcl (Nat.le_of_ble_eq_true rfl) (Nat.le_of_ble_eq_true rfl))
theorem mT_X6_meanDepth (l : Launch) (gg : sG) (x0 : Nat) (x1 : Int32) (S : sT) (hst : l.stackTraces = false) {QX : String → sT → Prop} (h : wT_X6_meanDepth x0 x1 S QX) : x_T l gg yX6_meanDepth (x_ws yX6_meanDepth cX6_meanDepth 2 (some .double)) rT_X6_meanDepth [.ref x0, .int x1] S QX 1 6 := by
  refine x_ofWT (cc := cX6_meanDepth) (own := RX6) (by decide +kernel) rfl (Nat.le_of_ble_eq_true rfl) ?_
  intro p e s m args below meth c C hml hr hlocks hin ht H locs ls hR hS hl
  exact tT_X6_meanDepth_b0 C hml hr hlocks hst ht h H locs ls hR hS (lv_sub (l' := [(0, .ref x0), (1, .int x1)]) hl [0, 1] rfl)
def wT_X6_suspect_b0 (x0 : Nat) (x1 : Int32) (S : sT)  (QX : String → sT → Prop) : Prop :=
s_K S x0 = 8 ∧
    ((w_X6_societyAt x0 x1 S (fun a102 S101 =>
    False)) ∨ wT_X6_societyAt x0 x1 S QX)
def wT_X6_suspect (x0 : Nat) (x1 : Int32) (S : sT) (QX : String → sT → Prop) : Prop := wT_X6_suspect_b0 x0 x1 S QX
def rT_X6_suspect : Room := x_rm 7 113 1 6
set_option maxHeartbeats 4000000 in
theorem tT_X6_suspect_b0 {QX : String → sT → Prop} (C : x_C p s m args c cX6_suspect RX6 gg) (hml : c.maxLocals = 2) (hr : meth.sig.returnType = (some .int)) (hlocks : meth.locks = false) (hst : l.stackTraces = false) (ht : ∀ x ∈ c.exceptionTable.toList, False) {x0 : Nat} {x1 : Int32}  {S : sT}  (h : wT_X6_suspect_b0 x0 x1 S  QX) : x_X p l e rT_X6_suspect s m args below meth c gg 2 0 0 (vx_MQ below (fun _ _ _ _ => False) (x_XC gg QX) args s 1 6 (s_A gg)) 0 [(0, .ref x0), (1, .int x1)] [] S := by
  unfold wT_X6_suspect_b0 at h
  obtain ⟨hx, hb, -⟩ := id C
  intro H locs ls hR hS hl
  refine lv_aload_n hx hb dX6_suspect_0 rfl (lv_at hl 0 rfl) ?_
  refine lv_iload_n hx hb dX6_suspect_1 rfl (lv_at hl 1 rfl) ?_
  obtain ⟨hK_x0, h⟩ := h
  rcases h with h | h
  · refine x_kq (x_runV (As := [.int x1]) (rest := []) C hml hR hS (m_X6_societyAt l gg x0 x1 S h) b_X6_societyAt q_9_5 (by rw [hK_x0]; decide) (s_E_7 hK_x0) rfl rfl rfl rfl ⟨Nat.le_of_ble_eq_true rfl, Nat.le_of_ble_eq_true rfl⟩ rfl hl.1 (Nat.le_of_ble_eq_true rfl) dX6_suspect_2 ⟨Nat.le_of_ble_eq_true rfl, Nat.le_of_ble_eq_true rfl⟩) hS (fun ra102 S101 H locs hn hR hS => ?_)
    replace h := hn
    clear hn
    obtain ⟨a102, za102, h⟩ := h
    refine x_some za102 ?_
    exact h.elim
  · exact x_ze (x_runVT (As := [.int x1]) (rest := []) C hml hR hS (mT_X6_societyAt l gg x0 x1 S hst h) b_X6_societyAt q_9_5 (by rw [hK_x0]; decide) (s_E_7 hK_x0) rfl rfl rfl rfl ⟨Nat.le_of_ble_eq_true rfl, Nat.le_of_ble_eq_true rfl⟩ rfl hl.1 (Nat.le_of_ble_eq_true rfl) dX6_suspect_2 ⟨Nat.le_of_ble_eq_true rfl, Nat.le_of_ble_eq_true rfl⟩) hS (fun E9 ce q9 S1 H1 locs1 hq hR1 hS1 hce hcv hcl => x_zout ht hlocks hq hR1 hS1 hce hcv hcl (Nat.le_of_ble_eq_true rfl) (Nat.le_of_ble_eq_true rfl))
theorem mT_X6_suspect (l : Launch) (gg : sG) (x0 : Nat) (x1 : Int32) (S : sT) (hst : l.stackTraces = false) {QX : String → sT → Prop} (h : wT_X6_suspect x0 x1 S QX) : x_T l gg yX6_suspect (x_ws yX6_suspect cX6_suspect 2 (some .int)) rT_X6_suspect [.ref x0, .int x1] S QX 1 6 := by
  refine x_ofWT (cc := cX6_suspect) (own := RX6) (by decide +kernel) rfl (Nat.le_of_ble_eq_true rfl) ?_
  intro p e s m args below meth c C hml hr hlocks hin ht H locs ls hR hS hl
  exact tT_X6_suspect_b0 C hml hr hlocks hst ht h H locs ls hR hS (lv_sub (l' := [(0, .ref x0), (1, .int x1)]) hl [0, 1] rfl)
def wT_X6_checkDays_b0 (x0 : Int32) (x1 : Int32) (S : sT)  (QX : String → sT → Prop) : Prop :=
w_X6_isWithin x0 (1 : Int32) x1 S (fun x102 S101 =>
    ((¬ x102 = 0 → False) ∧
    (x102 = 0 → QX "java/lang/IllegalArgumentException" S101)))
def wT_X6_checkDays (x0 : Int32) (x1 : Int32) (S : sT) (QX : String → sT → Prop) : Prop := wT_X6_checkDays_b0 x0 x1 S QX
def rT_X6_checkDays : Room := x_rm 6 92 1 6
set_option maxHeartbeats 4000000 in
theorem tT_X6_checkDays_b0 {QX : String → sT → Prop} (C : x_C p s m args c cX6_checkDays RX6 gg) (hml : c.maxLocals = 2) (hr : meth.sig.returnType = none) (hlocks : meth.locks = false) (hst : l.stackTraces = false) (ht : ∀ x ∈ c.exceptionTable.toList, False) {x0 : Int32} {x1 : Int32}  {S : sT}  (h : wT_X6_checkDays_b0 x0 x1 S  QX) : x_X p l e rT_X6_checkDays s m args below meth c gg 2 0 0 (vx_MQ below (fun _ _ _ _ => False) (x_XC gg QX) args s 1 6 (s_A gg)) 0 [(0, .int x0), (1, .int x1)] [] S := by
  unfold wT_X6_checkDays_b0 at h
  obtain ⟨hx, hb, -⟩ := id C
  intro H locs ls hR hS hl
  refine lv_iload_n hx hb dX6_checkDays_0 rfl (lv_at hl 0 rfl) ?_
  refine lv_iconst (v := 1) hx hb dX6_checkDays_1 (by decide) ?_
  refine lv_iload_n hx hb dX6_checkDays_2 rfl (lv_at hl 1 rfl) ?_
  refine x_ki (x_runS (As := [.int x0, .int (1 : Int32), .int x1]) (rest := []) C hml hR hS (m_X6_isWithin l gg x0 (1 : Int32) x1 S h) b_X6_isWithin q_4_11 rfl rfl ⟨Nat.le_of_ble_eq_true rfl, Nat.le_of_ble_eq_true rfl⟩ rfl hl.1 (Nat.le_of_ble_eq_true rfl) dX6_checkDays_3 ⟨Nat.le_of_ble_eq_true rfl, Nat.le_of_ble_eq_true rfl⟩) hS (fun x102 S101 H locs hn hR hS => ?_)
  replace h := hn
  clear hn
  refine lv_if_ne (tgt := 20) hx hb dX6_checkDays_6 (by decide) (fun hc103 => ?_) (fun hc103 => ?_)
  · replace h := h.1 hc103
    exact h.elim
  · replace h := h.2 hc103
    exact x_thrW hst C hR hS hl hml ht hlocks (by decide) xe_w0 xe_b0 (xe_h0 _) xe_c0 q_4_6 q_4_7 xe_s383 dX6_checkDays_9 dX6_checkDays_12 dX6_checkDays_13 dX6_checkDays_16 dX6_checkDays_19 (Nat.le_of_ble_eq_true rfl) (Nat.le_of_ble_eq_true rfl) (Nat.le_of_ble_eq_true rfl) (Nat.le_of_ble_eq_true rfl) (Nat.le_of_ble_eq_true rfl) (Nat.le_of_ble_eq_true rfl) h
theorem mT_X6_checkDays (l : Launch) (gg : sG) (x0 : Int32) (x1 : Int32) (S : sT) (hst : l.stackTraces = false) {QX : String → sT → Prop} (h : wT_X6_checkDays x0 x1 S QX) : x_T l gg yX6_checkDays (x_ws yX6_checkDays cX6_checkDays 2 none) rT_X6_checkDays [.int x0, .int x1] S QX 1 6 := by
  refine x_ofWT (cc := cX6_checkDays) (own := RX6) (by decide +kernel) rfl (Nat.le_of_ble_eq_true rfl) ?_
  intro p e s m args below meth c C hml hr hlocks hin ht H locs ls hR hS hl
  exact tT_X6_checkDays_b0 C hml hr hlocks hst ht h H locs ls hR hS (lv_sub (l' := [(0, .int x0), (1, .int x1)]) hl [0, 1] rfl)
def wT_X6_wouldYield_b0 (x0 : Nat) (x1 : Int32) (x2 : Int32) (S : sT)  (QX : String → sT → Prop) : Prop :=
s_K S x0 = 8 ∧
    ((w_X6_fieldAt x0 x1 S (fun a102 S101 =>
    ((w_X6_checkDays x2 (40 : Int32) S101 (fun S103 =>
    False)) ∨ wT_X6_checkDays x2 (40 : Int32) S101 QX))) ∨ wT_X6_fieldAt x0 x1 S QX)
def wT_X6_wouldYield (x0 : Nat) (x1 : Int32) (x2 : Int32) (S : sT) (QX : String → sT → Prop) : Prop := wT_X6_wouldYield_b0 x0 x1 x2 S QX
def rT_X6_wouldYield : Room := x_rm 7 113 1 6
set_option maxHeartbeats 4000000 in
theorem tT_X6_wouldYield_b0 {QX : String → sT → Prop} (C : x_C p s m args c cX6_wouldYield RX6 gg) (hml : c.maxLocals = 3) (hr : meth.sig.returnType = (some .int)) (hlocks : meth.locks = false) (hst : l.stackTraces = false) (ht : ∀ x ∈ c.exceptionTable.toList, False) {x0 : Nat} {x1 : Int32} {x2 : Int32}  {S : sT}  (h : wT_X6_wouldYield_b0 x0 x1 x2 S  QX) : x_X p l e rT_X6_wouldYield s m args below meth c gg 3 0 0 (vx_MQ below (fun _ _ _ _ => False) (x_XC gg QX) args s 1 6 (s_A gg)) 0 [(0, .ref x0), (1, .int x1), (2, .int x2)] [] S := by
  unfold wT_X6_wouldYield_b0 at h
  obtain ⟨hx, hb, -⟩ := id C
  intro H locs ls hR hS hl
  refine lv_aload_n hx hb dX6_wouldYield_0 rfl (lv_at hl 0 rfl) ?_
  refine lv_iload_n hx hb dX6_wouldYield_1 rfl (lv_at hl 1 rfl) ?_
  obtain ⟨hK_x0, h⟩ := h
  rcases h with h | h
  · refine x_kq (x_runV (As := [.int x1]) (rest := []) C hml hR hS (m_X6_fieldAt l gg x0 x1 S h) b_X6_fieldAt q_12_22 (by rw [hK_x0]; decide) (s_E_7 hK_x0) rfl rfl rfl rfl ⟨Nat.le_of_ble_eq_true rfl, Nat.le_of_ble_eq_true rfl⟩ rfl hl.1 (Nat.le_of_ble_eq_true rfl) dX6_wouldYield_2 ⟨Nat.le_of_ble_eq_true rfl, Nat.le_of_ble_eq_true rfl⟩) hS (fun ra102 S101 H locs hn hR hS => ?_)
    replace h := hn
    clear hn
    obtain ⟨a102, za102, h⟩ := h
    refine x_some za102 ?_
    refine lv_pop hx hb dX6_wouldYield_5 rfl ?_
    refine lv_iload_n hx hb dX6_wouldYield_6 rfl (lv_at hl 2 rfl) ?_
    refine lv_bipush (v := 40) hx hb dX6_wouldYield_7 (by decide) ?_
    rcases h with h | h
    · refine x_kv (x_runS (As := [.int x2, .int (40 : Int32)]) (rest := []) C hml hR hS (m_X6_checkDays l gg x2 (40 : Int32) S101 h) b_X6_checkDays q_39_6 rfl rfl ⟨Nat.le_of_ble_eq_true rfl, Nat.le_of_ble_eq_true rfl⟩ rfl hl.1 (Nat.le_of_ble_eq_true rfl) dX6_wouldYield_9 ⟨Nat.le_of_ble_eq_true rfl, Nat.le_of_ble_eq_true rfl⟩) hS (fun S103 H locs hn hR hS => ?_)
      replace h := hn
      clear hn
      exact h.elim
    · exact x_ze (x_runST (As := [.int x2, .int (40 : Int32)]) (rest := []) C hml hR hS (mT_X6_checkDays l gg x2 (40 : Int32) S101 hst h) b_X6_checkDays q_39_6 rfl rfl ⟨Nat.le_of_ble_eq_true rfl, Nat.le_of_ble_eq_true rfl⟩ rfl hl.1 (Nat.le_of_ble_eq_true rfl) dX6_wouldYield_9 ⟨Nat.le_of_ble_eq_true rfl, Nat.le_of_ble_eq_true rfl⟩) hS (fun E9 ce q9 S1 H1 locs1 hq hR1 hS1 hce hcv hcl => x_zout ht hlocks hq hR1 hS1 hce hcv hcl (Nat.le_of_ble_eq_true rfl) (Nat.le_of_ble_eq_true rfl))
  · exact x_ze (x_runVT (As := [.int x1]) (rest := []) C hml hR hS (mT_X6_fieldAt l gg x0 x1 S hst h) b_X6_fieldAt q_12_22 (by rw [hK_x0]; decide) (s_E_7 hK_x0) rfl rfl rfl rfl ⟨Nat.le_of_ble_eq_true rfl, Nat.le_of_ble_eq_true rfl⟩ rfl hl.1 (Nat.le_of_ble_eq_true rfl) dX6_wouldYield_2 ⟨Nat.le_of_ble_eq_true rfl, Nat.le_of_ble_eq_true rfl⟩) hS (fun E9 ce q9 S1 H1 locs1 hq hR1 hS1 hce hcv hcl => x_zout ht hlocks hq hR1 hS1 hce hcv hcl (Nat.le_of_ble_eq_true rfl) (Nat.le_of_ble_eq_true rfl))
theorem mT_X6_wouldYield (l : Launch) (gg : sG) (x0 : Nat) (x1 : Int32) (x2 : Int32) (S : sT) (hst : l.stackTraces = false) {QX : String → sT → Prop} (h : wT_X6_wouldYield x0 x1 x2 S QX) : x_T l gg yX6_wouldYield (x_ws yX6_wouldYield cX6_wouldYield 3 (some .int)) rT_X6_wouldYield [.ref x0, .int x1, .int x2] S QX 1 6 := by
  refine x_ofWT (cc := cX6_wouldYield) (own := RX6) (by decide +kernel) rfl (Nat.le_of_ble_eq_true rfl) ?_
  intro p e s m args below meth c C hml hr hlocks hin ht H locs ls hR hS hl
  exact tT_X6_wouldYield_b0 C hml hr hlocks hst ht h H locs ls hR hS (lv_sub (l' := [(0, .ref x0), (1, .int x1), (2, .int x2)]) hl [0, 1, 2] rfl)
def wT_X6_ripeIn_b27  (QX : String → sT → Prop) : Nat → Nat → Int32 → Int32 → Int32 → sT → Prop
  | 0 => fun _ _ _ _ _ => False
  | n + 1 => fun x0 x1 x2 x3 S =>
False
def wT_X6_ripeIn_b0 (x0 : Nat) (x1 : Int32) (S : sT)  (QX : String → sT → Prop) : Prop :=
((w_X6_checkDays x1 (40 : Int32) S (fun S101 =>
    False)) ∨ wT_X6_checkDays x1 (40 : Int32) S QX)
def wT_X6_ripeIn (x0 : Nat) (x1 : Int32) (S : sT) (QX : String → sT → Prop) : Prop := wT_X6_ripeIn_b0 x0 x1 S QX
def rT_X6_ripeIn : Room := x_rm 7 113 1 6
set_option maxHeartbeats 4000000 in
theorem tT_X6_ripeIn_b27 {QX : String → sT → Prop} (C : x_C p s m args c cX6_ripeIn RX6 gg) (hml : c.maxLocals = 4) (hr : meth.sig.returnType = (some .int)) (hlocks : meth.locks = false) (hst : l.stackTraces = false) (ht : ∀ x ∈ c.exceptionTable.toList, False)   : ∀ (n : Nat) (x0 : Nat) (x1 : Int32) (x2 : Int32) (x3 : Int32) (S : sT), wT_X6_ripeIn_b27  QX n x0 x1 x2 x3 S → x_X p l e rT_X6_ripeIn s m args below meth c gg 4 0 0 (vx_MQ below (fun _ _ _ _ => False) (x_XC gg QX) args s 1 6 (s_A gg)) 27 [(0, .ref x0), (1, .int x1), (2, .int x2), (3, .int x3)] [] S := by
  obtain ⟨hx, hb, -⟩ := id C
  intro n
  induction n with
  | zero => intro x0 x1 x2 x3 S h; exact absurd h id
  | succ n ih =>
    intro x0 x1 x2 x3 S h H locs ls hR hS hl
    unfold wT_X6_ripeIn_b27 at h
    exact h.elim
set_option maxHeartbeats 4000000 in
theorem tT_X6_ripeIn_b0 {QX : String → sT → Prop} (C : x_C p s m args c cX6_ripeIn RX6 gg) (hml : c.maxLocals = 4) (hr : meth.sig.returnType = (some .int)) (hlocks : meth.locks = false) (hst : l.stackTraces = false) (ht : ∀ x ∈ c.exceptionTable.toList, False) {x0 : Nat} {x1 : Int32}  {S : sT}  (h : wT_X6_ripeIn_b0 x0 x1 S  QX) : x_X p l e rT_X6_ripeIn s m args below meth c gg 4 0 0 (vx_MQ below (fun _ _ _ _ => False) (x_XC gg QX) args s 1 6 (s_A gg)) 0 [(0, .ref x0), (1, .int x1)] [] S := by
  unfold wT_X6_ripeIn_b0 at h
  obtain ⟨hx, hb, -⟩ := id C
  intro H locs ls hR hS hl
  refine lv_iload_n hx hb dX6_ripeIn_0 rfl (lv_at hl 1 rfl) ?_
  refine lv_bipush (v := 40) hx hb dX6_ripeIn_1 (by decide) ?_
  rcases h with h | h
  · refine x_kv (x_runS (As := [.int x1, .int (40 : Int32)]) (rest := []) C hml hR hS (m_X6_checkDays l gg x1 (40 : Int32) S h) b_X6_checkDays q_39_6 rfl rfl ⟨Nat.le_of_ble_eq_true rfl, Nat.le_of_ble_eq_true rfl⟩ rfl hl.1 (Nat.le_of_ble_eq_true rfl) dX6_ripeIn_3 ⟨Nat.le_of_ble_eq_true rfl, Nat.le_of_ble_eq_true rfl⟩) hS (fun S101 H locs hn hR hS => ?_)
    replace h := hn
    clear hn
    exact h.elim
  · exact x_ze (x_runST (As := [.int x1, .int (40 : Int32)]) (rest := []) C hml hR hS (mT_X6_checkDays l gg x1 (40 : Int32) S hst h) b_X6_checkDays q_39_6 rfl rfl ⟨Nat.le_of_ble_eq_true rfl, Nat.le_of_ble_eq_true rfl⟩ rfl hl.1 (Nat.le_of_ble_eq_true rfl) dX6_ripeIn_3 ⟨Nat.le_of_ble_eq_true rfl, Nat.le_of_ble_eq_true rfl⟩) hS (fun E9 ce q9 S1 H1 locs1 hq hR1 hS1 hce hcv hcl => x_zout ht hlocks hq hR1 hS1 hce hcv hcl (Nat.le_of_ble_eq_true rfl) (Nat.le_of_ble_eq_true rfl))
theorem mT_X6_ripeIn (l : Launch) (gg : sG) (x0 : Nat) (x1 : Int32) (S : sT) (hst : l.stackTraces = false) {QX : String → sT → Prop} (h : wT_X6_ripeIn x0 x1 S QX) : x_T l gg yX6_ripeIn (x_ws yX6_ripeIn cX6_ripeIn 4 (some .int)) rT_X6_ripeIn [.ref x0, .int x1] S QX 1 6 := by
  refine x_ofWT (cc := cX6_ripeIn) (own := RX6) (by decide +kernel) rfl (Nat.le_of_ble_eq_true rfl) ?_
  intro p e s m args below meth c C hml hr hlocks hin ht H locs ls hR hS hl
  exact tT_X6_ripeIn_b0 C hml hr hlocks hst ht h H locs ls hR hS (lv_sub (l' := [(0, .ref x0), (1, .int x1)]) hl [0, 1] rfl)
def wT_X6_plan_b80 (x0 : Nat) (x1 : Int32) (x2 : Int32) (x3 : Int32) (x4 : Int32) (x5 : Int32) (x6 : Int32) (S : sT) (kk49 : Nat → Int32 → Int32 → Int32 → Int32 → Int32 → Int32 → sT → Prop) (QX : String → sT → Prop) : Prop :=
False
def wT_X6_plan_b49  (QX : String → sT → Prop) : Nat → Nat → Int32 → Int32 → Int32 → Int32 → Int32 → Int32 → sT → Prop
  | 0 => fun _ _ _ _ _ _ _ _ => False
  | n + 1 => fun x0 x1 x2 x3 x4 x5 x6 S =>
False
def wT_X6_plan_b15  (QX : String → sT → Prop) : Nat → Nat → Int32 → Int32 → Int32 → Int32 → sT → Prop
  | 0 => fun _ _ _ _ _ _ => False
  | n + 1 => fun x0 x1 x2 x3 x4 S =>
False
def wT_X6_plan_b0 (x0 : Nat) (x1 : Int32) (x2 : Int32) (S : sT)  (QX : String → sT → Prop) : Prop :=
((w_X6_checkKind x1 S (fun S101 =>
    ((w_X6_checkDays x2 (30 : Int32) S101 (fun S102 =>
    False)) ∨ wT_X6_checkDays x2 (30 : Int32) S101 QX))) ∨ wT_X6_checkKind x1 S QX)
def wT_X6_plan (x0 : Nat) (x1 : Int32) (x2 : Int32) (S : sT) (QX : String → sT → Prop) : Prop := wT_X6_plan_b0 x0 x1 x2 S QX
def rT_X6_plan : Room := x_rm 7 113 1 6
set_option maxHeartbeats 4000000 in
theorem tT_X6_plan_b80 {QX : String → sT → Prop} (C : x_C p s m args c cX6_plan RX6 gg) (hml : c.maxLocals = 8) (hr : meth.sig.returnType = (some .int)) (hlocks : meth.locks = false) (hst : l.stackTraces = false) (ht : ∀ x ∈ c.exceptionTable.toList, False) {x0 : Nat} {x1 : Int32} {x2 : Int32} {x3 : Int32} {x4 : Int32} {x5 : Int32} {x6 : Int32} {kk49 : Nat → Int32 → Int32 → Int32 → Int32 → Int32 → Int32 → sT → Prop} {S : sT} (hk49 : ∀ (x0 : Nat) (x1 : Int32) (x2 : Int32) (x3 : Int32) (x4 : Int32) (x5 : Int32) (x6 : Int32) (S : sT), kk49 x0 x1 x2 x3 x4 x5 x6 S → x_X p l e rT_X6_plan s m args below meth c gg 8 0 0 (vx_MQ below (fun _ _ _ _ => False) (x_XC gg QX) args s 1 6 (s_A gg)) 49 [(0, .ref x0), (1, .int x1), (2, .int x2), (3, .int x3), (4, .int x4), (5, .int x5), (6, .int x6)] [] S) (h : wT_X6_plan_b80 x0 x1 x2 x3 x4 x5 x6 S kk49 QX) : x_X p l e rT_X6_plan s m args below meth c gg 8 0 0 (vx_MQ below (fun _ _ _ _ => False) (x_XC gg QX) args s 1 6 (s_A gg)) 80 [(0, .ref x0), (1, .int x1), (2, .int x2), (3, .int x3), (4, .int x4), (5, .int x5), (6, .int x6)] [] S := by
  unfold wT_X6_plan_b80 at h
  obtain ⟨hx, hb, -⟩ := id C
  intro H locs ls hR hS hl
  exact h.elim
set_option maxHeartbeats 4000000 in
theorem tT_X6_plan_b49 {QX : String → sT → Prop} (C : x_C p s m args c cX6_plan RX6 gg) (hml : c.maxLocals = 8) (hr : meth.sig.returnType = (some .int)) (hlocks : meth.locks = false) (hst : l.stackTraces = false) (ht : ∀ x ∈ c.exceptionTable.toList, False)   : ∀ (n : Nat) (x0 : Nat) (x1 : Int32) (x2 : Int32) (x3 : Int32) (x4 : Int32) (x5 : Int32) (x6 : Int32) (S : sT), wT_X6_plan_b49  QX n x0 x1 x2 x3 x4 x5 x6 S → x_X p l e rT_X6_plan s m args below meth c gg 8 0 0 (vx_MQ below (fun _ _ _ _ => False) (x_XC gg QX) args s 1 6 (s_A gg)) 49 [(0, .ref x0), (1, .int x1), (2, .int x2), (3, .int x3), (4, .int x4), (5, .int x5), (6, .int x6)] [] S := by
  obtain ⟨hx, hb, -⟩ := id C
  intro n
  induction n with
  | zero => intro x0 x1 x2 x3 x4 x5 x6 S h; exact absurd h id
  | succ n ih =>
    intro x0 x1 x2 x3 x4 x5 x6 S h H locs ls hR hS hl
    unfold wT_X6_plan_b49 at h
    exact h.elim
set_option maxHeartbeats 4000000 in
theorem tT_X6_plan_b15 {QX : String → sT → Prop} (C : x_C p s m args c cX6_plan RX6 gg) (hml : c.maxLocals = 8) (hr : meth.sig.returnType = (some .int)) (hlocks : meth.locks = false) (hst : l.stackTraces = false) (ht : ∀ x ∈ c.exceptionTable.toList, False)   : ∀ (n : Nat) (x0 : Nat) (x1 : Int32) (x2 : Int32) (x3 : Int32) (x4 : Int32) (S : sT), wT_X6_plan_b15  QX n x0 x1 x2 x3 x4 S → x_X p l e rT_X6_plan s m args below meth c gg 8 0 0 (vx_MQ below (fun _ _ _ _ => False) (x_XC gg QX) args s 1 6 (s_A gg)) 15 [(0, .ref x0), (1, .int x1), (2, .int x2), (3, .int x3), (4, .int x4)] [] S := by
  obtain ⟨hx, hb, -⟩ := id C
  intro n
  induction n with
  | zero => intro x0 x1 x2 x3 x4 S h; exact absurd h id
  | succ n ih =>
    intro x0 x1 x2 x3 x4 S h H locs ls hR hS hl
    unfold wT_X6_plan_b15 at h
    exact h.elim
set_option maxHeartbeats 4000000 in
theorem tT_X6_plan_b0 {QX : String → sT → Prop} (C : x_C p s m args c cX6_plan RX6 gg) (hml : c.maxLocals = 8) (hr : meth.sig.returnType = (some .int)) (hlocks : meth.locks = false) (hst : l.stackTraces = false) (ht : ∀ x ∈ c.exceptionTable.toList, False) {x0 : Nat} {x1 : Int32} {x2 : Int32}  {S : sT}  (h : wT_X6_plan_b0 x0 x1 x2 S  QX) : x_X p l e rT_X6_plan s m args below meth c gg 8 0 0 (vx_MQ below (fun _ _ _ _ => False) (x_XC gg QX) args s 1 6 (s_A gg)) 0 [(0, .ref x0), (1, .int x1), (2, .int x2)] [] S := by
  unfold wT_X6_plan_b0 at h
  obtain ⟨hx, hb, -⟩ := id C
  intro H locs ls hR hS hl
  refine lv_iload_n hx hb dX6_plan_0 rfl (lv_at hl 1 rfl) ?_
  rcases h with h | h
  · refine x_kv (x_runS (As := [.int x1]) (rest := []) C hml hR hS (m_X6_checkKind l gg x1 S h) b_X6_checkKind q_15_11 rfl rfl ⟨Nat.le_of_ble_eq_true rfl, Nat.le_of_ble_eq_true rfl⟩ rfl hl.1 (Nat.le_of_ble_eq_true rfl) dX6_plan_1 ⟨Nat.le_of_ble_eq_true rfl, Nat.le_of_ble_eq_true rfl⟩) hS (fun S101 H locs hn hR hS => ?_)
    replace h := hn
    clear hn
    refine lv_iload_n hx hb dX6_plan_4 rfl (lv_at hl 2 rfl) ?_
    refine lv_bipush (v := 30) hx hb dX6_plan_5 (by decide) ?_
    rcases h with h | h
    · refine x_kv (x_runS (As := [.int x2, .int (30 : Int32)]) (rest := []) C hml hR hS (m_X6_checkDays l gg x2 (30 : Int32) S101 h) b_X6_checkDays q_39_6 rfl rfl ⟨Nat.le_of_ble_eq_true rfl, Nat.le_of_ble_eq_true rfl⟩ rfl hl.1 (Nat.le_of_ble_eq_true rfl) dX6_plan_7 ⟨Nat.le_of_ble_eq_true rfl, Nat.le_of_ble_eq_true rfl⟩) hS (fun S102 H locs hn hR hS => ?_)
      replace h := hn
      clear hn
      exact h.elim
    · exact x_ze (x_runST (As := [.int x2, .int (30 : Int32)]) (rest := []) C hml hR hS (mT_X6_checkDays l gg x2 (30 : Int32) S101 hst h) b_X6_checkDays q_39_6 rfl rfl ⟨Nat.le_of_ble_eq_true rfl, Nat.le_of_ble_eq_true rfl⟩ rfl hl.1 (Nat.le_of_ble_eq_true rfl) dX6_plan_7 ⟨Nat.le_of_ble_eq_true rfl, Nat.le_of_ble_eq_true rfl⟩) hS (fun E9 ce q9 S1 H1 locs1 hq hR1 hS1 hce hcv hcl => x_zout ht hlocks hq hR1 hS1 hce hcv hcl (Nat.le_of_ble_eq_true rfl) (Nat.le_of_ble_eq_true rfl))
  · exact x_ze (x_runST (As := [.int x1]) (rest := []) C hml hR hS (mT_X6_checkKind l gg x1 S hst h) b_X6_checkKind q_15_11 rfl rfl ⟨Nat.le_of_ble_eq_true rfl, Nat.le_of_ble_eq_true rfl⟩ rfl hl.1 (Nat.le_of_ble_eq_true rfl) dX6_plan_1 ⟨Nat.le_of_ble_eq_true rfl, Nat.le_of_ble_eq_true rfl⟩) hS (fun E9 ce q9 S1 H1 locs1 hq hR1 hS1 hce hcv hcl => x_zout ht hlocks hq hR1 hS1 hce hcv hcl (Nat.le_of_ble_eq_true rfl) (Nat.le_of_ble_eq_true rfl))
theorem mT_X6_plan (l : Launch) (gg : sG) (x0 : Nat) (x1 : Int32) (x2 : Int32) (S : sT) (hst : l.stackTraces = false) {QX : String → sT → Prop} (h : wT_X6_plan x0 x1 x2 S QX) : x_T l gg yX6_plan (x_ws yX6_plan cX6_plan 8 (some .int)) rT_X6_plan [.ref x0, .int x1, .int x2] S QX 1 6 := by
  refine x_ofWT (cc := cX6_plan) (own := RX6) (by decide +kernel) rfl (Nat.le_of_ble_eq_true rfl) ?_
  intro p e s m args below meth c C hml hr hlocks hin ht H locs ls hR hS hl
  exact tT_X6_plan_b0 C hml hr hlocks hst ht h H locs ls hR hS (lv_sub (l' := [(0, .ref x0), (1, .int x1), (2, .int x2)]) hl [0, 1, 2] rfl)
end
