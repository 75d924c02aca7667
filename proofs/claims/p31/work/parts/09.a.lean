section
variable {p : Program} {l : Launch} {e : Env} {s : State} {m : MethodId} {args : Array Value} {below : List Frame} {meth : Method} {c : Code} {gg : sG}
def w_L_below_b0 (x0 : Int32) (x1 : Int32) (S : sT)  (Q : Int32 → sT → Prop) : Prop :=
∀ x101 : Int32, x101 = x0 &&& (2147483647 : Int32) →
    ¬ x1 = 0 ∧
    ∀ x103 : Int32, x103 = x101 - x101 / x1 * x1 →
    Q x103 S
def w_L_below (x0 : Int32) (x1 : Int32) (S : sT) (Q : Int32 → sT → Prop) : Prop := w_L_below_b0 x0 x1 S Q
def r_L_below : Room := x_rm 0 0 0 0
theorem b_L_below : x_BS yL_below cL_below 2 (some .int) 2 := ⟨q_3_4, q_3_3, q_2_23, by decide +kernel⟩
set_option maxHeartbeats 4000000 in
theorem t_L_below_b0 {Q : Int32 → sT → Prop} (C : x_C p s m args c cL_below RL gg) (hml : c.maxLocals = 2) (hr : meth.sig.returnType = (some .int)) (hlocks : meth.locks = false) {x0 : Int32} {x1 : Int32}  {S : sT}  (h : w_L_below_b0 x0 x1 S  Q) : x_X p l e r_L_below s m args below meth c gg 2 0 0 (MQ below (va_Qi Q (fun S1 t => s_Rep gg S1 t.heap) (s_A gg)) args s 0 0 (s_A gg)) 0 [(0, .int x0), (1, .int x1)] [] S := by
  unfold w_L_below_b0 at h
  obtain ⟨hx, hb, -⟩ := id C
  intro H locs ls hR hS hl
  refine lv_iload_n hx hb dL_below_0 rfl (lv_at hl 0 rfl) ?_
  refine lv_ldc hx hb C.2.2.2.1 (C.2.2.1 _ q_3_5) dL_below_1 ?_
  refine lv_iand hx hb dL_below_3 ?_
  refine lv_topi (fun x101 ex101 => ?_)
  replace h := h x101 ex101
  refine lv_iload_n hx hb dL_below_4 rfl (lv_at hl 1 rfl) ?_
  obtain ⟨hd102, h⟩ := h
  refine lv_irem hx hb dL_below_5 hd102 ?_
  refine lv_topi (fun x103 ex103 => ?_)
  replace h := h x103 ex103
  exact W.iret (v := x103) hx hb hr (fun t ht hW => ⟨⟨x103, S, rfl, h, x_rt ht hR⟩, hS.F ht⟩) hS.2.2 dL_below_6
theorem m_L_below (l : Launch) (gg : sG) (x0 : Int32) (x1 : Int32) (S : sT) {Q : Int32 → sT → Prop} (h : w_L_below x0 x1 S Q) : x_Mi l gg yL_below (x_ws yL_below cL_below 2 (some .int)) r_L_below [.int x0, .int x1] S Q 0 0 := by
  refine x_ofW (cc := cL_below) (own := RL) (by decide +kernel) rfl (Nat.le_of_ble_eq_true rfl) ?_
  intro p e s m args below meth c C hml hr hlocks hin ht H locs ls hR hS hl
  exact t_L_below_b0 C hml hr hlocks h H locs ls hR hS (lv_sub (l' := [(0, .int x0), (1, .int x1)]) hl [0, 1] rfl)
/-- the script's cell k -/
def cellF (sc : Nat × (Nat → Int32)) (k : Int32) : Int32 := if k < nI sc.1 then sc.2 (Int32.toNatClampNeg k) else 790386105 * (k + 3)
def w_L_cell (sc : Nat × (Nat → Int32)) (k : Int32) (S : sT) (Q : Int32 → sT → Prop) : Prop := (k < nI sc.1 → vp_in k sc.1) ∧ Q (cellF sc k) S
def r_L_cell : Room := x_rm 0 0 0 0
theorem b_L_cell : x_BS yL_cell cL_cell 2 (some .int) 2 := ⟨q_3_0, q_2_22, q_2_23, by decide +kernel⟩
def x_PcX (gg : sG) (bb : Nat) (sc : Nat × (Nat → Int32)) (As : List Value) (S : sT) : Array Value → State → Prop := va_Pc As (fun U => (s_Env gg U ∧ s_Rep gg S U.heap) ∧ va_X bb sc.1 sc.2 U U.heap ∧ bb < U.heap.size ∧ ¬ s_A gg bb)
theorem x_PcX.blind {gg : sG} {bb : Nat} {sc : Nat × (Nat → Int32)} {As : List Value} {S : sT} : FrameBlind (x_PcX gg bb sc As S) := fun a U g mk h => ⟨h.1, ⟨h.2.1.1.blind, h.2.1.2⟩, va_X.moved (Vm.Alike.refl U.vm) h.2.2.1, h.2.2.2⟩
theorem m_L_cell (l : Launch) (gg : sG) (bb : Nat) (sc : Nat × (Nat → Int32)) (k : Int32) (S : sT) {Q : Int32 → sT → Prop} (h : w_L_cell sc k S Q) : Met l yL_cell (x_ws yL_cell cL_cell 2 (some .int)) r_L_cell (x_PcX gg bb sc [.ref bb, .int k] S) (va_Qi Q (fun S1 t => s_Rep gg S1 t.heap) (s_A gg)) 0 0 (s_A gg) := by
  refine MetFree.of_bodySF (code := cL_cell) (maxLocals := 2) (ret := (some .int)) (by decide +kernel) ?_ ?_
  · intro args s m h hn
    obtain ⟨meth, c, h1, h2, h3, h4, h5, h6, -, -⟩ := Cond.code_spec hn (atoms_spec (ws := x_ws yL_cell cL_cell 2 (some .int)) h _ List.mem_cons_self)
    exact ⟨meth, c, h1, h2, h3, h4, h5, h6⟩
  · intro p e s m args below meth c s₁ B hml hv _
    obtain ⟨rfl, ⟨hE, hR⟩, hX, hbl, hbA⟩ := hv
    have hh0 : s₁.heap = s.heap := by rw [B.state]; rfl
    have hts := atoms_spec (ws := x_ws yL_cell cL_cell 2 (some .int)) B.pre
    have hown : s.vm.findClass RL = some m.cls := findClass_of_methodNamed B.named
    have C : x_C p s m [Value.ref bb, Value.int k].toArray c cL_cell RL gg := ⟨B.exec, B.bytes, fun w h => hts w (List.mem_cons_of_mem _ h), hown, hE⟩
    have hr := B.returns
    have K : x_X p l e r_L_cell s m [Value.ref bb, Value.int k].toArray below meth c gg 2 0 0 (MQ below (va_Qi Q (fun S1 t => s_Rep gg S1 t.heap) (s_A gg)) [Value.ref bb, Value.int k].toArray s 0 0 (s_A gg)) 0 (lv_args 0 [.ref bb, .int k]) [] S := by
      obtain ⟨hx, hb, -⟩ := id C
      intro H locs ls hR hS hl
      have hl : lv_has ls 2 [(0, .ref bb), (1, .int k)] := hl
      obtain ⟨hin, hq⟩ := h
      refine lv_iload_n hx hb dL_cell_0 rfl (lv_at hl 1 rfl) ?_
      refine lv_aload_n hx hb dL_cell_1 rfl (lv_at hl 0 rfl) ?_
      refine va_slen hx hb hX hbl hbA hS dL_cell_2 ?_
      refine lv_icmp_ge (tgt := 12) hx hb dL_cell_3 (by decide) (fun hc => ?_) (fun hc => ?_)
      · have e : cellF sc k = 790386105 * (k + 3) := if_neg (fun z => absurd (Int32.le_iff_toInt_le.mp hc) (Int.not_le.mpr (Int32.lt_iff_toInt_lt.mp z)))
        refine lv_ldc hx hb C.2.2.2.1 (C.2.2.1 _ q_3_1) dL_cell_12 ?_
        refine lv_iload_n hx hb dL_cell_14 rfl (lv_at hl 1 rfl) ?_
        refine lv_iconst (v := 3) hx hb dL_cell_15 (by decide) ?_
        refine lv_iadd hx hb dL_cell_16 ?_
        refine lv_imul hx hb dL_cell_17 ?_
        refine lv_topi (fun x ex => ?_)
        exact W.iret (v := x) hx hb hr (fun t ht hW => ⟨⟨x, S, rfl, by rw [ex]; exact e ▸ hq, x_rt ht hR⟩, hS.F ht⟩) hS.2.2 dL_cell_18
      · have hc2 : k < nI sc.1 := Int32.lt_iff_toInt_lt.mpr (Int.not_le.mp (fun z => hc (Int32.le_iff_toInt_le.mpr z)))
        have e : cellF sc k = sc.2 (Int32.toNatClampNeg k) := if_pos hc2
        refine lv_aload_n hx hb dL_cell_6 rfl (lv_at hl 0 rfl) ?_
        refine lv_iload_n hx hb dL_cell_7 rfl (lv_at hl 1 rfl) ?_
        refine va_sld hx hb hX hbl hbA hS (hin hc2) dL_cell_8 ?_
        refine lv_topi (fun x ex => ?_)
        refine lv_goto (tgt := 18) hx hb dL_cell_9 (by decide) ?_
        exact W.iret (v := x) hx hb hr (fun t ht hW => ⟨⟨x, S, rfl, by rw [ex]; exact e ▸ hq, x_rt ht hR⟩, hS.F ht⟩) hS.2.2 dL_cell_18
    have hl := lv_entry [Value.ref bb, Value.int k] (n := 2) (Nat.le_of_ble_eq_true rfl)
    have K2 := K s.heap [] _ hR va_S.rf hl
    rw [← lg_entry_eq] at K2
    obtain ⟨t, a1, o, b1, b2, b3⟩ := K2 s₁ hh0 (Stand.of_body B)
    exact ⟨t, o, a1, b1, b2, ⟨b3.1, b3.2⟩⟩
theorem x_runSX {H : Heap} {locs : List Loc} {cells slots mc ms nL n index maxL1 pc : Nat} {R : Room} {S : sT} {ls : Array Slot} {As rest : List Value} {y : MethodName} {cc cc1 : ByteArray} {own : String} {ret1 : Option FieldType} {rm : Room} {Qc : Array Value → State → Outcome → State → Prop} {bb : Nat} {sc : Nat × (Nat → Int32)} (hC : x_C p s m args c cc own gg) (hml : c.maxLocals = nL) (hR : s_Rep gg S H) (hS : va_S (s_A gg) s.heap H locs) (hX : va_X bb sc.1 sc.2 s s.heap) (hbl : bb < s.heap.size) (hbA : ¬ s_A gg bb) (hM : Met l y (x_ws y cc1 maxL1 ret1) rm (x_PcX gg bb sc As S) Qc mc ms (s_A gg)) (hB : x_BS y cc1 maxL1 ret1 n) (hl : Cond.methodLink own index y ∈ wsL_law)
    (hrc : rm.cells = mc) (hrs : rm.slots = ms) (hfr : rm.frames + 1 ≤ R.frames ∧ 8 + (maxL1 + 11) + rm.locals ≤ R.locals) (hn : As.length = n) (hsize : ls.size = nL) (hW : (rest.map fun v => v.category).sum ≤ 8) (hdg : decode cc pc = .ok (.invokestatic index, 3)) (hf : cells + mc ≤ R.cells ∧ slots + ms ≤ R.slots) :
    va_Run p l e R s m args below meth c H locs cells slots mc ms (F0 m pc ls (As.reverse ++ rest)) rest (Qc As.toArray) (s_A gg) := by
  obtain ⟨b1, b2, b4, b5⟩ := hB
  exact va_runS (own := own) ⟨hC.1, hC.2.1, hml, hC.2.2.2.1, hC.2.2.1⟩ hM (va_cwS n hC.2.2.1 (ws_GI (fun w hw => by
    rcases List.mem_append.mp hw with h | h
    · simp only [List.mem_cons, List.not_mem_nil, or_false] at h
      rcases h with h | h | h <;> rw [h] <;> assumption
    · exact x_wsIn b1 w h)) rfl hrc hrs b5 hfr) ⟨x_PcX.blind, fun U hU hWm => ⟨rfl, ⟨hC.2.2.2.2.next hS hU hWm, by rw [hU]; exact hR⟩, by rw [hU]; exact (va_X.moved hWm.alike hX).kept (hS.2.1 bb hbl hbA), by rw [hU]; exact Nat.lt_of_lt_of_le hbl hS.1, hbA⟩⟩ rfl hn hsize rfl (lv_room hW) hdg hf
def w_L_isSo_b598 (y0 : Int32) (S : sT)  (Q : Int32 → sT → Prop) : Prop :=
(y0 = 0 ∨ y0 = 1) ∧
    Q y0 S
def w_L_isSo_b597  (S : sT)  (Q : Int32 → sT → Prop) : Prop :=
w_L_isSo_b598 (0 : Int32) S  Q
def w_L_isSo_b445  (S : sT)  (Q : Int32 → sT → Prop) : Prop :=
Q (0 : Int32) S
def w_L_isSo_b485 (x0 : Nat) (x1 : Int32) (x2 : Int32) (x4 : Int32) (x5 : Int32) (x6 : Int32) (x7 : Int32) (x8 : Int32) (x9 : Int32) (x10 : Int32) (S : sT) (kk357 : Nat → Int32 → Int32 → Int32 → Int32 → Int32 → Int32 → Int32 → Int32 → Int32 → sT → Prop) (Q : Int32 → sT → Prop) : Prop :=
∀ x101 : Int32, x101 = x10 + 1 →
    kk357 x0 x1 x2 x4 x5 x6 x7 x8 x9 x101 S
def w_L_isSo_b483  (S : sT)  (Q : Int32 → sT → Prop) : Prop :=
Q (0 : Int32) S
def w_L_isSo_b424 (x0 : Nat) (x1 : Int32) (x2 : Int32) (x4 : Int32) (x5 : Int32) (x6 : Int32) (x7 : Int32) (x8 : Int32) (x9 : Int32) (x10 : Int32) (S : sT) (kk357 : Nat → Int32 → Int32 → Int32 → Int32 → Int32 → Int32 → Int32 → Int32 → Int32 → sT → Prop) (Q : Int32 → sT → Prop) : Prop :=
s_K S x0 = 8 ∧
    w_X6_ofSociety x0 x10 (3 : Int32) S (fun x102 S101 =>
    ((x102 < 0 → w_L_isSo_b445  S101  Q) ∧
    (¬ x102 < 0 → s_K S101 x0 = 8 ∧
    w_X6_ofSociety x0 x10 (7 : Int32) S101 (fun x105 S104 =>
    ((0 ≤ x105 → s_K S104 x0 = 8 ∧
    w_X6_suspect x0 x10 S104 (fun x108 S107 =>
    ((x108 < 0 → w_L_isSo_b485 x0 x1 x2 x4 x5 x6 x7 x8 x9 x10 S107 kk357 Q) ∧
    (¬ x108 < 0 → s_K S107 x0 = 8 ∧
    w_X6_ofField x0 x108 (0 : Int32) S107 (fun x111 S110 =>
    ((¬ x111 = x10 → w_L_isSo_b483  S110  Q) ∧
    (x111 = x10 → s_K S110 x0 = 8 ∧
    w_X6_ofField x0 x108 (12 : Int32) S110 (fun x114 S113 =>
    ((¬ x114 = 0 → w_L_isSo_b485 x0 x1 x2 x4 x5 x6 x7 x8 x9 x10 S113 kk357 Q) ∧
    (x114 = 0 → w_L_isSo_b483  S113  Q)))))))))) ∧
    (¬ 0 ≤ x105 → w_L_isSo_b445  S104  Q))))))
def w_L_isSo_b357  (Q : Int32 → sT → Prop) : Nat → Nat → Int32 → Int32 → Int32 → Int32 → Int32 → Int32 → Int32 → Int32 → Int32 → sT → Prop
  | 0 => fun _ _ _ _ _ _ _ _ _ _ _ => False
  | n + 1 => fun x0 x1 x2 x4 x5 x6 x7 x8 x9 x10 S =>
((x1 ≤ x10 → s_K S x0 = 8 ∧
    w_X6_isClosed x0 S (fun x103 S102 =>
    ((x103 = 0 → w_L_isSo_b597  S102  Q) ∧
    (¬ x103 = 0 → s_K S102 x0 = 8 ∧
    w_X6_water x0 (1 : Int32) S102 (fun x106 S105 =>
    ((¬ x106 = x5 → w_L_isSo_b597  S105  Q) ∧
    (x106 = x5 → ((¬ x6 = 0 → w_L_isSo_b597  S105  Q) ∧
    (x6 = 0 → s_K S105 x0 = 8 ∧
    w_X6_many x0 (6 : Int32) S105 (fun x110 S109 =>
    ((¬ x110 = x7 → w_L_isSo_b597  S109  Q) ∧
    (x110 = x7 → s_K S109 x0 = 8 ∧
    w_X6_many x0 (7 : Int32) S109 (fun x113 S112 =>
    ((¬ x113 = x9 → w_L_isSo_b597  S112  Q) ∧
    (x113 = x9 → s_K S112 x0 = 8 ∧
    w_X6_many x0 (8 : Int32) S112 (fun x116 S115 =>
    ((¬ x116 = x8 → w_L_isSo_b597  S115  Q) ∧
    (x116 = x8 → ∀ x118 : Int32, x118 = (20 : Int32) * x2 →
    ∀ x119 : Int32, x119 = x7 - x118 →
    ∀ x120 : Int32, x120 = x119 - x4 →
    ((0 < x120 → w_L_isSo_b597  S115  Q) ∧
    (¬ 0 < x120 → ∀ x122 : Int32, x122 = (20 : Int32) * x2 →
    ∀ x123 : Int32, x123 = x7 - x122 →
    ∀ x124 : Int32, x124 = x123 - x4 →
    ∀ x125 : Int32, x125 = -x124 →
    ((x9 < x125 → w_L_isSo_b597  S115  Q) ∧
    (¬ x9 < x125 → s_K S115 x0 = 8 ∧
    w_X6_water x0 (2 : Int32) S115 (fun x128 S127 =>
    ((x128 < 0 → w_L_isSo_b597  S127  Q) ∧
    (¬ x128 < 0 → s_K S127 x0 = 8 ∧
    w_X6_water x0 (2 : Int32) S127 (fun x131 S130 =>
    (((27 : Int32) ≤ x131 → w_L_isSo_b597  S130  Q) ∧
    (¬ (27 : Int32) ≤ x131 → w_L_isSo_b598 (1 : Int32) S130  Q)))))))))))))))))))))))))))) ∧
    (¬ x1 ≤ x10 → s_K S x0 = 8 ∧
    w_X6_ofSociety x0 x10 (8 : Int32) S (fun x134 S133 =>
    s_K S133 x0 = 8 ∧
    w_X6_ofSociety x0 x10 (2 : Int32) S133 (fun x136 S135 =>
    ∀ x137 : Int32, x137 = x9 + x136 →
    ((x134 < 0 → w_L_isSo_b424 x0 x1 x2 x4 x5 x6 x7 x8 x137 x10 S135 (fun x0 x1 x2 x4 x5 x6 x7 x8 x9 x10 S => w_L_isSo_b357  Q n x0 x1 x2 x4 x5 x6 x7 x8 x9 x10 S) Q) ∧
    (¬ x134 < 0 → s_K S135 x0 = 8 ∧
    w_X6_ofField x0 x134 (0 : Int32) S135 (fun x140 S139 =>
    ((¬ x140 = x10 → w_L_isSo_b445  S139  Q) ∧
    (x140 = x10 → s_K S139 x0 = 8 ∧
    w_X6_ofField x0 x134 (13 : Int32) S139 (fun x143 S142 =>
    ((x143 = 0 → w_L_isSo_b445  S142  Q) ∧
    (¬ x143 = 0 → s_K S142 x0 = 8 ∧
    w_X6_ofOwner x0 x134 (3 : Int32) S142 (fun x146 S145 =>
    ((x146 = (1 : Int32) → w_L_isSo_b445  S145  Q) ∧
    (¬ x146 = (1 : Int32) → w_L_isSo_b424 x0 x1 x2 x4 x5 x6 x7 x8 x137 x10 S145 (fun x0 x1 x2 x4 x5 x6 x7 x8 x9 x10 S => w_L_isSo_b357  Q n x0 x1 x2 x4 x5 x6 x7 x8 x9 x10 S) Q)))))))))))))))
def w_L_isSo_b146  (S : sT)  (Q : Int32 → sT → Prop) : Prop :=
Q (0 : Int32) S
def w_L_isSo_b279  (S : sT)  (Q : Int32 → sT → Prop) : Prop :=
Q (0 : Int32) S
def w_L_isSo_b343  (S : sT)  (Q : Int32 → sT → Prop) : Prop :=
Q (0 : Int32) S
def w_L_isSo_b340 (x0 : Nat) (x1 : Int32) (x2 : Int32) (x3 : Nat) (x4 : Int32) (x5 : Int32) (x6 : Int32) (x7 : Int32) (x8 : Int32) (x9 : Int32) (y0 : Int32) (y1 : Int32) (S : sT) (kk15 : Nat → Int32 → Int32 → Nat → Int32 → Int32 → Int32 → Int32 → Int32 → Int32 → sT → Prop) (Q : Int32 → sT → Prop) : Prop :=
((y1 = y0 → ∀ x102 : Int32, x102 = x9 + 1 →
    kk15 x0 x1 x2 x3 x4 x5 x6 x7 x8 x102 S) ∧
    (¬ y1 = y0 → w_L_isSo_b343  S  Q))
def w_L_isSo_b324 (x0 : Nat) (x1 : Int32) (x2 : Int32) (x3 : Nat) (x4 : Int32) (x5 : Int32) (x6 : Int32) (x7 : Int32) (x8 : Int32) (x9 : Int32) (y0 : Int32) (S : sT) (kk15 : Nat → Int32 → Int32 → Nat → Int32 → Int32 → Int32 → Int32 → Int32 → Int32 → sT → Prop) (Q : Int32 → sT → Prop) : Prop :=
s_K S x0 = 8 ∧
    w_X6_ofOwner x0 x9 (3 : Int32) S (fun x102 S101 =>
    ((¬ x102 = (1 : Int32) → w_L_isSo_b340 x0 x1 x2 x3 x4 x5 x6 x7 x8 x9 (0 : Int32) y0 S101 kk15 Q) ∧
    (x102 = (1 : Int32) → w_L_isSo_b340 x0 x1 x2 x3 x4 x5 x6 x7 x8 x9 (1 : Int32) y0 S101 kk15 Q)))
def w_L_isSo_b266 (x0 : Nat) (x1 : Int32) (x2 : Int32) (x3 : Nat) (x4 : Int32) (x5 : Int32) (x6 : Int32) (x7 : Int32) (x8 : Int32) (x9 : Int32) (S : sT) (kk15 : Nat → Int32 → Int32 → Nat → Int32 → Int32 → Int32 → Int32 → Int32 → Int32 → sT → Prop) (Q : Int32 → sT → Prop) : Prop :=
s_K S x0 = 8 ∧
    w_X6_ofField x0 x9 (10 : Int32) S (fun x102 S101 =>
    ((x102 ≤ (80 : Int32) → s_K S101 x0 = 8 ∧
    w_X6_thought x0 x9 (0 : Int32) S101 (fun x105 S104 =>
    s_K S104 x0 = 8 ∧
    w_X6_thought x0 x9 (1 : Int32) S104 (fun x107 S106 =>
    ((x107 < x105 → w_L_isSo_b343  S106  Q) ∧
    (¬ x107 < x105 → s_K S106 x0 = 8 ∧
    w_X6_ofField x0 x9 (12 : Int32) S106 (fun x110 S109 =>
    ((x110 < 0 → w_L_isSo_b343  S109  Q) ∧
    (¬ x110 < 0 → s_K S109 x0 = 8 ∧
    w_X6_ofOwner x0 x9 (0 : Int32) S109 (fun x113 S112 =>
    ((0 ≤ x113 → w_L_isSo_b324 x0 x1 x2 x3 x4 x5 x6 x7 x8 x9 (0 : Int32) S112 kk15 Q) ∧
    (¬ 0 ≤ x113 → w_L_isSo_b324 x0 x1 x2 x3 x4 x5 x6 x7 x8 x9 (1 : Int32) S112 kk15 Q))))))))))) ∧
    (¬ x102 ≤ (80 : Int32) → w_L_isSo_b279  S101  Q)))
def w_L_isSo_b246 (x0 : Nat) (x1 : Int32) (x2 : Int32) (x3 : Nat) (x4 : Int32) (x5 : Int32) (x6 : Int32) (x7 : Int32) (x8 : Int32) (x9 : Int32) (x10 : Int32) (y0 : Int32) (y1 : Int32) (S : sT) (kk15 : Nat → Int32 → Int32 → Nat → Int32 → Int32 → Int32 → Int32 → Int32 → Int32 → sT → Prop) (Q : Int32 → sT → Prop) : Prop :=
((¬ y1 = y0 → w_L_isSo_b279  S  Q) ∧
    (y1 = y0 → (((5 : Int32) ≤ x10 → w_L_isSo_b266 x0 x1 x2 x3 x4 x5 x6 x7 x8 x9 S kk15 Q) ∧
    (¬ (5 : Int32) ≤ x10 → s_K S x0 = 8 ∧
    w_X6_ofField x0 x9 (10 : Int32) S (fun x104 S103 =>
    ((¬ x104 = 0 → w_L_isSo_b279  S103  Q) ∧
    (x104 = 0 → w_L_isSo_b266 x0 x1 x2 x3 x4 x5 x6 x7 x8 x9 S103 kk15 Q)))))))
def w_L_isSo_b235 (x0 : Nat) (x1 : Int32) (x2 : Int32) (x3 : Nat) (x4 : Int32) (x5 : Int32) (x6 : Int32) (x7 : Int32) (x8 : Int32) (x9 : Int32) (x10 : Int32) (y0 : Int32) (S : sT) (kk15 : Nat → Int32 → Int32 → Nat → Int32 → Int32 → Int32 → Int32 → Int32 → Int32 → sT → Prop) (Q : Int32 → sT → Prop) : Prop :=
(((2 : Int32) ≤ x10 → w_L_isSo_b246 x0 x1 x2 x3 x4 x5 x6 x7 x8 x9 x10 (0 : Int32) y0 S kk15 Q) ∧
    (¬ (2 : Int32) ≤ x10 → w_L_isSo_b246 x0 x1 x2 x3 x4 x5 x6 x7 x8 x9 x10 (1 : Int32) y0 S kk15 Q))
def w_L_isSo_b140 (x0 : Nat) (x1 : Int32) (x2 : Int32) (x3 : Nat) (x4 : Int32) (x5 : Int32) (x6 : Int32) (x7 : Int32) (x8 : Int32) (x9 : Int32) (x10 : Int32) (S : sT) (kk15 : Nat → Int32 → Int32 → Nat → Int32 → Int32 → Int32 → Int32 → Int32 → Int32 → sT → Prop) (Q : Int32 → sT → Prop) : Prop :=
((x10 ≤ (5 : Int32) → s_K S x0 = 8 ∧
    w_X6_ofField x0 x9 (7 : Int32) S (fun x103 S102 =>
    ((x103 < 0 → w_L_isSo_b279  S102  Q) ∧
    (¬ x103 < 0 → s_K S102 x0 = 8 ∧
    w_X6_ofField x0 x9 (7 : Int32) S102 (fun x106 S105 =>
    (((100 : Int32) < x106 → w_L_isSo_b279  S105  Q) ∧
    (¬ (100 : Int32) < x106 → s_K S105 x0 = 8 ∧
    w_X6_ofField x0 x9 (8 : Int32) S105 (fun x109 S108 =>
    ((x109 < 0 → w_L_isSo_b279  S108  Q) ∧
    (¬ x109 < 0 → s_K S108 x0 = 8 ∧
    w_X6_ofField x0 x9 (8 : Int32) S108 (fun x112 S111 =>
    (((99 : Int32) < x112 → w_L_isSo_b279  S111  Q) ∧
    (¬ (99 : Int32) < x112 → s_K S111 x0 = 8 ∧
    w_X6_ofField x0 x9 (9 : Int32) S111 (fun x115 S114 =>
    ((x115 < 0 → w_L_isSo_b279  S114  Q) ∧
    (¬ x115 < 0 → s_K S114 x0 = 8 ∧
    w_X6_ofField x0 x9 (9 : Int32) S114 (fun x118 S117 =>
    (((50 : Int32) < x118 → w_L_isSo_b279  S117  Q) ∧
    (¬ (50 : Int32) < x118 → s_K S117 x0 = 8 ∧
    w_X6_ofField x0 x9 (5 : Int32) S117 (fun x121 S120 =>
    ((0 ≤ x121 → w_L_isSo_b235 x0 x1 x2 x3 x4 x5 x6 x7 x8 x9 x10 (0 : Int32) S120 kk15 Q) ∧
    (¬ 0 ≤ x121 → w_L_isSo_b235 x0 x1 x2 x3 x4 x5 x6 x7 x8 x9 x10 (1 : Int32) S120 kk15 Q)))))))))))))))))))))) ∧
    (¬ x10 ≤ (5 : Int32) → w_L_isSo_b146  S  Q))
def w_L_isSo_b15  (Q : Int32 → sT → Prop) : Nat → Nat → Int32 → Int32 → Nat → Int32 → Int32 → Int32 → Int32 → Int32 → Int32 → sT → Prop
  | 0 => fun _ _ _ _ _ _ _ _ _ _ _ => False
  | n + 1 => fun x0 x1 x2 x3 x4 x5 x6 x7 x8 x9 S =>
((x2 ≤ x9 → ∃ n9 : Nat, w_L_isSo_b357  Q n9 x0 x1 x2 x4 x5 x6 x7 x8 (0 : Int32) (0 : Int32) S) ∧
    (¬ x2 ≤ x9 → s_K S x0 = 8 ∧
    w_X6_ofField x0 x9 (4 : Int32) S (fun x103 S102 =>
    s_K S102 x0 = 8 ∧
    w_X6_ofField x0 x9 (1 : Int32) S102 (fun x105 S104 =>
    ∀ x106 : Int32, x106 = x5 + x105 →
    s_K S104 x0 = 8 ∧
    w_X6_ofOwner x0 x9 (1 : Int32) S104 (fun x108 S107 =>
    ∀ x109 : Int32, x109 = x6 + x108 →
    s_K S107 x0 = 8 ∧
    w_X6_ofOwner x0 x9 (0 : Int32) S107 (fun x111 S110 =>
    ∀ x112 : Int32, x112 = x7 + x111 →
    s_K S110 x0 = 8 ∧
    w_X6_ofOwner x0 x9 (3 : Int32) S110 (fun x114 S113 =>
    ∀ x115 : Int32, x115 = x8 + x114 →
    ((x105 < 0 → w_L_isSo_b146  S113  Q) ∧
    (¬ x105 < 0 → s_K S113 x3 = 11 ∧
    vp_in x9 (s_N S113 x3) ∧
    ∀ x118 : Int32, x118 = s_B S113 x3 (Int32.toNatClampNeg x9) →
    ((x118 < x105 → w_L_isSo_b146  S113  Q) ∧
    (¬ x118 < x105 → s_K S113 x0 = 8 ∧
    w_X6_ofField x0 x9 (2 : Int32) S113 (fun x121 S120 =>
    ((x121 < 0 → w_L_isSo_b146  S120  Q) ∧
    (¬ x121 < 0 → s_K S120 x0 = 8 ∧
    w_X6_ofField x0 x9 (2 : Int32) S120 (fun x124 S123 =>
    (((3 : Int32) < x124 → w_L_isSo_b146  S123  Q) ∧
    (¬ (3 : Int32) < x124 → ((x105 ≤ 0 → w_L_isSo_b140 x0 x1 x2 x3 x4 x106 x109 x112 x115 x9 x103 S123 (fun x0 x1 x2 x3 x4 x5 x6 x7 x8 x9 S => w_L_isSo_b15  Q n x0 x1 x2 x3 x4 x5 x6 x7 x8 x9 S) Q) ∧
    (¬ x105 ≤ 0 → s_K S123 x0 = 8 ∧
    w_X6_ofField x0 x9 (3 : Int32) S123 (fun x128 S127 =>
    ((x128 = 0 → w_L_isSo_b140 x0 x1 x2 x3 x4 x106 x109 x112 x115 x9 x103 S127 (fun x0 x1 x2 x3 x4 x5 x6 x7 x8 x9 S => w_L_isSo_b15  Q n x0 x1 x2 x3 x4 x5 x6 x7 x8 x9 S) Q) ∧
    (¬ x128 = 0 → s_K S127 x0 = 8 ∧
    w_X6_many x0 (2 : Int32) S127 (fun x131 S130 =>
    ((0 < x131 → w_L_isSo_b146  S130  Q) ∧
    (¬ 0 < x131 → w_L_isSo_b140 x0 x1 x2 x3 x4 x106 x109 x112 x115 x9 x103 S130 (fun x0 x1 x2 x3 x4 x5 x6 x7 x8 x9 S => w_L_isSo_b15  Q n x0 x1 x2 x3 x4 x5 x6 x7 x8 x9 S) Q)))))))))))))))))))))))))
def w_L_isSo_b0 (x0 : Nat) (x1 : Int32) (x2 : Int32) (x3 : Nat) (x4 : Int32) (S : sT)  (Q : Int32 → sT → Prop) : Prop :=
∃ n9 : Nat, w_L_isSo_b15  Q n9 x0 x1 x2 x3 x4 (0 : Int32) (0 : Int32) (0 : Int32) (0 : Int32) (0 : Int32) S
def w_L_isSo (x0 : Nat) (x1 : Int32) (x2 : Int32) (x3 : Nat) (x4 : Int32) (S : sT) (Q : Int32 → sT → Prop) : Prop := w_L_isSo_b0 x0 x1 x2 x3 x4 S Q
def r_L_isSo : Room := x_rm 7 154 0 0
theorem b_L_isSo : x_BS yL_isSo cL_isSo 13 (some .boolean) 5 := ⟨q_24_19, q_24_18, q_2_23, by decide +kernel⟩
set_option maxHeartbeats 4000000 in
theorem t_L_isSo_b598 {Q : Int32 → sT → Prop} (C : x_C p s m args c cL_isSo RL gg) (hml : c.maxLocals = 13) (hr : meth.sig.returnType = (some .boolean)) (hlocks : meth.locks = false) {y0 : Int32}  {S : sT}  (h : w_L_isSo_b598 y0 S  Q) : x_X p l e r_L_isSo s m args below meth c gg 13 0 0 (MQ below (va_Qi Q (fun S1 t => s_Rep gg S1 t.heap) (s_A gg)) args s 0 0 (s_A gg)) 598 [] [.int y0] S := by
  unfold w_L_isSo_b598 at h
  obtain ⟨hx, hb, -⟩ := id C
  intro H locs ls hR hS hl
  obtain ⟨hz101, h⟩ := h
  exact W.zret (v := y0) hx hb hr (zb_n hz101) (fun t ht hW => ⟨⟨y0, S, rfl, h, x_rt ht hR⟩, hS.F ht⟩) hS.2.2 dL_isSo_598
set_option maxHeartbeats 4000000 in
theorem t_L_isSo_b597 {Q : Int32 → sT → Prop} (C : x_C p s m args c cL_isSo RL gg) (hml : c.maxLocals = 13) (hr : meth.sig.returnType = (some .boolean)) (hlocks : meth.locks = false)   {S : sT}  (h : w_L_isSo_b597  S  Q) : x_X p l e r_L_isSo s m args below meth c gg 13 0 0 (MQ below (va_Qi Q (fun S1 t => s_Rep gg S1 t.heap) (s_A gg)) args s 0 0 (s_A gg)) 597 [] [] S := by
  unfold w_L_isSo_b597 at h
  obtain ⟨hx, hb, -⟩ := id C
  intro H locs ls hR hS hl
  refine lv_iconst (v := 0) hx hb dL_isSo_597 (by decide) ?_
  exact t_L_isSo_b598 C hml hr hlocks  h H locs ls hR hS (lv_sub (l' := []) hl [] rfl)
set_option maxHeartbeats 4000000 in
theorem t_L_isSo_b445 {Q : Int32 → sT → Prop} (C : x_C p s m args c cL_isSo RL gg) (hml : c.maxLocals = 13) (hr : meth.sig.returnType = (some .boolean)) (hlocks : meth.locks = false)   {S : sT}  (h : w_L_isSo_b445  S  Q) : x_X p l e r_L_isSo s m args below meth c gg 13 0 0 (MQ below (va_Qi Q (fun S1 t => s_Rep gg S1 t.heap) (s_A gg)) args s 0 0 (s_A gg)) 445 [] [] S := by
  unfold w_L_isSo_b445 at h
  obtain ⟨hx, hb, -⟩ := id C
  intro H locs ls hR hS hl
  refine lv_iconst (v := 0) hx hb dL_isSo_445 (by decide) ?_
  exact W.zret (v := (0 : Int32)) hx hb hr (by decide) (fun t ht hW => ⟨⟨(0 : Int32), S, rfl, h, x_rt ht hR⟩, hS.F ht⟩) hS.2.2 dL_isSo_446
set_option maxHeartbeats 4000000 in
theorem t_L_isSo_b485 {Q : Int32 → sT → Prop} (C : x_C p s m args c cL_isSo RL gg) (hml : c.maxLocals = 13) (hr : meth.sig.returnType = (some .boolean)) (hlocks : meth.locks = false) {x0 : Nat} {x1 : Int32} {x2 : Int32} {x4 : Int32} {x5 : Int32} {x6 : Int32} {x7 : Int32} {x8 : Int32} {x9 : Int32} {x10 : Int32} {kk357 : Nat → Int32 → Int32 → Int32 → Int32 → Int32 → Int32 → Int32 → Int32 → Int32 → sT → Prop} {S : sT} (hk357 : ∀ (x0 : Nat) (x1 : Int32) (x2 : Int32) (x4 : Int32) (x5 : Int32) (x6 : Int32) (x7 : Int32) (x8 : Int32) (x9 : Int32) (x10 : Int32) (S : sT), kk357 x0 x1 x2 x4 x5 x6 x7 x8 x9 x10 S → x_X p l e r_L_isSo s m args below meth c gg 13 0 0 (MQ below (va_Qi Q (fun S1 t => s_Rep gg S1 t.heap) (s_A gg)) args s 0 0 (s_A gg)) 357 [(0, .ref x0), (1, .int x1), (2, .int x2), (4, .int x4), (5, .int x5), (6, .int x6), (7, .int x7), (8, .int x8), (9, .int x9), (10, .int x10)] [] S) (h : w_L_isSo_b485 x0 x1 x2 x4 x5 x6 x7 x8 x9 x10 S kk357 Q) : x_X p l e r_L_isSo s m args below meth c gg 13 0 0 (MQ below (va_Qi Q (fun S1 t => s_Rep gg S1 t.heap) (s_A gg)) args s 0 0 (s_A gg)) 485 [(0, .ref x0), (1, .int x1), (2, .int x2), (4, .int x4), (5, .int x5), (6, .int x6), (7, .int x7), (8, .int x8), (9, .int x9), (10, .int x10)] [] S := by
  unfold w_L_isSo_b485 at h
  obtain ⟨hx, hb, -⟩ := id C
  intro H locs ls hR hS hl
  obtain ⟨x101, ex101⟩ : ∃ z : Int32, z = x10 + 1 := ⟨_, rfl⟩
  replace h := h x101 ex101
  refine lv_iinc (v := x101) (lv' := [(10, .int x101), (0, .ref x0), (1, .int x1), (2, .int x2), (4, .int x4), (5, .int x5), (6, .int x6), (7, .int x7), (8, .int x8), (9, .int x9)]) hx hb dL_isSo_485 hl (k := 9) rfl (by rw [ex101]; rfl) (by decide) rfl (fun ls hl => ?_)
  refine lv_goto (tgt := 357) hx hb dL_isSo_488 (by decide) ?_
  exact hk357 x0 x1 x2 x4 x5 x6 x7 x8 x9 x101 S h H locs ls hR hS (lv_sub (l' := [(0, .ref x0), (1, .int x1), (2, .int x2), (4, .int x4), (5, .int x5), (6, .int x6), (7, .int x7), (8, .int x8), (9, .int x9), (10, .int x101)]) hl [1, 2, 3, 4, 5, 6, 7, 8, 9, 0] rfl)
set_option maxHeartbeats 4000000 in
theorem t_L_isSo_b483 {Q : Int32 → sT → Prop} (C : x_C p s m args c cL_isSo RL gg) (hml : c.maxLocals = 13) (hr : meth.sig.returnType = (some .boolean)) (hlocks : meth.locks = false)   {S : sT}  (h : w_L_isSo_b483  S  Q) : x_X p l e r_L_isSo s m args below meth c gg 13 0 0 (MQ below (va_Qi Q (fun S1 t => s_Rep gg S1 t.heap) (s_A gg)) args s 0 0 (s_A gg)) 483 [] [] S := by
  unfold w_L_isSo_b483 at h
  obtain ⟨hx, hb, -⟩ := id C
  intro H locs ls hR hS hl
  refine lv_iconst (v := 0) hx hb dL_isSo_483 (by decide) ?_
  exact W.zret (v := (0 : Int32)) hx hb hr (by decide) (fun t ht hW => ⟨⟨(0 : Int32), S, rfl, h, x_rt ht hR⟩, hS.F ht⟩) hS.2.2 dL_isSo_484
set_option maxHeartbeats 4000000 in
theorem t_L_isSo_b424 {Q : Int32 → sT → Prop} (C : x_C p s m args c cL_isSo RL gg) (hml : c.maxLocals = 13) (hr : meth.sig.returnType = (some .boolean)) (hlocks : meth.locks = false) {x0 : Nat} {x1 : Int32} {x2 : Int32} {x4 : Int32} {x5 : Int32} {x6 : Int32} {x7 : Int32} {x8 : Int32} {x9 : Int32} {x10 : Int32} {kk357 : Nat → Int32 → Int32 → Int32 → Int32 → Int32 → Int32 → Int32 → Int32 → Int32 → sT → Prop} {S : sT} (hk357 : ∀ (x0 : Nat) (x1 : Int32) (x2 : Int32) (x4 : Int32) (x5 : Int32) (x6 : Int32) (x7 : Int32) (x8 : Int32) (x9 : Int32) (x10 : Int32) (S : sT), kk357 x0 x1 x2 x4 x5 x6 x7 x8 x9 x10 S → x_X p l e r_L_isSo s m args below meth c gg 13 0 0 (MQ below (va_Qi Q (fun S1 t => s_Rep gg S1 t.heap) (s_A gg)) args s 0 0 (s_A gg)) 357 [(0, .ref x0), (1, .int x1), (2, .int x2), (4, .int x4), (5, .int x5), (6, .int x6), (7, .int x7), (8, .int x8), (9, .int x9), (10, .int x10)] [] S) (h : w_L_isSo_b424 x0 x1 x2 x4 x5 x6 x7 x8 x9 x10 S kk357 Q) : x_X p l e r_L_isSo s m args below meth c gg 13 0 0 (MQ below (va_Qi Q (fun S1 t => s_Rep gg S1 t.heap) (s_A gg)) args s 0 0 (s_A gg)) 424 [(0, .ref x0), (1, .int x1), (2, .int x2), (4, .int x4), (5, .int x5), (6, .int x6), (7, .int x7), (8, .int x8), (9, .int x9), (10, .int x10)] [] S := by
  unfold w_L_isSo_b424 at h
  obtain ⟨hx, hb, -⟩ := id C
  intro H locs ls hR hS hl
  refine lv_aload_n hx hb dL_isSo_424 rfl (lv_at hl 0 rfl) ?_
  refine lv_iload hx hb dL_isSo_425 (lv_at hl 9 rfl) ?_
  refine lv_iconst (v := 3) hx hb dL_isSo_427 (by decide) ?_
  obtain ⟨hK_x0, h⟩ := h
  refine x_ki (x_runV (As := [.int x10, .int (3 : Int32)]) (rest := []) C hml hR hS (m_X6_ofSociety l gg x0 x10 (3 : Int32) S h) b_X6_ofSociety q_14_3 (by rw [hK_x0]; decide) (s_E_7 hK_x0) rfl rfl rfl rfl ⟨Nat.le_of_ble_eq_true rfl, Nat.le_of_ble_eq_true rfl⟩ rfl hl.1 (Nat.le_of_ble_eq_true rfl) dL_isSo_428 ⟨Nat.le_refl _, Nat.le_refl _⟩) hS (fun x102 S101 H locs hn hR hS => ?_)
  replace h := hn
  clear hn
  refine lv_if_lt (tgt := 445) hx hb dL_isSo_431 (by decide) (fun hc103 => ?_) (fun hc103 => ?_)
  · replace h := h.1 hc103
    exact t_L_isSo_b445 C hml hr hlocks  h H locs ls hR hS (lv_sub (l' := []) hl [] rfl)
  · replace h := h.2 hc103
    refine lv_aload_n hx hb dL_isSo_434 rfl (lv_at hl 0 rfl) ?_
    refine lv_iload hx hb dL_isSo_435 (lv_at hl 9 rfl) ?_
    refine lv_bipush (v := 7) hx hb dL_isSo_437 (by decide) ?_
    obtain ⟨hK_x0, h⟩ := h
    refine x_ki (x_runV (As := [.int x10, .int (7 : Int32)]) (rest := []) C hml hR hS (m_X6_ofSociety l gg x0 x10 (7 : Int32) S101 h) b_X6_ofSociety q_14_3 (by rw [hK_x0]; decide) (s_E_7 hK_x0) rfl rfl rfl rfl ⟨Nat.le_of_ble_eq_true rfl, Nat.le_of_ble_eq_true rfl⟩ rfl hl.1 (Nat.le_of_ble_eq_true rfl) dL_isSo_439 ⟨Nat.le_refl _, Nat.le_refl _⟩) hS (fun x105 S104 H locs hn hR hS => ?_)
    replace h := hn
    clear hn
    refine lv_if_ge (tgt := 447) hx hb dL_isSo_442 (by decide) (fun hc106 => ?_) (fun hc106 => ?_)
    · replace h := h.1 hc106
      refine lv_aload_n hx hb dL_isSo_447 rfl (lv_at hl 0 rfl) ?_
      refine lv_iload hx hb dL_isSo_448 (lv_at hl 9 rfl) ?_
      obtain ⟨hK_x0, h⟩ := h
      refine x_ki (x_runV (As := [.int x10]) (rest := []) C hml hR hS (m_X6_suspect l gg x0 x10 S104 h) b_X6_suspect q_24_20 (by rw [hK_x0]; decide) (s_E_7 hK_x0) rfl rfl rfl rfl ⟨Nat.le_of_ble_eq_true rfl, Nat.le_of_ble_eq_true rfl⟩ rfl hl.1 (Nat.le_of_ble_eq_true rfl) dL_isSo_450 ⟨Nat.le_refl _, Nat.le_refl _⟩) hS (fun x108 S107 H locs hn hR hS => ?_)
      replace h := hn
      clear hn
      refine lv_istore (lv' := [(12, .int x108), (0, .ref x0), (1, .int x1), (2, .int x2), (4, .int x4), (5, .int x5), (6, .int x6), (7, .int x7), (8, .int x8), (9, .int x9), (10, .int x10)]) hx hb dL_isSo_453 hl (by decide) rfl (fun ls hl => ?_)
      refine lv_iload hx hb dL_isSo_455 (lv_at hl 0 rfl) ?_
      refine lv_if_lt (tgt := 485) hx hb dL_isSo_457 (by decide) (fun hc109 => ?_) (fun hc109 => ?_)
      · replace h := h.1 hc109
        exact t_L_isSo_b485 C hml hr hlocks hk357 h H locs ls hR hS (lv_sub (l' := [(0, .ref x0), (1, .int x1), (2, .int x2), (4, .int x4), (5, .int x5), (6, .int x6), (7, .int x7), (8, .int x8), (9, .int x9), (10, .int x10)]) hl [1, 2, 3, 4, 5, 6, 7, 8, 9, 10] rfl)
      · replace h := h.2 hc109
        refine lv_aload_n hx hb dL_isSo_460 rfl (lv_at hl 1 rfl) ?_
        refine lv_iload hx hb dL_isSo_461 (lv_at hl 0 rfl) ?_
        refine lv_iconst (v := 0) hx hb dL_isSo_463 (by decide) ?_
        obtain ⟨hK_x0, h⟩ := h
        refine x_ki (x_runV (As := [.int x108, .int (0 : Int32)]) (rest := []) C hml hR hS (m_X6_ofField l gg x0 x108 (0 : Int32) S107 h) b_X6_ofField q_10_17 (by rw [hK_x0]; decide) (s_E_7 hK_x0) rfl rfl rfl rfl ⟨Nat.le_of_ble_eq_true rfl, Nat.le_of_ble_eq_true rfl⟩ rfl hl.1 (Nat.le_of_ble_eq_true rfl) dL_isSo_464 ⟨Nat.le_refl _, Nat.le_refl _⟩) hS (fun x111 S110 H locs hn hR hS => ?_)
        replace h := hn
        clear hn
        refine lv_iload hx hb dL_isSo_467 (lv_at hl 10 rfl) ?_
        refine lv_icmp_ne (tgt := 483) hx hb dL_isSo_469 (by decide) (fun hc112 => ?_) (fun hc112 => ?_)
        · replace h := h.1 hc112
          exact t_L_isSo_b483 C hml hr hlocks  h H locs ls hR hS (lv_sub (l' := []) hl [] rfl)
        · replace h := h.2 hc112
          refine lv_aload_n hx hb dL_isSo_472 rfl (lv_at hl 1 rfl) ?_
          refine lv_iload hx hb dL_isSo_473 (lv_at hl 0 rfl) ?_
          refine lv_bipush (v := 12) hx hb dL_isSo_475 (by decide) ?_
          obtain ⟨hK_x0, h⟩ := h
          refine x_ki (x_runV (As := [.int x108, .int (12 : Int32)]) (rest := []) C hml hR hS (m_X6_ofField l gg x0 x108 (12 : Int32) S110 h) b_X6_ofField q_10_17 (by rw [hK_x0]; decide) (s_E_7 hK_x0) rfl rfl rfl rfl ⟨Nat.le_of_ble_eq_true rfl, Nat.le_of_ble_eq_true rfl⟩ rfl hl.1 (Nat.le_of_ble_eq_true rfl) dL_isSo_477 ⟨Nat.le_refl _, Nat.le_refl _⟩) hS (fun x114 S113 H locs hn hR hS => ?_)
          replace h := hn
          clear hn
          refine lv_if_ne (tgt := 485) hx hb dL_isSo_480 (by decide) (fun hc115 => ?_) (fun hc115 => ?_)
          · replace h := h.1 hc115
            exact t_L_isSo_b485 C hml hr hlocks hk357 h H locs ls hR hS (lv_sub (l' := [(0, .ref x0), (1, .int x1), (2, .int x2), (4, .int x4), (5, .int x5), (6, .int x6), (7, .int x7), (8, .int x8), (9, .int x9), (10, .int x10)]) hl [1, 2, 3, 4, 5, 6, 7, 8, 9, 10] rfl)
          · replace h := h.2 hc115
            exact t_L_isSo_b483 C hml hr hlocks  h H locs ls hR hS (lv_sub (l' := []) hl [] rfl)
    · replace h := h.2 hc106
      exact t_L_isSo_b445 C hml hr hlocks  h H locs ls hR hS (lv_sub (l' := []) hl [] rfl)
set_option maxHeartbeats 4000000 in
theorem t_L_isSo_b357 {Q : Int32 → sT → Prop} (C : x_C p s m args c cL_isSo RL gg) (hml : c.maxLocals = 13) (hr : meth.sig.returnType = (some .boolean)) (hlocks : meth.locks = false)   : ∀ (n : Nat) (x0 : Nat) (x1 : Int32) (x2 : Int32) (x4 : Int32) (x5 : Int32) (x6 : Int32) (x7 : Int32) (x8 : Int32) (x9 : Int32) (x10 : Int32) (S : sT), w_L_isSo_b357  Q n x0 x1 x2 x4 x5 x6 x7 x8 x9 x10 S → x_X p l e r_L_isSo s m args below meth c gg 13 0 0 (MQ below (va_Qi Q (fun S1 t => s_Rep gg S1 t.heap) (s_A gg)) args s 0 0 (s_A gg)) 357 [(0, .ref x0), (1, .int x1), (2, .int x2), (4, .int x4), (5, .int x5), (6, .int x6), (7, .int x7), (8, .int x8), (9, .int x9), (10, .int x10)] [] S := by
  obtain ⟨hx, hb, -⟩ := id C
  intro n
  induction n with
  | zero => intro x0 x1 x2 x4 x5 x6 x7 x8 x9 x10 S h; exact absurd h id
  | succ n ih =>
    intro x0 x1 x2 x4 x5 x6 x7 x8 x9 x10 S h H locs ls hR hS hl
    unfold w_L_isSo_b357 at h
    refine lv_iload hx hb dL_isSo_357 (lv_at hl 9 rfl) ?_
    refine lv_iload_n hx hb dL_isSo_359 rfl (lv_at hl 1 rfl) ?_
    refine lv_icmp_ge (tgt := 491) hx hb dL_isSo_360 (by decide) (fun hc101 => ?_) (fun hc101 => ?_)
    · replace h := h.1 hc101
      refine lv_aload_n hx hb dL_isSo_491 rfl (lv_at hl 0 rfl) ?_
      obtain ⟨hK_x0, h⟩ := h
      refine x_ki (x_runV (As := []) (rest := []) C hml hR hS (m_X6_isClosed l gg x0 S h) b_X6_isClosed q_25_5 (by rw [hK_x0]; decide) (s_E_7 hK_x0) rfl rfl rfl rfl ⟨Nat.le_of_ble_eq_true rfl, Nat.le_of_ble_eq_true rfl⟩ rfl hl.1 (Nat.le_of_ble_eq_true rfl) dL_isSo_492 ⟨Nat.le_refl _, Nat.le_refl _⟩) hS (fun x103 S102 H locs hn hR hS => ?_)
      replace h := hn
      clear hn
      refine lv_if_eq (tgt := 597) hx hb dL_isSo_495 (by decide) (fun hc104 => ?_) (fun hc104 => ?_)
      · replace h := h.1 hc104
        exact t_L_isSo_b597 C hml hr hlocks  h H locs ls hR hS (lv_sub (l' := []) hl [] rfl)
      · replace h := h.2 hc104
        refine lv_aload_n hx hb dL_isSo_498 rfl (lv_at hl 0 rfl) ?_
        refine lv_iconst (v := 1) hx hb dL_isSo_499 (by decide) ?_
        obtain ⟨hK_x0, h⟩ := h
        refine x_ki (x_runV (As := [.int (1 : Int32)]) (rest := []) C hml hR hS (m_X6_water l gg x0 (1 : Int32) S102 h) b_X6_water q_25_19 (by rw [hK_x0]; decide) (s_E_7 hK_x0) rfl rfl rfl rfl ⟨Nat.le_of_ble_eq_true rfl, Nat.le_of_ble_eq_true rfl⟩ rfl hl.1 (Nat.le_of_ble_eq_true rfl) dL_isSo_500 ⟨Nat.le_refl _, Nat.le_refl _⟩) hS (fun x106 S105 H locs hn hR hS => ?_)
        replace h := hn
        clear hn
        refine lv_iload hx hb dL_isSo_503 (lv_at hl 4 rfl) ?_
        refine lv_icmp_ne (tgt := 597) hx hb dL_isSo_505 (by decide) (fun hc107 => ?_) (fun hc107 => ?_)
        · replace h := h.1 hc107
          exact t_L_isSo_b597 C hml hr hlocks  h H locs ls hR hS (lv_sub (l' := []) hl [] rfl)
        · replace h := h.2 hc107
          refine lv_iload hx hb dL_isSo_508 (lv_at hl 5 rfl) ?_
          refine lv_if_ne (tgt := 597) hx hb dL_isSo_510 (by decide) (fun hc108 => ?_) (fun hc108 => ?_)
          · replace h := h.1 hc108
            exact t_L_isSo_b597 C hml hr hlocks  h H locs ls hR hS (lv_sub (l' := []) hl [] rfl)
          · replace h := h.2 hc108
            refine lv_aload_n hx hb dL_isSo_513 rfl (lv_at hl 0 rfl) ?_
            refine lv_bipush (v := 6) hx hb dL_isSo_514 (by decide) ?_
            obtain ⟨hK_x0, h⟩ := h
            refine x_ki (x_runV (As := [.int (6 : Int32)]) (rest := []) C hml hR hS (m_X6_many l gg x0 (6 : Int32) S105 h) b_X6_many q_16_15 (by rw [hK_x0]; decide) (s_E_7 hK_x0) rfl rfl rfl rfl ⟨Nat.le_of_ble_eq_true rfl, Nat.le_of_ble_eq_true rfl⟩ rfl hl.1 (Nat.le_of_ble_eq_true rfl) dL_isSo_516 ⟨Nat.le_refl _, Nat.le_refl _⟩) hS (fun x110 S109 H locs hn hR hS => ?_)
            replace h := hn
            clear hn
            refine lv_iload hx hb dL_isSo_519 (lv_at hl 6 rfl) ?_
            refine lv_icmp_ne (tgt := 597) hx hb dL_isSo_521 (by decide) (fun hc111 => ?_) (fun hc111 => ?_)
            · replace h := h.1 hc111
              exact t_L_isSo_b597 C hml hr hlocks  h H locs ls hR hS (lv_sub (l' := []) hl [] rfl)
            · replace h := h.2 hc111
              refine lv_aload_n hx hb dL_isSo_524 rfl (lv_at hl 0 rfl) ?_
              refine lv_bipush (v := 7) hx hb dL_isSo_525 (by decide) ?_
              obtain ⟨hK_x0, h⟩ := h
              refine x_ki (x_runV (As := [.int (7 : Int32)]) (rest := []) C hml hR hS (m_X6_many l gg x0 (7 : Int32) S109 h) b_X6_many q_16_15 (by rw [hK_x0]; decide) (s_E_7 hK_x0) rfl rfl rfl rfl ⟨Nat.le_of_ble_eq_true rfl, Nat.le_of_ble_eq_true rfl⟩ rfl hl.1 (Nat.le_of_ble_eq_true rfl) dL_isSo_527 ⟨Nat.le_refl _, Nat.le_refl _⟩) hS (fun x113 S112 H locs hn hR hS => ?_)
              replace h := hn
              clear hn
              refine lv_iload hx hb dL_isSo_530 (lv_at hl 8 rfl) ?_
              refine lv_icmp_ne (tgt := 597) hx hb dL_isSo_532 (by decide) (fun hc114 => ?_) (fun hc114 => ?_)
              · replace h := h.1 hc114
                exact t_L_isSo_b597 C hml hr hlocks  h H locs ls hR hS (lv_sub (l' := []) hl [] rfl)
              · replace h := h.2 hc114
                refine lv_aload_n hx hb dL_isSo_535 rfl (lv_at hl 0 rfl) ?_
                refine lv_bipush (v := 8) hx hb dL_isSo_536 (by decide) ?_
                obtain ⟨hK_x0, h⟩ := h
                refine x_ki (x_runV (As := [.int (8 : Int32)]) (rest := []) C hml hR hS (m_X6_many l gg x0 (8 : Int32) S112 h) b_X6_many q_16_15 (by rw [hK_x0]; decide) (s_E_7 hK_x0) rfl rfl rfl rfl ⟨Nat.le_of_ble_eq_true rfl, Nat.le_of_ble_eq_true rfl⟩ rfl hl.1 (Nat.le_of_ble_eq_true rfl) dL_isSo_538 ⟨Nat.le_refl _, Nat.le_refl _⟩) hS (fun x116 S115 H locs hn hR hS => ?_)
                replace h := hn
                clear hn
                refine lv_iload hx hb dL_isSo_541 (lv_at hl 7 rfl) ?_
                refine lv_icmp_ne (tgt := 597) hx hb dL_isSo_543 (by decide) (fun hc117 => ?_) (fun hc117 => ?_)
                · replace h := h.1 hc117
                  exact t_L_isSo_b597 C hml hr hlocks  h H locs ls hR hS (lv_sub (l' := []) hl [] rfl)
                · replace h := h.2 hc117
                  refine lv_iload hx hb dL_isSo_546 (lv_at hl 6 rfl) ?_
                  refine lv_bipush (v := 20) hx hb dL_isSo_548 (by decide) ?_
                  refine lv_iload_n hx hb dL_isSo_550 rfl (lv_at hl 2 rfl) ?_
                  refine lv_imul hx hb dL_isSo_551 ?_
                  refine lv_topi (fun x118 ex118 => ?_)
                  replace h := h x118 ex118
                  refine lv_isub hx hb dL_isSo_552 ?_
                  refine lv_topi (fun x119 ex119 => ?_)
                  replace h := h x119 ex119
                  refine lv_iload hx hb dL_isSo_553 (lv_at hl 3 rfl) ?_
                  refine lv_isub hx hb dL_isSo_555 ?_
                  refine lv_topi (fun x120 ex120 => ?_)
                  replace h := h x120 ex120
                  refine lv_if_gt (tgt := 597) hx hb dL_isSo_556 (by decide) (fun hc121 => ?_) (fun hc121 => ?_)
                  · replace h := h.1 hc121
                    exact t_L_isSo_b597 C hml hr hlocks  h H locs ls hR hS (lv_sub (l' := []) hl [] rfl)
                  · replace h := h.2 hc121
                    refine lv_iload hx hb dL_isSo_559 (lv_at hl 8 rfl) ?_
                    refine lv_iload hx hb dL_isSo_561 (lv_at hl 6 rfl) ?_
                    refine lv_bipush (v := 20) hx hb dL_isSo_563 (by decide) ?_
                    refine lv_iload_n hx hb dL_isSo_565 rfl (lv_at hl 2 rfl) ?_
                    refine lv_imul hx hb dL_isSo_566 ?_
                    refine lv_topi (fun x122 ex122 => ?_)
                    replace h := h x122 ex122
                    refine lv_isub hx hb dL_isSo_567 ?_
                    refine lv_topi (fun x123 ex123 => ?_)
                    replace h := h x123 ex123
                    refine lv_iload hx hb dL_isSo_568 (lv_at hl 3 rfl) ?_
                    refine lv_isub hx hb dL_isSo_570 ?_
                    refine lv_topi (fun x124 ex124 => ?_)
                    replace h := h x124 ex124
                    refine lv_ineg hx hb dL_isSo_571 ?_
                    refine lv_topi (fun x125 ex125 => ?_)
                    replace h := h x125 ex125
                    refine lv_icmp_lt (tgt := 597) hx hb dL_isSo_572 (by decide) (fun hc126 => ?_) (fun hc126 => ?_)
                    · replace h := h.1 hc126
                      exact t_L_isSo_b597 C hml hr hlocks  h H locs ls hR hS (lv_sub (l' := []) hl [] rfl)
                    · replace h := h.2 hc126
                      refine lv_aload_n hx hb dL_isSo_575 rfl (lv_at hl 0 rfl) ?_
                      refine lv_iconst (v := 2) hx hb dL_isSo_576 (by decide) ?_
                      obtain ⟨hK_x0, h⟩ := h
                      refine x_ki (x_runV (As := [.int (2 : Int32)]) (rest := []) C hml hR hS (m_X6_water l gg x0 (2 : Int32) S115 h) b_X6_water q_25_19 (by rw [hK_x0]; decide) (s_E_7 hK_x0) rfl rfl rfl rfl ⟨Nat.le_of_ble_eq_true rfl, Nat.le_of_ble_eq_true rfl⟩ rfl hl.1 (Nat.le_of_ble_eq_true rfl) dL_isSo_577 ⟨Nat.le_refl _, Nat.le_refl _⟩) hS (fun x128 S127 H locs hn hR hS => ?_)
                      replace h := hn
                      clear hn
                      refine lv_if_lt (tgt := 597) hx hb dL_isSo_580 (by decide) (fun hc129 => ?_) (fun hc129 => ?_)
                      · replace h := h.1 hc129
                        exact t_L_isSo_b597 C hml hr hlocks  h H locs ls hR hS (lv_sub (l' := []) hl [] rfl)
                      · replace h := h.2 hc129
                        refine lv_aload_n hx hb dL_isSo_583 rfl (lv_at hl 0 rfl) ?_
                        refine lv_iconst (v := 2) hx hb dL_isSo_584 (by decide) ?_
                        obtain ⟨hK_x0, h⟩ := h
                        refine x_ki (x_runV (As := [.int (2 : Int32)]) (rest := []) C hml hR hS (m_X6_water l gg x0 (2 : Int32) S127 h) b_X6_water q_25_19 (by rw [hK_x0]; decide) (s_E_7 hK_x0) rfl rfl rfl rfl ⟨Nat.le_of_ble_eq_true rfl, Nat.le_of_ble_eq_true rfl⟩ rfl hl.1 (Nat.le_of_ble_eq_true rfl) dL_isSo_585 ⟨Nat.le_refl _, Nat.le_refl _⟩) hS (fun x131 S130 H locs hn hR hS => ?_)
                        replace h := hn
                        clear hn
                        refine lv_bipush (v := 27) hx hb dL_isSo_588 (by decide) ?_
                        refine lv_icmp_ge (tgt := 597) hx hb dL_isSo_590 (by decide) (fun hc132 => ?_) (fun hc132 => ?_)
                        · replace h := h.1 hc132
                          exact t_L_isSo_b597 C hml hr hlocks  h H locs ls hR hS (lv_sub (l' := []) hl [] rfl)
                        · replace h := h.2 hc132
                          refine lv_iconst (v := 1) hx hb dL_isSo_593 (by decide) ?_
                          refine lv_goto (tgt := 598) hx hb dL_isSo_594 (by decide) ?_
                          exact t_L_isSo_b598 C hml hr hlocks  h H locs ls hR hS (lv_sub (l' := []) hl [] rfl)
    · replace h := h.2 hc101
      refine lv_aload_n hx hb dL_isSo_363 rfl (lv_at hl 0 rfl) ?_
      refine lv_iload hx hb dL_isSo_364 (lv_at hl 9 rfl) ?_
      refine lv_bipush (v := 8) hx hb dL_isSo_366 (by decide) ?_
      obtain ⟨hK_x0, h⟩ := h
      refine x_ki (x_runV (As := [.int x10, .int (8 : Int32)]) (rest := []) C hml hR hS (m_X6_ofSociety l gg x0 x10 (8 : Int32) S h) b_X6_ofSociety q_14_3 (by rw [hK_x0]; decide) (s_E_7 hK_x0) rfl rfl rfl rfl ⟨Nat.le_of_ble_eq_true rfl, Nat.le_of_ble_eq_true rfl⟩ rfl hl.1 (Nat.le_of_ble_eq_true rfl) dL_isSo_368 ⟨Nat.le_refl _, Nat.le_refl _⟩) hS (fun x134 S133 H locs hn hR hS => ?_)
      replace h := hn
      clear hn
      refine lv_istore (lv' := [(11, .int x134), (0, .ref x0), (1, .int x1), (2, .int x2), (4, .int x4), (5, .int x5), (6, .int x6), (7, .int x7), (8, .int x8), (9, .int x9), (10, .int x10)]) hx hb dL_isSo_371 hl (by decide) rfl (fun ls hl => ?_)
      refine lv_iload hx hb dL_isSo_373 (lv_at hl 9 rfl) ?_
      refine lv_aload_n hx hb dL_isSo_375 rfl (lv_at hl 1 rfl) ?_
      refine lv_iload hx hb dL_isSo_376 (lv_at hl 10 rfl) ?_
      refine lv_iconst (v := 2) hx hb dL_isSo_378 (by decide) ?_
      obtain ⟨hK_x0, h⟩ := h
      refine x_ki (x_runV (As := [.int x10, .int (2 : Int32)]) (rest := [.int x9]) C hml hR hS (m_X6_ofSociety l gg x0 x10 (2 : Int32) S133 h) b_X6_ofSociety q_14_3 (by rw [hK_x0]; decide) (s_E_7 hK_x0) rfl rfl rfl rfl ⟨Nat.le_of_ble_eq_true rfl, Nat.le_of_ble_eq_true rfl⟩ rfl hl.1 (Nat.le_of_ble_eq_true rfl) dL_isSo_379 ⟨Nat.le_refl _, Nat.le_refl _⟩) hS (fun x136 S135 H locs hn hR hS => ?_)
      replace h := hn
      clear hn
      refine lv_iadd hx hb dL_isSo_382 ?_
      refine lv_topi (fun x137 ex137 => ?_)
      replace h := h x137 ex137
      refine lv_istore (lv' := [(9, .int x137), (11, .int x134), (0, .ref x0), (1, .int x1), (2, .int x2), (4, .int x4), (5, .int x5), (6, .int x6), (7, .int x7), (8, .int x8), (10, .int x10)]) hx hb dL_isSo_383 hl (by decide) rfl (fun ls hl => ?_)
      refine lv_iload hx hb dL_isSo_385 (lv_at hl 1 rfl) ?_
      refine lv_if_lt (tgt := 424) hx hb dL_isSo_387 (by decide) (fun hc138 => ?_) (fun hc138 => ?_)
      · replace h := h.1 hc138
        exact t_L_isSo_b424 C hml hr hlocks (fun x0 x1 x2 x4 x5 x6 x7 x8 x9 x10 S h => ih x0 x1 x2 x4 x5 x6 x7 x8 x9 x10 S h) h H locs ls hR hS (lv_sub (l' := [(0, .ref x0), (1, .int x1), (2, .int x2), (4, .int x4), (5, .int x5), (6, .int x6), (7, .int x7), (8, .int x8), (9, .int x137), (10, .int x10)]) hl [2, 3, 4, 5, 6, 7, 8, 9, 0, 10] rfl)
      · replace h := h.2 hc138
        refine lv_aload_n hx hb dL_isSo_390 rfl (lv_at hl 2 rfl) ?_
        refine lv_iload hx hb dL_isSo_391 (lv_at hl 1 rfl) ?_
        refine lv_iconst (v := 0) hx hb dL_isSo_393 (by decide) ?_
        obtain ⟨hK_x0, h⟩ := h
        refine x_ki (x_runV (As := [.int x134, .int (0 : Int32)]) (rest := []) C hml hR hS (m_X6_ofField l gg x0 x134 (0 : Int32) S135 h) b_X6_ofField q_10_17 (by rw [hK_x0]; decide) (s_E_7 hK_x0) rfl rfl rfl rfl ⟨Nat.le_of_ble_eq_true rfl, Nat.le_of_ble_eq_true rfl⟩ rfl hl.1 (Nat.le_of_ble_eq_true rfl) dL_isSo_394 ⟨Nat.le_refl _, Nat.le_refl _⟩) hS (fun x140 S139 H locs hn hR hS => ?_)
        replace h := hn
        clear hn
        refine lv_iload hx hb dL_isSo_397 (lv_at hl 10 rfl) ?_
        refine lv_icmp_ne (tgt := 445) hx hb dL_isSo_399 (by decide) (fun hc141 => ?_) (fun hc141 => ?_)
        · replace h := h.1 hc141
          exact t_L_isSo_b445 C hml hr hlocks  h H locs ls hR hS (lv_sub (l' := []) hl [] rfl)
        · replace h := h.2 hc141
          refine lv_aload_n hx hb dL_isSo_402 rfl (lv_at hl 2 rfl) ?_
          refine lv_iload hx hb dL_isSo_403 (lv_at hl 1 rfl) ?_
          refine lv_bipush (v := 13) hx hb dL_isSo_405 (by decide) ?_
          obtain ⟨hK_x0, h⟩ := h
          refine x_ki (x_runV (As := [.int x134, .int (13 : Int32)]) (rest := []) C hml hR hS (m_X6_ofField l gg x0 x134 (13 : Int32) S139 h) b_X6_ofField q_10_17 (by rw [hK_x0]; decide) (s_E_7 hK_x0) rfl rfl rfl rfl ⟨Nat.le_of_ble_eq_true rfl, Nat.le_of_ble_eq_true rfl⟩ rfl hl.1 (Nat.le_of_ble_eq_true rfl) dL_isSo_407 ⟨Nat.le_refl _, Nat.le_refl _⟩) hS (fun x143 S142 H locs hn hR hS => ?_)
          replace h := hn
          clear hn
          refine lv_if_eq (tgt := 445) hx hb dL_isSo_410 (by decide) (fun hc144 => ?_) (fun hc144 => ?_)
          · replace h := h.1 hc144
            exact t_L_isSo_b445 C hml hr hlocks  h H locs ls hR hS (lv_sub (l' := []) hl [] rfl)
          · replace h := h.2 hc144
            refine lv_aload_n hx hb dL_isSo_413 rfl (lv_at hl 2 rfl) ?_
            refine lv_iload hx hb dL_isSo_414 (lv_at hl 1 rfl) ?_
            refine lv_iconst (v := 3) hx hb dL_isSo_416 (by decide) ?_
            obtain ⟨hK_x0, h⟩ := h
            refine x_ki (x_runV (As := [.int x134, .int (3 : Int32)]) (rest := []) C hml hR hS (m_X6_ofOwner l gg x0 x134 (3 : Int32) S142 h) b_X6_ofOwner q_15_15 (by rw [hK_x0]; decide) (s_E_7 hK_x0) rfl rfl rfl rfl ⟨Nat.le_of_ble_eq_true rfl, Nat.le_of_ble_eq_true rfl⟩ rfl hl.1 (Nat.le_of_ble_eq_true rfl) dL_isSo_417 ⟨Nat.le_refl _, Nat.le_refl _⟩) hS (fun x146 S145 H locs hn hR hS => ?_)
            replace h := hn
            clear hn
            refine lv_iconst (v := 1) hx hb dL_isSo_420 (by decide) ?_
            refine lv_icmp_eq (tgt := 445) hx hb dL_isSo_421 (by decide) (fun hc147 => ?_) (fun hc147 => ?_)
            · replace h := h.1 hc147
              exact t_L_isSo_b445 C hml hr hlocks  h H locs ls hR hS (lv_sub (l' := []) hl [] rfl)
            · replace h := h.2 hc147
              exact t_L_isSo_b424 C hml hr hlocks (fun x0 x1 x2 x4 x5 x6 x7 x8 x9 x10 S h => ih x0 x1 x2 x4 x5 x6 x7 x8 x9 x10 S h) h H locs ls hR hS (lv_sub (l' := [(0, .ref x0), (1, .int x1), (2, .int x2), (4, .int x4), (5, .int x5), (6, .int x6), (7, .int x7), (8, .int x8), (9, .int x137), (10, .int x10)]) hl [2, 3, 4, 5, 6, 7, 8, 9, 0, 10] rfl)
set_option maxHeartbeats 4000000 in
theorem t_L_isSo_b146 {Q : Int32 → sT → Prop} (C : x_C p s m args c cL_isSo RL gg) (hml : c.maxLocals = 13) (hr : meth.sig.returnType = (some .boolean)) (hlocks : meth.locks = false)   {S : sT}  (h : w_L_isSo_b146  S  Q) : x_X p l e r_L_isSo s m args below meth c gg 13 0 0 (MQ below (va_Qi Q (fun S1 t => s_Rep gg S1 t.heap) (s_A gg)) args s 0 0 (s_A gg)) 146 [] [] S := by
  unfold w_L_isSo_b146 at h
  obtain ⟨hx, hb, -⟩ := id C
  intro H locs ls hR hS hl
  refine lv_iconst (v := 0) hx hb dL_isSo_146 (by decide) ?_
  exact W.zret (v := (0 : Int32)) hx hb hr (by decide) (fun t ht hW => ⟨⟨(0 : Int32), S, rfl, h, x_rt ht hR⟩, hS.F ht⟩) hS.2.2 dL_isSo_147
set_option maxHeartbeats 4000000 in
theorem t_L_isSo_b279 {Q : Int32 → sT → Prop} (C : x_C p s m args c cL_isSo RL gg) (hml : c.maxLocals = 13) (hr : meth.sig.returnType = (some .boolean)) (hlocks : meth.locks = false)   {S : sT}  (h : w_L_isSo_b279  S  Q) : x_X p l e r_L_isSo s m args below meth c gg 13 0 0 (MQ below (va_Qi Q (fun S1 t => s_Rep gg S1 t.heap) (s_A gg)) args s 0 0 (s_A gg)) 279 [] [] S := by
  unfold w_L_isSo_b279 at h
  obtain ⟨hx, hb, -⟩ := id C
  intro H locs ls hR hS hl
  refine lv_iconst (v := 0) hx hb dL_isSo_279 (by decide) ?_
  exact W.zret (v := (0 : Int32)) hx hb hr (by decide) (fun t ht hW => ⟨⟨(0 : Int32), S, rfl, h, x_rt ht hR⟩, hS.F ht⟩) hS.2.2 dL_isSo_280
set_option maxHeartbeats 4000000 in
theorem t_L_isSo_b343 {Q : Int32 → sT → Prop} (C : x_C p s m args c cL_isSo RL gg) (hml : c.maxLocals = 13) (hr : meth.sig.returnType = (some .boolean)) (hlocks : meth.locks = false)   {S : sT}  (h : w_L_isSo_b343  S  Q) : x_X p l e r_L_isSo s m args below meth c gg 13 0 0 (MQ below (va_Qi Q (fun S1 t => s_Rep gg S1 t.heap) (s_A gg)) args s 0 0 (s_A gg)) 343 [] [] S := by
  unfold w_L_isSo_b343 at h
  obtain ⟨hx, hb, -⟩ := id C
  intro H locs ls hR hS hl
  refine lv_iconst (v := 0) hx hb dL_isSo_343 (by decide) ?_
  exact W.zret (v := (0 : Int32)) hx hb hr (by decide) (fun t ht hW => ⟨⟨(0 : Int32), S, rfl, h, x_rt ht hR⟩, hS.F ht⟩) hS.2.2 dL_isSo_344
set_option maxHeartbeats 4000000 in
theorem t_L_isSo_b340 {Q : Int32 → sT → Prop} (C : x_C p s m args c cL_isSo RL gg) (hml : c.maxLocals = 13) (hr : meth.sig.returnType = (some .boolean)) (hlocks : meth.locks = false) {x0 : Nat} {x1 : Int32} {x2 : Int32} {x3 : Nat} {x4 : Int32} {x5 : Int32} {x6 : Int32} {x7 : Int32} {x8 : Int32} {x9 : Int32} {y0 : Int32} {y1 : Int32} {kk15 : Nat → Int32 → Int32 → Nat → Int32 → Int32 → Int32 → Int32 → Int32 → Int32 → sT → Prop} {S : sT} (hk15 : ∀ (x0 : Nat) (x1 : Int32) (x2 : Int32) (x3 : Nat) (x4 : Int32) (x5 : Int32) (x6 : Int32) (x7 : Int32) (x8 : Int32) (x9 : Int32) (S : sT), kk15 x0 x1 x2 x3 x4 x5 x6 x7 x8 x9 S → x_X p l e r_L_isSo s m args below meth c gg 13 0 0 (MQ below (va_Qi Q (fun S1 t => s_Rep gg S1 t.heap) (s_A gg)) args s 0 0 (s_A gg)) 15 [(0, .ref x0), (1, .int x1), (2, .int x2), (3, .ref x3), (4, .int x4), (5, .int x5), (6, .int x6), (7, .int x7), (8, .int x8), (9, .int x9)] [] S) (h : w_L_isSo_b340 x0 x1 x2 x3 x4 x5 x6 x7 x8 x9 y0 y1 S kk15 Q) : x_X p l e r_L_isSo s m args below meth c gg 13 0 0 (MQ below (va_Qi Q (fun S1 t => s_Rep gg S1 t.heap) (s_A gg)) args s 0 0 (s_A gg)) 340 [(0, .ref x0), (1, .int x1), (2, .int x2), (3, .ref x3), (4, .int x4), (5, .int x5), (6, .int x6), (7, .int x7), (8, .int x8), (9, .int x9)] [.int y0, .int y1] S := by
  unfold w_L_isSo_b340 at h
  obtain ⟨hx, hb, -⟩ := id C
  intro H locs ls hR hS hl
  refine lv_icmp_eq (tgt := 345) hx hb dL_isSo_340 (by decide) (fun hc101 => ?_) (fun hc101 => ?_)
  · replace h := h.1 hc101
    obtain ⟨x102, ex102⟩ : ∃ z : Int32, z = x9 + 1 := ⟨_, rfl⟩
    replace h := h x102 ex102
    refine lv_iinc (v := x102) (lv' := [(9, .int x102), (0, .ref x0), (1, .int x1), (2, .int x2), (3, .ref x3), (4, .int x4), (5, .int x5), (6, .int x6), (7, .int x7), (8, .int x8)]) hx hb dL_isSo_345 hl (k := 9) rfl (by rw [ex102]; rfl) (by decide) rfl (fun ls hl => ?_)
    refine lv_goto (tgt := 15) hx hb dL_isSo_348 (by decide) ?_
    exact hk15 x0 x1 x2 x3 x4 x5 x6 x7 x8 x102 S h H locs ls hR hS (lv_sub (l' := [(0, .ref x0), (1, .int x1), (2, .int x2), (3, .ref x3), (4, .int x4), (5, .int x5), (6, .int x6), (7, .int x7), (8, .int x8), (9, .int x102)]) hl [1, 2, 3, 4, 5, 6, 7, 8, 9, 0] rfl)
  · replace h := h.2 hc101
    exact t_L_isSo_b343 C hml hr hlocks  h H locs ls hR hS (lv_sub (l' := []) hl [] rfl)
set_option maxHeartbeats 4000000 in
theorem t_L_isSo_b324 {Q : Int32 → sT → Prop} (C : x_C p s m args c cL_isSo RL gg) (hml : c.maxLocals = 13) (hr : meth.sig.returnType = (some .boolean)) (hlocks : meth.locks = false) {x0 : Nat} {x1 : Int32} {x2 : Int32} {x3 : Nat} {x4 : Int32} {x5 : Int32} {x6 : Int32} {x7 : Int32} {x8 : Int32} {x9 : Int32} {y0 : Int32} {kk15 : Nat → Int32 → Int32 → Nat → Int32 → Int32 → Int32 → Int32 → Int32 → Int32 → sT → Prop} {S : sT} (hk15 : ∀ (x0 : Nat) (x1 : Int32) (x2 : Int32) (x3 : Nat) (x4 : Int32) (x5 : Int32) (x6 : Int32) (x7 : Int32) (x8 : Int32) (x9 : Int32) (S : sT), kk15 x0 x1 x2 x3 x4 x5 x6 x7 x8 x9 S → x_X p l e r_L_isSo s m args below meth c gg 13 0 0 (MQ below (va_Qi Q (fun S1 t => s_Rep gg S1 t.heap) (s_A gg)) args s 0 0 (s_A gg)) 15 [(0, .ref x0), (1, .int x1), (2, .int x2), (3, .ref x3), (4, .int x4), (5, .int x5), (6, .int x6), (7, .int x7), (8, .int x8), (9, .int x9)] [] S) (h : w_L_isSo_b324 x0 x1 x2 x3 x4 x5 x6 x7 x8 x9 y0 S kk15 Q) : x_X p l e r_L_isSo s m args below meth c gg 13 0 0 (MQ below (va_Qi Q (fun S1 t => s_Rep gg S1 t.heap) (s_A gg)) args s 0 0 (s_A gg)) 324 [(0, .ref x0), (1, .int x1), (2, .int x2), (3, .ref x3), (4, .int x4), (5, .int x5), (6, .int x6), (7, .int x7), (8, .int x8), (9, .int x9)] [.int y0] S := by
  unfold w_L_isSo_b324 at h
  obtain ⟨hx, hb, -⟩ := id C
  intro H locs ls hR hS hl
  refine lv_aload_n hx hb dL_isSo_324 rfl (lv_at hl 0 rfl) ?_
  refine lv_iload hx hb dL_isSo_325 (lv_at hl 9 rfl) ?_
  refine lv_iconst (v := 3) hx hb dL_isSo_327 (by decide) ?_
  obtain ⟨hK_x0, h⟩ := h
  refine x_ki (x_runV (As := [.int x9, .int (3 : Int32)]) (rest := [.int y0]) C hml hR hS (m_X6_ofOwner l gg x0 x9 (3 : Int32) S h) b_X6_ofOwner q_15_15 (by rw [hK_x0]; decide) (s_E_7 hK_x0) rfl rfl rfl rfl ⟨Nat.le_of_ble_eq_true rfl, Nat.le_of_ble_eq_true rfl⟩ rfl hl.1 (Nat.le_of_ble_eq_true rfl) dL_isSo_328 ⟨Nat.le_refl _, Nat.le_refl _⟩) hS (fun x102 S101 H locs hn hR hS => ?_)
  replace h := hn
  clear hn
  refine lv_iconst (v := 1) hx hb dL_isSo_331 (by decide) ?_
  refine lv_icmp_ne (tgt := 339) hx hb dL_isSo_332 (by decide) (fun hc103 => ?_) (fun hc103 => ?_)
  · replace h := h.1 hc103
    refine lv_iconst (v := 0) hx hb dL_isSo_339 (by decide) ?_
    exact t_L_isSo_b340 C hml hr hlocks hk15 h H locs ls hR hS (lv_sub (l' := [(0, .ref x0), (1, .int x1), (2, .int x2), (3, .ref x3), (4, .int x4), (5, .int x5), (6, .int x6), (7, .int x7), (8, .int x8), (9, .int x9)]) hl [0, 1, 2, 3, 4, 5, 6, 7, 8, 9] rfl)
  · replace h := h.2 hc103
    refine lv_iconst (v := 1) hx hb dL_isSo_335 (by decide) ?_
    refine lv_goto (tgt := 340) hx hb dL_isSo_336 (by decide) ?_
    exact t_L_isSo_b340 C hml hr hlocks hk15 h H locs ls hR hS (lv_sub (l' := [(0, .ref x0), (1, .int x1), (2, .int x2), (3, .ref x3), (4, .int x4), (5, .int x5), (6, .int x6), (7, .int x7), (8, .int x8), (9, .int x9)]) hl [0, 1, 2, 3, 4, 5, 6, 7, 8, 9] rfl)
set_option maxHeartbeats 4000000 in
theorem t_L_isSo_b266 {Q : Int32 → sT → Prop} (C : x_C p s m args c cL_isSo RL gg) (hml : c.maxLocals = 13) (hr : meth.sig.returnType = (some .boolean)) (hlocks : meth.locks = false) {x0 : Nat} {x1 : Int32} {x2 : Int32} {x3 : Nat} {x4 : Int32} {x5 : Int32} {x6 : Int32} {x7 : Int32} {x8 : Int32} {x9 : Int32} {kk15 : Nat → Int32 → Int32 → Nat → Int32 → Int32 → Int32 → Int32 → Int32 → Int32 → sT → Prop} {S : sT} (hk15 : ∀ (x0 : Nat) (x1 : Int32) (x2 : Int32) (x3 : Nat) (x4 : Int32) (x5 : Int32) (x6 : Int32) (x7 : Int32) (x8 : Int32) (x9 : Int32) (S : sT), kk15 x0 x1 x2 x3 x4 x5 x6 x7 x8 x9 S → x_X p l e r_L_isSo s m args below meth c gg 13 0 0 (MQ below (va_Qi Q (fun S1 t => s_Rep gg S1 t.heap) (s_A gg)) args s 0 0 (s_A gg)) 15 [(0, .ref x0), (1, .int x1), (2, .int x2), (3, .ref x3), (4, .int x4), (5, .int x5), (6, .int x6), (7, .int x7), (8, .int x8), (9, .int x9)] [] S) (h : w_L_isSo_b266 x0 x1 x2 x3 x4 x5 x6 x7 x8 x9 S kk15 Q) : x_X p l e r_L_isSo s m args below meth c gg 13 0 0 (MQ below (va_Qi Q (fun S1 t => s_Rep gg S1 t.heap) (s_A gg)) args s 0 0 (s_A gg)) 266 [(0, .ref x0), (1, .int x1), (2, .int x2), (3, .ref x3), (4, .int x4), (5, .int x5), (6, .int x6), (7, .int x7), (8, .int x8), (9, .int x9)] [] S := by
  unfold w_L_isSo_b266 at h
  obtain ⟨hx, hb, -⟩ := id C
  intro H locs ls hR hS hl
  refine lv_aload_n hx hb dL_isSo_266 rfl (lv_at hl 0 rfl) ?_
  refine lv_iload hx hb dL_isSo_267 (lv_at hl 9 rfl) ?_
  refine lv_bipush (v := 10) hx hb dL_isSo_269 (by decide) ?_
  obtain ⟨hK_x0, h⟩ := h
  refine x_ki (x_runV (As := [.int x9, .int (10 : Int32)]) (rest := []) C hml hR hS (m_X6_ofField l gg x0 x9 (10 : Int32) S h) b_X6_ofField q_10_17 (by rw [hK_x0]; decide) (s_E_7 hK_x0) rfl rfl rfl rfl ⟨Nat.le_of_ble_eq_true rfl, Nat.le_of_ble_eq_true rfl⟩ rfl hl.1 (Nat.le_of_ble_eq_true rfl) dL_isSo_271 ⟨Nat.le_refl _, Nat.le_refl _⟩) hS (fun x102 S101 H locs hn hR hS => ?_)
  replace h := hn
  clear hn
  refine lv_bipush (v := 80) hx hb dL_isSo_274 (by decide) ?_
  refine lv_icmp_le (tgt := 281) hx hb dL_isSo_276 (by decide) (fun hc103 => ?_) (fun hc103 => ?_)
  · replace h := h.1 hc103
    refine lv_aload_n hx hb dL_isSo_281 rfl (lv_at hl 0 rfl) ?_
    refine lv_iload hx hb dL_isSo_282 (lv_at hl 9 rfl) ?_
    refine lv_iconst (v := 0) hx hb dL_isSo_284 (by decide) ?_
    obtain ⟨hK_x0, h⟩ := h
    refine x_ki (x_runV (As := [.int x9, .int (0 : Int32)]) (rest := []) C hml hR hS (m_X6_thought l gg x0 x9 (0 : Int32) S101 h) b_X6_thought q_19_2 (by rw [hK_x0]; decide) (s_E_7 hK_x0) rfl rfl rfl rfl ⟨Nat.le_of_ble_eq_true rfl, Nat.le_of_ble_eq_true rfl⟩ rfl hl.1 (Nat.le_of_ble_eq_true rfl) dL_isSo_285 ⟨Nat.le_refl _, Nat.le_refl _⟩) hS (fun x105 S104 H locs hn hR hS => ?_)
    replace h := hn
    clear hn
    refine lv_aload_n hx hb dL_isSo_288 rfl (lv_at hl 0 rfl) ?_
    refine lv_iload hx hb dL_isSo_289 (lv_at hl 9 rfl) ?_
    refine lv_iconst (v := 1) hx hb dL_isSo_291 (by decide) ?_
    obtain ⟨hK_x0, h⟩ := h
    refine x_ki (x_runV (As := [.int x9, .int (1 : Int32)]) (rest := [.int x105]) C hml hR hS (m_X6_thought l gg x0 x9 (1 : Int32) S104 h) b_X6_thought q_19_2 (by rw [hK_x0]; decide) (s_E_7 hK_x0) rfl rfl rfl rfl ⟨Nat.le_of_ble_eq_true rfl, Nat.le_of_ble_eq_true rfl⟩ rfl hl.1 (Nat.le_of_ble_eq_true rfl) dL_isSo_292 ⟨Nat.le_refl _, Nat.le_refl _⟩) hS (fun x107 S106 H locs hn hR hS => ?_)
    replace h := hn
    clear hn
    refine lv_icmp_gt (tgt := 343) hx hb dL_isSo_295 (by decide) (fun hc108 => ?_) (fun hc108 => ?_)
    · replace h := h.1 hc108
      exact t_L_isSo_b343 C hml hr hlocks  h H locs ls hR hS (lv_sub (l' := []) hl [] rfl)
    · replace h := h.2 hc108
      refine lv_aload_n hx hb dL_isSo_298 rfl (lv_at hl 0 rfl) ?_
      refine lv_iload hx hb dL_isSo_299 (lv_at hl 9 rfl) ?_
      refine lv_bipush (v := 12) hx hb dL_isSo_301 (by decide) ?_
      obtain ⟨hK_x0, h⟩ := h
      refine x_ki (x_runV (As := [.int x9, .int (12 : Int32)]) (rest := []) C hml hR hS (m_X6_ofField l gg x0 x9 (12 : Int32) S106 h) b_X6_ofField q_10_17 (by rw [hK_x0]; decide) (s_E_7 hK_x0) rfl rfl rfl rfl ⟨Nat.le_of_ble_eq_true rfl, Nat.le_of_ble_eq_true rfl⟩ rfl hl.1 (Nat.le_of_ble_eq_true rfl) dL_isSo_303 ⟨Nat.le_refl _, Nat.le_refl _⟩) hS (fun x110 S109 H locs hn hR hS => ?_)
      replace h := hn
      clear hn
      refine lv_if_lt (tgt := 343) hx hb dL_isSo_306 (by decide) (fun hc111 => ?_) (fun hc111 => ?_)
      · replace h := h.1 hc111
        exact t_L_isSo_b343 C hml hr hlocks  h H locs ls hR hS (lv_sub (l' := []) hl [] rfl)
      · replace h := h.2 hc111
        refine lv_aload_n hx hb dL_isSo_309 rfl (lv_at hl 0 rfl) ?_
        refine lv_iload hx hb dL_isSo_310 (lv_at hl 9 rfl) ?_
        refine lv_iconst (v := 0) hx hb dL_isSo_312 (by decide) ?_
        obtain ⟨hK_x0, h⟩ := h
        refine x_ki (x_runV (As := [.int x9, .int (0 : Int32)]) (rest := []) C hml hR hS (m_X6_ofOwner l gg x0 x9 (0 : Int32) S109 h) b_X6_ofOwner q_15_15 (by rw [hK_x0]; decide) (s_E_7 hK_x0) rfl rfl rfl rfl ⟨Nat.le_of_ble_eq_true rfl, Nat.le_of_ble_eq_true rfl⟩ rfl hl.1 (Nat.le_of_ble_eq_true rfl) dL_isSo_313 ⟨Nat.le_refl _, Nat.le_refl _⟩) hS (fun x113 S112 H locs hn hR hS => ?_)
        replace h := hn
        clear hn
        refine lv_if_ge (tgt := 323) hx hb dL_isSo_316 (by decide) (fun hc114 => ?_) (fun hc114 => ?_)
        · replace h := h.1 hc114
          refine lv_iconst (v := 0) hx hb dL_isSo_323 (by decide) ?_
          exact t_L_isSo_b324 C hml hr hlocks hk15 h H locs ls hR hS (lv_sub (l' := [(0, .ref x0), (1, .int x1), (2, .int x2), (3, .ref x3), (4, .int x4), (5, .int x5), (6, .int x6), (7, .int x7), (8, .int x8), (9, .int x9)]) hl [0, 1, 2, 3, 4, 5, 6, 7, 8, 9] rfl)
        · replace h := h.2 hc114
          refine lv_iconst (v := 1) hx hb dL_isSo_319 (by decide) ?_
          refine lv_goto (tgt := 324) hx hb dL_isSo_320 (by decide) ?_
          exact t_L_isSo_b324 C hml hr hlocks hk15 h H locs ls hR hS (lv_sub (l' := [(0, .ref x0), (1, .int x1), (2, .int x2), (3, .ref x3), (4, .int x4), (5, .int x5), (6, .int x6), (7, .int x7), (8, .int x8), (9, .int x9)]) hl [0, 1, 2, 3, 4, 5, 6, 7, 8, 9] rfl)
  · replace h := h.2 hc103
    exact t_L_isSo_b279 C hml hr hlocks  h H locs ls hR hS (lv_sub (l' := []) hl [] rfl)
set_option maxHeartbeats 4000000 in
theorem t_L_isSo_b246 {Q : Int32 → sT → Prop} (C : x_C p s m args c cL_isSo RL gg) (hml : c.maxLocals = 13) (hr : meth.sig.returnType = (some .boolean)) (hlocks : meth.locks = false) {x0 : Nat} {x1 : Int32} {x2 : Int32} {x3 : Nat} {x4 : Int32} {x5 : Int32} {x6 : Int32} {x7 : Int32} {x8 : Int32} {x9 : Int32} {x10 : Int32} {y0 : Int32} {y1 : Int32} {kk15 : Nat → Int32 → Int32 → Nat → Int32 → Int32 → Int32 → Int32 → Int32 → Int32 → sT → Prop} {S : sT} (hk15 : ∀ (x0 : Nat) (x1 : Int32) (x2 : Int32) (x3 : Nat) (x4 : Int32) (x5 : Int32) (x6 : Int32) (x7 : Int32) (x8 : Int32) (x9 : Int32) (S : sT), kk15 x0 x1 x2 x3 x4 x5 x6 x7 x8 x9 S → x_X p l e r_L_isSo s m args below meth c gg 13 0 0 (MQ below (va_Qi Q (fun S1 t => s_Rep gg S1 t.heap) (s_A gg)) args s 0 0 (s_A gg)) 15 [(0, .ref x0), (1, .int x1), (2, .int x2), (3, .ref x3), (4, .int x4), (5, .int x5), (6, .int x6), (7, .int x7), (8, .int x8), (9, .int x9)] [] S) (h : w_L_isSo_b246 x0 x1 x2 x3 x4 x5 x6 x7 x8 x9 x10 y0 y1 S kk15 Q) : x_X p l e r_L_isSo s m args below meth c gg 13 0 0 (MQ below (va_Qi Q (fun S1 t => s_Rep gg S1 t.heap) (s_A gg)) args s 0 0 (s_A gg)) 246 [(0, .ref x0), (1, .int x1), (2, .int x2), (3, .ref x3), (4, .int x4), (5, .int x5), (6, .int x6), (7, .int x7), (8, .int x8), (9, .int x9), (10, .int x10)] [.int y0, .int y1] S := by
  unfold w_L_isSo_b246 at h
  obtain ⟨hx, hb, -⟩ := id C
  intro H locs ls hR hS hl
  refine lv_icmp_ne (tgt := 279) hx hb dL_isSo_246 (by decide) (fun hc101 => ?_) (fun hc101 => ?_)
  · replace h := h.1 hc101
    exact t_L_isSo_b279 C hml hr hlocks  h H locs ls hR hS (lv_sub (l' := []) hl [] rfl)
  · replace h := h.2 hc101
    refine lv_iload hx hb dL_isSo_249 (lv_at hl 10 rfl) ?_
    refine lv_iconst (v := 5) hx hb dL_isSo_251 (by decide) ?_
    refine lv_icmp_ge (tgt := 266) hx hb dL_isSo_252 (by decide) (fun hc102 => ?_) (fun hc102 => ?_)
    · replace h := h.1 hc102
      exact t_L_isSo_b266 C hml hr hlocks hk15 h H locs ls hR hS (lv_sub (l' := [(0, .ref x0), (1, .int x1), (2, .int x2), (3, .ref x3), (4, .int x4), (5, .int x5), (6, .int x6), (7, .int x7), (8, .int x8), (9, .int x9)]) hl [0, 1, 2, 3, 4, 5, 6, 7, 8, 9] rfl)
    · replace h := h.2 hc102
      refine lv_aload_n hx hb dL_isSo_255 rfl (lv_at hl 0 rfl) ?_
      refine lv_iload hx hb dL_isSo_256 (lv_at hl 9 rfl) ?_
      refine lv_bipush (v := 10) hx hb dL_isSo_258 (by decide) ?_
      obtain ⟨hK_x0, h⟩ := h
      refine x_ki (x_runV (As := [.int x9, .int (10 : Int32)]) (rest := []) C hml hR hS (m_X6_ofField l gg x0 x9 (10 : Int32) S h) b_X6_ofField q_10_17 (by rw [hK_x0]; decide) (s_E_7 hK_x0) rfl rfl rfl rfl ⟨Nat.le_of_ble_eq_true rfl, Nat.le_of_ble_eq_true rfl⟩ rfl hl.1 (Nat.le_of_ble_eq_true rfl) dL_isSo_260 ⟨Nat.le_refl _, Nat.le_refl _⟩) hS (fun x104 S103 H locs hn hR hS => ?_)
      replace h := hn
      clear hn
      refine lv_if_ne (tgt := 279) hx hb dL_isSo_263 (by decide) (fun hc105 => ?_) (fun hc105 => ?_)
      · replace h := h.1 hc105
        exact t_L_isSo_b279 C hml hr hlocks  h H locs ls hR hS (lv_sub (l' := []) hl [] rfl)
      · replace h := h.2 hc105
        exact t_L_isSo_b266 C hml hr hlocks hk15 h H locs ls hR hS (lv_sub (l' := [(0, .ref x0), (1, .int x1), (2, .int x2), (3, .ref x3), (4, .int x4), (5, .int x5), (6, .int x6), (7, .int x7), (8, .int x8), (9, .int x9)]) hl [0, 1, 2, 3, 4, 5, 6, 7, 8, 9] rfl)
set_option maxHeartbeats 4000000 in
theorem t_L_isSo_b235 {Q : Int32 → sT → Prop} (C : x_C p s m args c cL_isSo RL gg) (hml : c.maxLocals = 13) (hr : meth.sig.returnType = (some .boolean)) (hlocks : meth.locks = false) {x0 : Nat} {x1 : Int32} {x2 : Int32} {x3 : Nat} {x4 : Int32} {x5 : Int32} {x6 : Int32} {x7 : Int32} {x8 : Int32} {x9 : Int32} {x10 : Int32} {y0 : Int32} {kk15 : Nat → Int32 → Int32 → Nat → Int32 → Int32 → Int32 → Int32 → Int32 → Int32 → sT → Prop} {S : sT} (hk15 : ∀ (x0 : Nat) (x1 : Int32) (x2 : Int32) (x3 : Nat) (x4 : Int32) (x5 : Int32) (x6 : Int32) (x7 : Int32) (x8 : Int32) (x9 : Int32) (S : sT), kk15 x0 x1 x2 x3 x4 x5 x6 x7 x8 x9 S → x_X p l e r_L_isSo s m args below meth c gg 13 0 0 (MQ below (va_Qi Q (fun S1 t => s_Rep gg S1 t.heap) (s_A gg)) args s 0 0 (s_A gg)) 15 [(0, .ref x0), (1, .int x1), (2, .int x2), (3, .ref x3), (4, .int x4), (5, .int x5), (6, .int x6), (7, .int x7), (8, .int x8), (9, .int x9)] [] S) (h : w_L_isSo_b235 x0 x1 x2 x3 x4 x5 x6 x7 x8 x9 x10 y0 S kk15 Q) : x_X p l e r_L_isSo s m args below meth c gg 13 0 0 (MQ below (va_Qi Q (fun S1 t => s_Rep gg S1 t.heap) (s_A gg)) args s 0 0 (s_A gg)) 235 [(0, .ref x0), (1, .int x1), (2, .int x2), (3, .ref x3), (4, .int x4), (5, .int x5), (6, .int x6), (7, .int x7), (8, .int x8), (9, .int x9), (10, .int x10)] [.int y0] S := by
  unfold w_L_isSo_b235 at h
  obtain ⟨hx, hb, -⟩ := id C
  intro H locs ls hR hS hl
  refine lv_iload hx hb dL_isSo_235 (lv_at hl 10 rfl) ?_
  refine lv_iconst (v := 2) hx hb dL_isSo_237 (by decide) ?_
  refine lv_icmp_ge (tgt := 245) hx hb dL_isSo_238 (by decide) (fun hc101 => ?_) (fun hc101 => ?_)
  · replace h := h.1 hc101
    refine lv_iconst (v := 0) hx hb dL_isSo_245 (by decide) ?_
    exact t_L_isSo_b246 C hml hr hlocks hk15 h H locs ls hR hS (lv_sub (l' := [(0, .ref x0), (1, .int x1), (2, .int x2), (3, .ref x3), (4, .int x4), (5, .int x5), (6, .int x6), (7, .int x7), (8, .int x8), (9, .int x9), (10, .int x10)]) hl [0, 1, 2, 3, 4, 5, 6, 7, 8, 9, 10] rfl)
  · replace h := h.2 hc101
    refine lv_iconst (v := 1) hx hb dL_isSo_241 (by decide) ?_
    refine lv_goto (tgt := 246) hx hb dL_isSo_242 (by decide) ?_
    exact t_L_isSo_b246 C hml hr hlocks hk15 h H locs ls hR hS (lv_sub (l' := [(0, .ref x0), (1, .int x1), (2, .int x2), (3, .ref x3), (4, .int x4), (5, .int x5), (6, .int x6), (7, .int x7), (8, .int x8), (9, .int x9), (10, .int x10)]) hl [0, 1, 2, 3, 4, 5, 6, 7, 8, 9, 10] rfl)
set_option maxHeartbeats 4000000 in
theorem t_L_isSo_b140 {Q : Int32 → sT → Prop} (C : x_C p s m args c cL_isSo RL gg) (hml : c.maxLocals = 13) (hr : meth.sig.returnType = (some .boolean)) (hlocks : meth.locks = false) {x0 : Nat} {x1 : Int32} {x2 : Int32} {x3 : Nat} {x4 : Int32} {x5 : Int32} {x6 : Int32} {x7 : Int32} {x8 : Int32} {x9 : Int32} {x10 : Int32} {kk15 : Nat → Int32 → Int32 → Nat → Int32 → Int32 → Int32 → Int32 → Int32 → Int32 → sT → Prop} {S : sT} (hk15 : ∀ (x0 : Nat) (x1 : Int32) (x2 : Int32) (x3 : Nat) (x4 : Int32) (x5 : Int32) (x6 : Int32) (x7 : Int32) (x8 : Int32) (x9 : Int32) (S : sT), kk15 x0 x1 x2 x3 x4 x5 x6 x7 x8 x9 S → x_X p l e r_L_isSo s m args below meth c gg 13 0 0 (MQ below (va_Qi Q (fun S1 t => s_Rep gg S1 t.heap) (s_A gg)) args s 0 0 (s_A gg)) 15 [(0, .ref x0), (1, .int x1), (2, .int x2), (3, .ref x3), (4, .int x4), (5, .int x5), (6, .int x6), (7, .int x7), (8, .int x8), (9, .int x9)] [] S) (h : w_L_isSo_b140 x0 x1 x2 x3 x4 x5 x6 x7 x8 x9 x10 S kk15 Q) : x_X p l e r_L_isSo s m args below meth c gg 13 0 0 (MQ below (va_Qi Q (fun S1 t => s_Rep gg S1 t.heap) (s_A gg)) args s 0 0 (s_A gg)) 140 [(0, .ref x0), (1, .int x1), (2, .int x2), (3, .ref x3), (4, .int x4), (5, .int x5), (6, .int x6), (7, .int x7), (8, .int x8), (9, .int x9), (10, .int x10)] [] S := by
  unfold w_L_isSo_b140 at h
  obtain ⟨hx, hb, -⟩ := id C
  intro H locs ls hR hS hl
  refine lv_iload hx hb dL_isSo_140 (lv_at hl 10 rfl) ?_
  refine lv_iconst (v := 5) hx hb dL_isSo_142 (by decide) ?_
  refine lv_icmp_le (tgt := 148) hx hb dL_isSo_143 (by decide) (fun hc101 => ?_) (fun hc101 => ?_)
  · replace h := h.1 hc101
    refine lv_aload_n hx hb dL_isSo_148 rfl (lv_at hl 0 rfl) ?_
    refine lv_iload hx hb dL_isSo_149 (lv_at hl 9 rfl) ?_
    refine lv_bipush (v := 7) hx hb dL_isSo_151 (by decide) ?_
    obtain ⟨hK_x0, h⟩ := h
    refine x_ki (x_runV (As := [.int x9, .int (7 : Int32)]) (rest := []) C hml hR hS (m_X6_ofField l gg x0 x9 (7 : Int32) S h) b_X6_ofField q_10_17 (by rw [hK_x0]; decide) (s_E_7 hK_x0) rfl rfl rfl rfl ⟨Nat.le_of_ble_eq_true rfl, Nat.le_of_ble_eq_true rfl⟩ rfl hl.1 (Nat.le_of_ble_eq_true rfl) dL_isSo_153 ⟨Nat.le_refl _, Nat.le_refl _⟩) hS (fun x103 S102 H locs hn hR hS => ?_)
    replace h := hn
    clear hn
    refine lv_if_lt (tgt := 279) hx hb dL_isSo_156 (by decide) (fun hc104 => ?_) (fun hc104 => ?_)
    · replace h := h.1 hc104
      exact t_L_isSo_b279 C hml hr hlocks  h H locs ls hR hS (lv_sub (l' := []) hl [] rfl)
    · replace h := h.2 hc104
      refine lv_aload_n hx hb dL_isSo_159 rfl (lv_at hl 0 rfl) ?_
      refine lv_iload hx hb dL_isSo_160 (lv_at hl 9 rfl) ?_
      refine lv_bipush (v := 7) hx hb dL_isSo_162 (by decide) ?_
      obtain ⟨hK_x0, h⟩ := h
      refine x_ki (x_runV (As := [.int x9, .int (7 : Int32)]) (rest := []) C hml hR hS (m_X6_ofField l gg x0 x9 (7 : Int32) S102 h) b_X6_ofField q_10_17 (by rw [hK_x0]; decide) (s_E_7 hK_x0) rfl rfl rfl rfl ⟨Nat.le_of_ble_eq_true rfl, Nat.le_of_ble_eq_true rfl⟩ rfl hl.1 (Nat.le_of_ble_eq_true rfl) dL_isSo_164 ⟨Nat.le_refl _, Nat.le_refl _⟩) hS (fun x106 S105 H locs hn hR hS => ?_)
      replace h := hn
      clear hn
      refine lv_bipush (v := 100) hx hb dL_isSo_167 (by decide) ?_
      refine lv_icmp_gt (tgt := 279) hx hb dL_isSo_169 (by decide) (fun hc107 => ?_) (fun hc107 => ?_)
      · replace h := h.1 hc107
        exact t_L_isSo_b279 C hml hr hlocks  h H locs ls hR hS (lv_sub (l' := []) hl [] rfl)
      · replace h := h.2 hc107
        refine lv_aload_n hx hb dL_isSo_172 rfl (lv_at hl 0 rfl) ?_
        refine lv_iload hx hb dL_isSo_173 (lv_at hl 9 rfl) ?_
        refine lv_bipush (v := 8) hx hb dL_isSo_175 (by decide) ?_
        obtain ⟨hK_x0, h⟩ := h
        refine x_ki (x_runV (As := [.int x9, .int (8 : Int32)]) (rest := []) C hml hR hS (m_X6_ofField l gg x0 x9 (8 : Int32) S105 h) b_X6_ofField q_10_17 (by rw [hK_x0]; decide) (s_E_7 hK_x0) rfl rfl rfl rfl ⟨Nat.le_of_ble_eq_true rfl, Nat.le_of_ble_eq_true rfl⟩ rfl hl.1 (Nat.le_of_ble_eq_true rfl) dL_isSo_177 ⟨Nat.le_refl _, Nat.le_refl _⟩) hS (fun x109 S108 H locs hn hR hS => ?_)
        replace h := hn
        clear hn
        refine lv_if_lt (tgt := 279) hx hb dL_isSo_180 (by decide) (fun hc110 => ?_) (fun hc110 => ?_)
        · replace h := h.1 hc110
          exact t_L_isSo_b279 C hml hr hlocks  h H locs ls hR hS (lv_sub (l' := []) hl [] rfl)
        · replace h := h.2 hc110
          refine lv_aload_n hx hb dL_isSo_183 rfl (lv_at hl 0 rfl) ?_
          refine lv_iload hx hb dL_isSo_184 (lv_at hl 9 rfl) ?_
          refine lv_bipush (v := 8) hx hb dL_isSo_186 (by decide) ?_
          obtain ⟨hK_x0, h⟩ := h
          refine x_ki (x_runV (As := [.int x9, .int (8 : Int32)]) (rest := []) C hml hR hS (m_X6_ofField l gg x0 x9 (8 : Int32) S108 h) b_X6_ofField q_10_17 (by rw [hK_x0]; decide) (s_E_7 hK_x0) rfl rfl rfl rfl ⟨Nat.le_of_ble_eq_true rfl, Nat.le_of_ble_eq_true rfl⟩ rfl hl.1 (Nat.le_of_ble_eq_true rfl) dL_isSo_188 ⟨Nat.le_refl _, Nat.le_refl _⟩) hS (fun x112 S111 H locs hn hR hS => ?_)
          replace h := hn
          clear hn
          refine lv_bipush (v := 99) hx hb dL_isSo_191 (by decide) ?_
          refine lv_icmp_gt (tgt := 279) hx hb dL_isSo_193 (by decide) (fun hc113 => ?_) (fun hc113 => ?_)
          · replace h := h.1 hc113
            exact t_L_isSo_b279 C hml hr hlocks  h H locs ls hR hS (lv_sub (l' := []) hl [] rfl)
          · replace h := h.2 hc113
            refine lv_aload_n hx hb dL_isSo_196 rfl (lv_at hl 0 rfl) ?_
            refine lv_iload hx hb dL_isSo_197 (lv_at hl 9 rfl) ?_
            refine lv_bipush (v := 9) hx hb dL_isSo_199 (by decide) ?_
            obtain ⟨hK_x0, h⟩ := h
            refine x_ki (x_runV (As := [.int x9, .int (9 : Int32)]) (rest := []) C hml hR hS (m_X6_ofField l gg x0 x9 (9 : Int32) S111 h) b_X6_ofField q_10_17 (by rw [hK_x0]; decide) (s_E_7 hK_x0) rfl rfl rfl rfl ⟨Nat.le_of_ble_eq_true rfl, Nat.le_of_ble_eq_true rfl⟩ rfl hl.1 (Nat.le_of_ble_eq_true rfl) dL_isSo_201 ⟨Nat.le_refl _, Nat.le_refl _⟩) hS (fun x115 S114 H locs hn hR hS => ?_)
            replace h := hn
            clear hn
            refine lv_if_lt (tgt := 279) hx hb dL_isSo_204 (by decide) (fun hc116 => ?_) (fun hc116 => ?_)
            · replace h := h.1 hc116
              exact t_L_isSo_b279 C hml hr hlocks  h H locs ls hR hS (lv_sub (l' := []) hl [] rfl)
            · replace h := h.2 hc116
              refine lv_aload_n hx hb dL_isSo_207 rfl (lv_at hl 0 rfl) ?_
              refine lv_iload hx hb dL_isSo_208 (lv_at hl 9 rfl) ?_
              refine lv_bipush (v := 9) hx hb dL_isSo_210 (by decide) ?_
              obtain ⟨hK_x0, h⟩ := h
              refine x_ki (x_runV (As := [.int x9, .int (9 : Int32)]) (rest := []) C hml hR hS (m_X6_ofField l gg x0 x9 (9 : Int32) S114 h) b_X6_ofField q_10_17 (by rw [hK_x0]; decide) (s_E_7 hK_x0) rfl rfl rfl rfl ⟨Nat.le_of_ble_eq_true rfl, Nat.le_of_ble_eq_true rfl⟩ rfl hl.1 (Nat.le_of_ble_eq_true rfl) dL_isSo_212 ⟨Nat.le_refl _, Nat.le_refl _⟩) hS (fun x118 S117 H locs hn hR hS => ?_)
              replace h := hn
              clear hn
              refine lv_bipush (v := 50) hx hb dL_isSo_215 (by decide) ?_
              refine lv_icmp_gt (tgt := 279) hx hb dL_isSo_217 (by decide) (fun hc119 => ?_) (fun hc119 => ?_)
              · replace h := h.1 hc119
                exact t_L_isSo_b279 C hml hr hlocks  h H locs ls hR hS (lv_sub (l' := []) hl [] rfl)
              · replace h := h.2 hc119
                refine lv_aload_n hx hb dL_isSo_220 rfl (lv_at hl 0 rfl) ?_
                refine lv_iload hx hb dL_isSo_221 (lv_at hl 9 rfl) ?_
                refine lv_iconst (v := 5) hx hb dL_isSo_223 (by decide) ?_
                obtain ⟨hK_x0, h⟩ := h
                refine x_ki (x_runV (As := [.int x9, .int (5 : Int32)]) (rest := []) C hml hR hS (m_X6_ofField l gg x0 x9 (5 : Int32) S117 h) b_X6_ofField q_10_17 (by rw [hK_x0]; decide) (s_E_7 hK_x0) rfl rfl rfl rfl ⟨Nat.le_of_ble_eq_true rfl, Nat.le_of_ble_eq_true rfl⟩ rfl hl.1 (Nat.le_of_ble_eq_true rfl) dL_isSo_224 ⟨Nat.le_refl _, Nat.le_refl _⟩) hS (fun x121 S120 H locs hn hR hS => ?_)
                replace h := hn
                clear hn
                refine lv_if_ge (tgt := 234) hx hb dL_isSo_227 (by decide) (fun hc122 => ?_) (fun hc122 => ?_)
                · replace h := h.1 hc122
                  refine lv_iconst (v := 0) hx hb dL_isSo_234 (by decide) ?_
                  exact t_L_isSo_b235 C hml hr hlocks hk15 h H locs ls hR hS (lv_sub (l' := [(0, .ref x0), (1, .int x1), (2, .int x2), (3, .ref x3), (4, .int x4), (5, .int x5), (6, .int x6), (7, .int x7), (8, .int x8), (9, .int x9), (10, .int x10)]) hl [0, 1, 2, 3, 4, 5, 6, 7, 8, 9, 10] rfl)
                · replace h := h.2 hc122
                  refine lv_iconst (v := 1) hx hb dL_isSo_230 (by decide) ?_
                  refine lv_goto (tgt := 235) hx hb dL_isSo_231 (by decide) ?_
                  exact t_L_isSo_b235 C hml hr hlocks hk15 h H locs ls hR hS (lv_sub (l' := [(0, .ref x0), (1, .int x1), (2, .int x2), (3, .ref x3), (4, .int x4), (5, .int x5), (6, .int x6), (7, .int x7), (8, .int x8), (9, .int x9), (10, .int x10)]) hl [0, 1, 2, 3, 4, 5, 6, 7, 8, 9, 10] rfl)
  · replace h := h.2 hc101
    exact t_L_isSo_b146 C hml hr hlocks  h H locs ls hR hS (lv_sub (l' := []) hl [] rfl)
set_option maxHeartbeats 4000000 in
theorem t_L_isSo_b15 {Q : Int32 → sT → Prop} (C : x_C p s m args c cL_isSo RL gg) (hml : c.maxLocals = 13) (hr : meth.sig.returnType = (some .boolean)) (hlocks : meth.locks = false)   : ∀ (n : Nat) (x0 : Nat) (x1 : Int32) (x2 : Int32) (x3 : Nat) (x4 : Int32) (x5 : Int32) (x6 : Int32) (x7 : Int32) (x8 : Int32) (x9 : Int32) (S : sT), w_L_isSo_b15  Q n x0 x1 x2 x3 x4 x5 x6 x7 x8 x9 S → x_X p l e r_L_isSo s m args below meth c gg 13 0 0 (MQ below (va_Qi Q (fun S1 t => s_Rep gg S1 t.heap) (s_A gg)) args s 0 0 (s_A gg)) 15 [(0, .ref x0), (1, .int x1), (2, .int x2), (3, .ref x3), (4, .int x4), (5, .int x5), (6, .int x6), (7, .int x7), (8, .int x8), (9, .int x9)] [] S := by
  obtain ⟨hx, hb, -⟩ := id C
  intro n
  induction n with
  | zero => intro x0 x1 x2 x3 x4 x5 x6 x7 x8 x9 S h; exact absurd h id
  | succ n ih =>
    intro x0 x1 x2 x3 x4 x5 x6 x7 x8 x9 S h H locs ls hR hS hl
    unfold w_L_isSo_b15 at h
    refine lv_iload hx hb dL_isSo_15 (lv_at hl 9 rfl) ?_
    refine lv_iload_n hx hb dL_isSo_17 rfl (lv_at hl 2 rfl) ?_
    refine lv_icmp_ge (tgt := 351) hx hb dL_isSo_18 (by decide) (fun hc101 => ?_) (fun hc101 => ?_)
    · replace h := h.1 hc101
      refine lv_iconst (v := 0) hx hb dL_isSo_351 (by decide) ?_
      refine lv_istore (lv' := [(9, .int (0 : Int32)), (0, .ref x0), (1, .int x1), (2, .int x2), (3, .ref x3), (4, .int x4), (5, .int x5), (6, .int x6), (7, .int x7), (8, .int x8)]) hx hb dL_isSo_352 hl (by decide) rfl (fun ls hl => ?_)
      refine lv_iconst (v := 0) hx hb dL_isSo_354 (by decide) ?_
      refine lv_istore (lv' := [(10, .int (0 : Int32)), (9, .int (0 : Int32)), (0, .ref x0), (1, .int x1), (2, .int x2), (3, .ref x3), (4, .int x4), (5, .int x5), (6, .int x6), (7, .int x7), (8, .int x8)]) hx hb dL_isSo_355 hl (by decide) rfl (fun ls hl => ?_)
      obtain ⟨n9, h⟩ := h
      exact t_L_isSo_b357 C hml hr hlocks  n9 x0 x1 x2 x4 x5 x6 x7 x8 (0 : Int32) (0 : Int32) S h H locs ls hR hS (lv_sub (l' := [(0, .ref x0), (1, .int x1), (2, .int x2), (4, .int x4), (5, .int x5), (6, .int x6), (7, .int x7), (8, .int x8), (9, .int (0 : Int32)), (10, .int (0 : Int32))]) hl [2, 3, 4, 6, 7, 8, 9, 10, 1, 0] rfl)
    · replace h := h.2 hc101
      refine lv_aload_n hx hb dL_isSo_21 rfl (lv_at hl 0 rfl) ?_
      refine lv_iload hx hb dL_isSo_22 (lv_at hl 9 rfl) ?_
      refine lv_iconst (v := 4) hx hb dL_isSo_24 (by decide) ?_
      obtain ⟨hK_x0, h⟩ := h
      refine x_ki (x_runV (As := [.int x9, .int (4 : Int32)]) (rest := []) C hml hR hS (m_X6_ofField l gg x0 x9 (4 : Int32) S h) b_X6_ofField q_10_17 (by rw [hK_x0]; decide) (s_E_7 hK_x0) rfl rfl rfl rfl ⟨Nat.le_of_ble_eq_true rfl, Nat.le_of_ble_eq_true rfl⟩ rfl hl.1 (Nat.le_of_ble_eq_true rfl) dL_isSo_25 ⟨Nat.le_refl _, Nat.le_refl _⟩) hS (fun x103 S102 H locs hn hR hS => ?_)
      replace h := hn
      clear hn
      refine lv_istore (lv' := [(10, .int x103), (0, .ref x0), (1, .int x1), (2, .int x2), (3, .ref x3), (4, .int x4), (5, .int x5), (6, .int x6), (7, .int x7), (8, .int x8), (9, .int x9)]) hx hb dL_isSo_28 hl (by decide) rfl (fun ls hl => ?_)
      refine lv_aload_n hx hb dL_isSo_30 rfl (lv_at hl 1 rfl) ?_
      refine lv_iload hx hb dL_isSo_31 (lv_at hl 10 rfl) ?_
      refine lv_iconst (v := 1) hx hb dL_isSo_33 (by decide) ?_
      obtain ⟨hK_x0, h⟩ := h
      refine x_ki (x_runV (As := [.int x9, .int (1 : Int32)]) (rest := []) C hml hR hS (m_X6_ofField l gg x0 x9 (1 : Int32) S102 h) b_X6_ofField q_10_17 (by rw [hK_x0]; decide) (s_E_7 hK_x0) rfl rfl rfl rfl ⟨Nat.le_of_ble_eq_true rfl, Nat.le_of_ble_eq_true rfl⟩ rfl hl.1 (Nat.le_of_ble_eq_true rfl) dL_isSo_34 ⟨Nat.le_refl _, Nat.le_refl _⟩) hS (fun x105 S104 H locs hn hR hS => ?_)
      replace h := hn
      clear hn
      refine lv_istore (lv' := [(11, .int x105), (10, .int x103), (0, .ref x0), (1, .int x1), (2, .int x2), (3, .ref x3), (4, .int x4), (5, .int x5), (6, .int x6), (7, .int x7), (8, .int x8), (9, .int x9)]) hx hb dL_isSo_37 hl (by decide) rfl (fun ls hl => ?_)
      refine lv_iload hx hb dL_isSo_39 (lv_at hl 7 rfl) ?_
      refine lv_iload hx hb dL_isSo_41 (lv_at hl 0 rfl) ?_
      refine lv_iadd hx hb dL_isSo_43 ?_
      refine lv_topi (fun x106 ex106 => ?_)
      replace h := h x106 ex106
      refine lv_istore (lv' := [(5, .int x106), (11, .int x105), (10, .int x103), (0, .ref x0), (1, .int x1), (2, .int x2), (3, .ref x3), (4, .int x4), (6, .int x6), (7, .int x7), (8, .int x8), (9, .int x9)]) hx hb dL_isSo_44 hl (by decide) rfl (fun ls hl => ?_)
      refine lv_iload hx hb dL_isSo_46 (lv_at hl 8 rfl) ?_
      refine lv_aload_n hx hb dL_isSo_48 rfl (lv_at hl 3 rfl) ?_
      refine lv_iload hx hb dL_isSo_49 (lv_at hl 11 rfl) ?_
      refine lv_iconst (v := 1) hx hb dL_isSo_51 (by decide) ?_
      obtain ⟨hK_x0, h⟩ := h
      refine x_ki (x_runV (As := [.int x9, .int (1 : Int32)]) (rest := [.int x6]) C hml hR hS (m_X6_ofOwner l gg x0 x9 (1 : Int32) S104 h) b_X6_ofOwner q_15_15 (by rw [hK_x0]; decide) (s_E_7 hK_x0) rfl rfl rfl rfl ⟨Nat.le_of_ble_eq_true rfl, Nat.le_of_ble_eq_true rfl⟩ rfl hl.1 (Nat.le_of_ble_eq_true rfl) dL_isSo_52 ⟨Nat.le_refl _, Nat.le_refl _⟩) hS (fun x108 S107 H locs hn hR hS => ?_)
      replace h := hn
      clear hn
      refine lv_iadd hx hb dL_isSo_55 ?_
      refine lv_topi (fun x109 ex109 => ?_)
      replace h := h x109 ex109
      refine lv_istore (lv' := [(6, .int x109), (5, .int x106), (11, .int x105), (10, .int x103), (0, .ref x0), (1, .int x1), (2, .int x2), (3, .ref x3), (4, .int x4), (7, .int x7), (8, .int x8), (9, .int x9)]) hx hb dL_isSo_56 hl (by decide) rfl (fun ls hl => ?_)
      refine lv_iload hx hb dL_isSo_58 (lv_at hl 9 rfl) ?_
      refine lv_aload_n hx hb dL_isSo_60 rfl (lv_at hl 4 rfl) ?_
      refine lv_iload hx hb dL_isSo_61 (lv_at hl 11 rfl) ?_
      refine lv_iconst (v := 0) hx hb dL_isSo_63 (by decide) ?_
      obtain ⟨hK_x0, h⟩ := h
      refine x_ki (x_runV (As := [.int x9, .int (0 : Int32)]) (rest := [.int x7]) C hml hR hS (m_X6_ofOwner l gg x0 x9 (0 : Int32) S107 h) b_X6_ofOwner q_15_15 (by rw [hK_x0]; decide) (s_E_7 hK_x0) rfl rfl rfl rfl ⟨Nat.le_of_ble_eq_true rfl, Nat.le_of_ble_eq_true rfl⟩ rfl hl.1 (Nat.le_of_ble_eq_true rfl) dL_isSo_64 ⟨Nat.le_refl _, Nat.le_refl _⟩) hS (fun x111 S110 H locs hn hR hS => ?_)
      replace h := hn
      clear hn
      refine lv_iadd hx hb dL_isSo_67 ?_
      refine lv_topi (fun x112 ex112 => ?_)
      replace h := h x112 ex112
      refine lv_istore (lv' := [(7, .int x112), (6, .int x109), (5, .int x106), (11, .int x105), (10, .int x103), (0, .ref x0), (1, .int x1), (2, .int x2), (3, .ref x3), (4, .int x4), (8, .int x8), (9, .int x9)]) hx hb dL_isSo_68 hl (by decide) rfl (fun ls hl => ?_)
      refine lv_iload hx hb dL_isSo_70 (lv_at hl 10 rfl) ?_
      refine lv_aload_n hx hb dL_isSo_72 rfl (lv_at hl 5 rfl) ?_
      refine lv_iload hx hb dL_isSo_73 (lv_at hl 11 rfl) ?_
      refine lv_iconst (v := 3) hx hb dL_isSo_75 (by decide) ?_
      obtain ⟨hK_x0, h⟩ := h
      refine x_ki (x_runV (As := [.int x9, .int (3 : Int32)]) (rest := [.int x8]) C hml hR hS (m_X6_ofOwner l gg x0 x9 (3 : Int32) S110 h) b_X6_ofOwner q_15_15 (by rw [hK_x0]; decide) (s_E_7 hK_x0) rfl rfl rfl rfl ⟨Nat.le_of_ble_eq_true rfl, Nat.le_of_ble_eq_true rfl⟩ rfl hl.1 (Nat.le_of_ble_eq_true rfl) dL_isSo_76 ⟨Nat.le_refl _, Nat.le_refl _⟩) hS (fun x114 S113 H locs hn hR hS => ?_)
      replace h := hn
      clear hn
      refine lv_iadd hx hb dL_isSo_79 ?_
      refine lv_topi (fun x115 ex115 => ?_)
      replace h := h x115 ex115
      refine lv_istore (lv' := [(8, .int x115), (7, .int x112), (6, .int x109), (5, .int x106), (11, .int x105), (10, .int x103), (0, .ref x0), (1, .int x1), (2, .int x2), (3, .ref x3), (4, .int x4), (9, .int x9)]) hx hb dL_isSo_80 hl (by decide) rfl (fun ls hl => ?_)
      refine lv_iload hx hb dL_isSo_82 (lv_at hl 4 rfl) ?_
      refine lv_if_lt (tgt := 146) hx hb dL_isSo_84 (by decide) (fun hc116 => ?_) (fun hc116 => ?_)
      · replace h := h.1 hc116
        exact t_L_isSo_b146 C hml hr hlocks  h H locs ls hR hS (lv_sub (l' := []) hl [] rfl)
      · replace h := h.2 hc116
        refine lv_iload hx hb dL_isSo_87 (lv_at hl 4 rfl) ?_
        refine lv_aload_n hx hb dL_isSo_89 rfl (lv_at hl 9 rfl) ?_
        refine lv_iload hx hb dL_isSo_90 (lv_at hl 11 rfl) ?_
        obtain ⟨hK_x3, h⟩ := h
        obtain ⟨hi117, h⟩ := h
        refine x_iald C hR hK_x3 hi117 dL_isSo_92 ?_
        refine lv_topi (fun x118 ex118 => ?_)
        replace h := h x118 ex118
        refine lv_icmp_gt (tgt := 146) hx hb dL_isSo_93 (by decide) (fun hc119 => ?_) (fun hc119 => ?_)
        · replace h := h.1 hc119
          exact t_L_isSo_b146 C hml hr hlocks  h H locs ls hR hS (lv_sub (l' := []) hl [] rfl)
        · replace h := h.2 hc119
          refine lv_aload_n hx hb dL_isSo_96 rfl (lv_at hl 6 rfl) ?_
          refine lv_iload hx hb dL_isSo_97 (lv_at hl 11 rfl) ?_
          refine lv_iconst (v := 2) hx hb dL_isSo_99 (by decide) ?_
          obtain ⟨hK_x0, h⟩ := h
          refine x_ki (x_runV (As := [.int x9, .int (2 : Int32)]) (rest := []) C hml hR hS (m_X6_ofField l gg x0 x9 (2 : Int32) S113 h) b_X6_ofField q_10_17 (by rw [hK_x0]; decide) (s_E_7 hK_x0) rfl rfl rfl rfl ⟨Nat.le_of_ble_eq_true rfl, Nat.le_of_ble_eq_true rfl⟩ rfl hl.1 (Nat.le_of_ble_eq_true rfl) dL_isSo_100 ⟨Nat.le_refl _, Nat.le_refl _⟩) hS (fun x121 S120 H locs hn hR hS => ?_)
          replace h := hn
          clear hn
          refine lv_if_lt (tgt := 146) hx hb dL_isSo_103 (by decide) (fun hc122 => ?_) (fun hc122 => ?_)
          · replace h := h.1 hc122
            exact t_L_isSo_b146 C hml hr hlocks  h H locs ls hR hS (lv_sub (l' := []) hl [] rfl)
          · replace h := h.2 hc122
            refine lv_aload_n hx hb dL_isSo_106 rfl (lv_at hl 6 rfl) ?_
            refine lv_iload hx hb dL_isSo_107 (lv_at hl 11 rfl) ?_
            refine lv_iconst (v := 2) hx hb dL_isSo_109 (by decide) ?_
            obtain ⟨hK_x0, h⟩ := h
            refine x_ki (x_runV (As := [.int x9, .int (2 : Int32)]) (rest := []) C hml hR hS (m_X6_ofField l gg x0 x9 (2 : Int32) S120 h) b_X6_ofField q_10_17 (by rw [hK_x0]; decide) (s_E_7 hK_x0) rfl rfl rfl rfl ⟨Nat.le_of_ble_eq_true rfl, Nat.le_of_ble_eq_true rfl⟩ rfl hl.1 (Nat.le_of_ble_eq_true rfl) dL_isSo_110 ⟨Nat.le_refl _, Nat.le_refl _⟩) hS (fun x124 S123 H locs hn hR hS => ?_)
            replace h := hn
            clear hn
            refine lv_iconst (v := 3) hx hb dL_isSo_113 (by decide) ?_
            refine lv_icmp_gt (tgt := 146) hx hb dL_isSo_114 (by decide) (fun hc125 => ?_) (fun hc125 => ?_)
            · replace h := h.1 hc125
              exact t_L_isSo_b146 C hml hr hlocks  h H locs ls hR hS (lv_sub (l' := []) hl [] rfl)
            · replace h := h.2 hc125
              refine lv_iload hx hb dL_isSo_117 (lv_at hl 4 rfl) ?_
              refine lv_if_le (tgt := 140) hx hb dL_isSo_119 (by decide) (fun hc126 => ?_) (fun hc126 => ?_)
              · replace h := h.1 hc126
                exact t_L_isSo_b140 C hml hr hlocks (fun x0 x1 x2 x3 x4 x5 x6 x7 x8 x9 S h => ih x0 x1 x2 x3 x4 x5 x6 x7 x8 x9 S h) h H locs ls hR hS (lv_sub (l' := [(0, .ref x0), (1, .int x1), (2, .int x2), (3, .ref x3), (4, .int x4), (5, .int x106), (6, .int x109), (7, .int x112), (8, .int x115), (9, .int x9), (10, .int x103)]) hl [6, 7, 8, 9, 10, 3, 2, 1, 0, 11, 5] rfl)
              · replace h := h.2 hc126
                refine lv_aload_n hx hb dL_isSo_122 rfl (lv_at hl 6 rfl) ?_
                refine lv_iload hx hb dL_isSo_123 (lv_at hl 11 rfl) ?_
                refine lv_iconst (v := 3) hx hb dL_isSo_125 (by decide) ?_
                obtain ⟨hK_x0, h⟩ := h
                refine x_ki (x_runV (As := [.int x9, .int (3 : Int32)]) (rest := []) C hml hR hS (m_X6_ofField l gg x0 x9 (3 : Int32) S123 h) b_X6_ofField q_10_17 (by rw [hK_x0]; decide) (s_E_7 hK_x0) rfl rfl rfl rfl ⟨Nat.le_of_ble_eq_true rfl, Nat.le_of_ble_eq_true rfl⟩ rfl hl.1 (Nat.le_of_ble_eq_true rfl) dL_isSo_126 ⟨Nat.le_refl _, Nat.le_refl _⟩) hS (fun x128 S127 H locs hn hR hS => ?_)
                replace h := hn
                clear hn
                refine lv_if_eq (tgt := 140) hx hb dL_isSo_129 (by decide) (fun hc129 => ?_) (fun hc129 => ?_)
                · replace h := h.1 hc129
                  exact t_L_isSo_b140 C hml hr hlocks (fun x0 x1 x2 x3 x4 x5 x6 x7 x8 x9 S h => ih x0 x1 x2 x3 x4 x5 x6 x7 x8 x9 S h) h H locs ls hR hS (lv_sub (l' := [(0, .ref x0), (1, .int x1), (2, .int x2), (3, .ref x3), (4, .int x4), (5, .int x106), (6, .int x109), (7, .int x112), (8, .int x115), (9, .int x9), (10, .int x103)]) hl [6, 7, 8, 9, 10, 3, 2, 1, 0, 11, 5] rfl)
                · replace h := h.2 hc129
                  refine lv_aload_n hx hb dL_isSo_132 rfl (lv_at hl 6 rfl) ?_
                  refine lv_iconst (v := 2) hx hb dL_isSo_133 (by decide) ?_
                  obtain ⟨hK_x0, h⟩ := h
                  refine x_ki (x_runV (As := [.int (2 : Int32)]) (rest := []) C hml hR hS (m_X6_many l gg x0 (2 : Int32) S127 h) b_X6_many q_16_15 (by rw [hK_x0]; decide) (s_E_7 hK_x0) rfl rfl rfl rfl ⟨Nat.le_of_ble_eq_true rfl, Nat.le_of_ble_eq_true rfl⟩ rfl hl.1 (Nat.le_of_ble_eq_true rfl) dL_isSo_134 ⟨Nat.le_refl _, Nat.le_refl _⟩) hS (fun x131 S130 H locs hn hR hS => ?_)
                  replace h := hn
                  clear hn
                  refine lv_if_gt (tgt := 146) hx hb dL_isSo_137 (by decide) (fun hc132 => ?_) (fun hc132 => ?_)
                  · replace h := h.1 hc132
                    exact t_L_isSo_b146 C hml hr hlocks  h H locs ls hR hS (lv_sub (l' := []) hl [] rfl)
                  · replace h := h.2 hc132
                    exact t_L_isSo_b140 C hml hr hlocks (fun x0 x1 x2 x3 x4 x5 x6 x7 x8 x9 S h => ih x0 x1 x2 x3 x4 x5 x6 x7 x8 x9 S h) h H locs ls hR hS (lv_sub (l' := [(0, .ref x0), (1, .int x1), (2, .int x2), (3, .ref x3), (4, .int x4), (5, .int x106), (6, .int x109), (7, .int x112), (8, .int x115), (9, .int x9), (10, .int x103)]) hl [6, 7, 8, 9, 10, 3, 2, 1, 0, 11, 5] rfl)
set_option maxHeartbeats 4000000 in
theorem t_L_isSo_b0 {Q : Int32 → sT → Prop} (C : x_C p s m args c cL_isSo RL gg) (hml : c.maxLocals = 13) (hr : meth.sig.returnType = (some .boolean)) (hlocks : meth.locks = false) {x0 : Nat} {x1 : Int32} {x2 : Int32} {x3 : Nat} {x4 : Int32}  {S : sT}  (h : w_L_isSo_b0 x0 x1 x2 x3 x4 S  Q) : x_X p l e r_L_isSo s m args below meth c gg 13 0 0 (MQ below (va_Qi Q (fun S1 t => s_Rep gg S1 t.heap) (s_A gg)) args s 0 0 (s_A gg)) 0 [(0, .ref x0), (1, .int x1), (2, .int x2), (3, .ref x3), (4, .int x4)] [] S := by
  unfold w_L_isSo_b0 at h
  obtain ⟨hx, hb, -⟩ := id C
  intro H locs ls hR hS hl
  refine lv_iconst (v := 0) hx hb dL_isSo_0 (by decide) ?_
  refine lv_istore (lv' := [(5, .int (0 : Int32)), (0, .ref x0), (1, .int x1), (2, .int x2), (3, .ref x3), (4, .int x4)]) hx hb dL_isSo_1 hl (by decide) rfl (fun ls hl => ?_)
  refine lv_iconst (v := 0) hx hb dL_isSo_3 (by decide) ?_
  refine lv_istore (lv' := [(6, .int (0 : Int32)), (5, .int (0 : Int32)), (0, .ref x0), (1, .int x1), (2, .int x2), (3, .ref x3), (4, .int x4)]) hx hb dL_isSo_4 hl (by decide) rfl (fun ls hl => ?_)
  refine lv_iconst (v := 0) hx hb dL_isSo_6 (by decide) ?_
  refine lv_istore (lv' := [(7, .int (0 : Int32)), (6, .int (0 : Int32)), (5, .int (0 : Int32)), (0, .ref x0), (1, .int x1), (2, .int x2), (3, .ref x3), (4, .int x4)]) hx hb dL_isSo_7 hl (by decide) rfl (fun ls hl => ?_)
  refine lv_iconst (v := 0) hx hb dL_isSo_9 (by decide) ?_
  refine lv_istore (lv' := [(8, .int (0 : Int32)), (7, .int (0 : Int32)), (6, .int (0 : Int32)), (5, .int (0 : Int32)), (0, .ref x0), (1, .int x1), (2, .int x2), (3, .ref x3), (4, .int x4)]) hx hb dL_isSo_10 hl (by decide) rfl (fun ls hl => ?_)
  refine lv_iconst (v := 0) hx hb dL_isSo_12 (by decide) ?_
  refine lv_istore (lv' := [(9, .int (0 : Int32)), (8, .int (0 : Int32)), (7, .int (0 : Int32)), (6, .int (0 : Int32)), (5, .int (0 : Int32)), (0, .ref x0), (1, .int x1), (2, .int x2), (3, .ref x3), (4, .int x4)]) hx hb dL_isSo_13 hl (by decide) rfl (fun ls hl => ?_)
  obtain ⟨n9, h⟩ := h
  exact t_L_isSo_b15 C hml hr hlocks  n9 x0 x1 x2 x3 x4 (0 : Int32) (0 : Int32) (0 : Int32) (0 : Int32) (0 : Int32) S h H locs ls hR hS (lv_sub (l' := [(0, .ref x0), (1, .int x1), (2, .int x2), (3, .ref x3), (4, .int x4), (5, .int (0 : Int32)), (6, .int (0 : Int32)), (7, .int (0 : Int32)), (8, .int (0 : Int32)), (9, .int (0 : Int32))]) hl [5, 6, 7, 8, 9, 4, 3, 2, 1, 0] rfl)
theorem m_L_isSo (l : Launch) (gg : sG) (x0 : Nat) (x1 : Int32) (x2 : Int32) (x3 : Nat) (x4 : Int32) (S : sT) {Q : Int32 → sT → Prop} (h : w_L_isSo x0 x1 x2 x3 x4 S Q) : x_Mi l gg yL_isSo (x_ws yL_isSo cL_isSo 13 (some .boolean)) r_L_isSo [.ref x0, .int x1, .int x2, .ref x3, .int x4] S Q 0 0 := by
  refine x_ofW (cc := cL_isSo) (own := RL) (by decide +kernel) rfl (Nat.le_of_ble_eq_true rfl) ?_
  intro p e s m args below meth c C hml hr hlocks hin ht H locs ls hR hS hl
  exact t_L_isSo_b0 C hml hr hlocks h H locs ls hR hS (lv_sub (l' := [(0, .ref x0), (1, .int x1), (2, .int x2), (3, .ref x3), (4, .int x4)]) hl [0, 1, 2, 3, 4] rfl)
end
