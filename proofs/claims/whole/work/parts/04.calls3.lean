/-! ===== methods that throw, over the abstract store ===== -/
abbrev x_EN : List String := ["java/lang/RuntimeException", "java/lang/Exception"]
def x_XC (gg : sG) (QX : String → sT → Prop) : String → State → State → Prop := vx_X (S := sT) (fun _ => True) (fun E S1 t => QX E S1 ∧ s_Rep gg S1 t.heap) (s_A gg)
/-- a method that surely throws -/
def x_T (l : Launch) (gg : sG) (y : MethodName) (ws : List Cond) (rm : Room) (As : List Value) (S : sT) (QX : String → sT → Prop) (mc ms : Nat) : Prop := vx_Met l y ws rm (x_Pc gg As S) (fun _ _ _ _ => False) (x_XC gg QX) mc ms (s_A gg)
section XT
variable {p : Program} {l : Launch} {e : Env} {R : Room} {s : State} {m : MethodId} {args : Array Value} {below : List Frame} {meth : Method} {c : Code} {H : Heap} {locs : List Loc} {cells slots : Nat} {Q : State → Prop}
variable {cc : ByteArray} {own : String} {gg : sG} {S : sT} {pc a : Nat} {ls : Array Slot} {rest : List Value}
variable {y : MethodName} {cc1 : ByteArray} {maxL1 nL n index mc ms : Nat} {ret1 : Option FieldType} {rm : Room} {Qc : Array Value → State → Outcome → State → Prop} {XC : String → State → State → Prop} {As st0 : List Value} {b : Nat}
variable {QX QX1 : String → sT → Prop}
theorem s_Rep.kept {H1 : Heap} (hR : s_Rep gg S H) (hq : ∀ q : Nat, q < H.size → H1[q]? = H[q]?) : s_Rep gg S H1 := ⟨hR.1.kept (fun k q hk => hq _ (hR.1 k q hk).lt), hR.2.1, hR.2.2.1, hR.2.2.2⟩
theorem x_thr {text cls : String} {ik is ic : Nat} {lv : List (Nat × Value)} (hst : l.stackTraces = false) (hC : x_C p s m args c cc RX6 gg) (hR : s_Rep gg S H) (hS : va_S (s_A gg) s.heap H locs) (hlv : lv_has ls nL lv) (hml : c.maxLocals = nL) (ht : ∀ x ∈ c.exceptionTable.toList, False) (hlocks : meth.locks = false)
    (hcls : Bundle.fit cls = true) (hgw : ∀ w ∈ (vx_atS RX6 ic cls x_EN).filter goodWord, w ∈ wsL_law) (hbad : ∀ w ∈ (vx_atS RX6 ic cls x_EN).filter (fun w => !goodWord w), w ∈ Cond.castable cls cls :: s_dc.map Cond.declares) (hgood : ∀ w ∈ Cond.classLink RX6 ik cls :: Cond.initialized cls :: vx_atS RX6 ic cls x_EN, vx_ot w = true) (hce : (cls, cls) ∈ s_cs)
    (hk : Cond.classLink RX6 ik cls ∈ wsL_law) (hini : Cond.initialized cls ∈ wsL_law) (hstr : (is, text) ∈ s_str)
    (d0 : decode cc pc = .ok (.new ik, 3)) (d3 : decode cc (pc + 3) = .ok (.dup, 1)) (d4 : decode cc (pc + 4) = .ok (.ldc is, 2)) (d6 : decode cc (pc + 6) = .ok (.invokespecial ic, 3)) (d9 : decode cc (pc + 9) = .ok (.athrow, 1))
    (hRf : 5 < R.frames) (hRl : (rest.map fun v => v.category).sum + 82 ≤ R.locals) (hRc : cells + 1 ≤ R.cells) (hRs : slots + 6 ≤ R.slots) (hc : cells + 1 ≤ mc) (hs : slots + 6 ≤ ms) (hq : QX cls S) :
    W p l e R s m args below meth c H locs cells slots (vx_MQ below Qc (x_XC gg QX) args s mc ms (s_A gg)) (F0 m pc ls rest) := by
  obtain ⟨hx, hb, hts, hown, hE⟩ := hC
  obtain ⟨sa, hsa⟩ := hE.2.2.2.2.2.2.2.2.2.2.2.1 _ hstr
  have hcast := va_Nw.use (A := args) rfl (hE.2.2.2.2.2.2.2.2.2.1 _ hce)
  refine vx_throwS (names := x_EN) hx hb hst hown hcls (by decide) (hts _ hk) (hts _ hini) hsa (vx_hat (fun w hw => hts _ (hgw w hw)) hbad (vx_c hcast (fun w hw => by
    obtain ⟨x, hx, rfl⟩ := List.mem_map.mp hw
    exact va_Nw.use rfl (hE.2.2.2.2.2.2.2.2.2.2.2.2.1 x hx)))) hgood hE.2.2.2.2.2.2.2.1 hE.2.2.2.2.2.2.2.2.1 hS (hlv.1.trans hml.symm) d0 d3 d4 d6 d9 (fun x hx => (ht x hx).elim) hRf hRl hRc hRs hlocks (fun t hvm hz hk => ?_) hS.2.2 hc hs
  refine ⟨S, trivial, ⟨hq, hR.kept hk⟩, Nat.le_trans hS.1 hz, fun q h1 h2 => ?_⟩
  rw [hk q (Nat.lt_of_lt_of_le h1 hS.1)]
  exact hS.2.1 q h1 h2
theorem x_thrW {text cls : String} {ik is ic : Nat} {lv : List (Nat × Value)} (hst : l.stackTraces = false) (hC : x_C p s m args c cc RX6 gg) (hR : s_Rep gg S H) (hS : va_S (s_A gg) s.heap H locs) (hlv : lv_has ls nL lv) (hml : c.maxLocals = nL) (ht : ∀ x ∈ c.exceptionTable.toList, False) (hlocks : meth.locks = false)
    (hcls : Bundle.fit cls = true) (hgw : ∀ w ∈ (vx_atS RX6 ic cls x_EN).filter goodWord, w ∈ wsL_law) (hbad : ∀ w ∈ (vx_atS RX6 ic cls x_EN).filter (fun w => !goodWord w), w ∈ Cond.castable cls cls :: s_dc.map Cond.declares) (hgood : ∀ w ∈ Cond.classLink RX6 ik cls :: Cond.initialized cls :: vx_atS RX6 ic cls x_EN, vx_ot w = true) (hce : (cls, cls) ∈ s_cs)
    (hk : Cond.classLink RX6 ik cls ∈ wsL_law) (hini : Cond.initialized cls ∈ wsL_law) (hstr : (is, text) ∈ s_str)
    (d0 : decode cc pc = .ok (.new ik, 3)) (d3 : decode cc (pc + 3) = .ok (.dup, 1)) (d4 : decode cc (pc + 4) = .ok (.ldc_w is, 3)) (d6 : decode cc (pc + 7) = .ok (.invokespecial ic, 3)) (d9 : decode cc (pc + 10) = .ok (.athrow, 1))
    (hRf : 5 < R.frames) (hRl : (rest.map fun v => v.category).sum + 82 ≤ R.locals) (hRc : cells + 1 ≤ R.cells) (hRs : slots + 6 ≤ R.slots) (hc : cells + 1 ≤ mc) (hs : slots + 6 ≤ ms) (hq : QX cls S) :
    W p l e R s m args below meth c H locs cells slots (vx_MQ below Qc (x_XC gg QX) args s mc ms (s_A gg)) (F0 m pc ls rest) := by
  obtain ⟨hx, hb, hts, hown, hE⟩ := hC
  obtain ⟨sa, hsa⟩ := hE.2.2.2.2.2.2.2.2.2.2.2.1 _ hstr
  have hcast := va_Nw.use (A := args) rfl (hE.2.2.2.2.2.2.2.2.2.1 _ hce)
  refine vx_throwSW (names := x_EN) hx hb hst hown hcls (by decide) (hts _ hk) (hts _ hini) hsa (vx_hat (fun w hw => hts _ (hgw w hw)) hbad (vx_c hcast (fun w hw => by
    obtain ⟨x, hx, rfl⟩ := List.mem_map.mp hw
    exact va_Nw.use rfl (hE.2.2.2.2.2.2.2.2.2.2.2.2.1 x hx)))) hgood hE.2.2.2.2.2.2.2.1 hE.2.2.2.2.2.2.2.2.1 hS (hlv.1.trans hml.symm) d0 d3 d4 d6 d9 (fun x hx => (ht x hx).elim) hRf hRl hRc hRs hlocks (fun t hvm hz hk => ?_) hS.2.2 hc hs
  refine ⟨S, trivial, ⟨hq, hR.kept hk⟩, Nat.le_trans hS.1 hz, fun q h1 h2 => ?_⟩
  rw [hk q (Nat.lt_of_lt_of_le h1 hS.1)]
  exact hS.2.1 q h1 h2
/-- a call of a method that surely throws -/
theorem x_ze (hr : vx_Run p l e R s m args below meth c H locs cells slots mc ms (F0 m pc ls st0) rest (fun _ _ _ => False) (x_XC gg QX1) (s_A gg)) (hS : va_S (s_A gg) s.heap H locs)
    (kx : ∀ (E : String) (ce : Cell) (q9 : Addr) (S1 : sT) (H1 : Heap) (locs1 : List Loc), QX1 E S1 → s_Rep gg S1 H1 → va_S (s_A gg) s.heap H1 locs1 → H1[q9]? = some ce → ce.vm = .none → s.vm.findClass E = some ce.cls → vx_W p l e R s m args below meth c H1 locs1 (cells + mc) (slots + ms) Q (F0 m pc ls rest) q9) : W p l e R s m args below meth c H locs cells slots Q (F0 m pc ls st0) := by
  intro T hT X
  rcases hr T hT X with ⟨v, st₀, t, T', L, h0, X', hL, e1, e2, hF, st⟩ | ⟨q, st₀, t, T', L, E, ce, h0, X', hL, e1, e2, ⟨u, -, ⟨hq, hR1⟩, hF⟩, hce, hcv, hcl, st⟩
  · exact hF.elim
  · obtain ⟨k1, k2, k3⟩ := vx_keep h0 e1 hS (fun _ _ h => h) (fun _ h => h) hL hF
    obtain ⟨t2, a1, b1⟩ := kx E ce q u T'.heap (locs ++ L) hq (by rw [e1]; exact hR1) k3 (by rw [e1]; exact hce) hcv hcl T' rfl X'
    exact ⟨t2, st.trans a1, b1⟩
theorem x_zout {E : String} {ce : Cell} {q9 : Addr} (ht : ∀ x ∈ c.exceptionTable.toList, False) (hlocks : meth.locks = false) (hq : QX E S) (hR : s_Rep gg S H) (hS : va_S (s_A gg) s.heap H locs) (hce : H[q9]? = some ce) (hcv : ce.vm = .none) (hcl : s.vm.findClass E = some ce.cls) (hc : cells ≤ mc) (hs : slots ≤ ms) : vx_W p l e R s m args below meth c H locs cells slots (vx_MQ below Qc (x_XC gg QX) args s mc ms (s_A gg)) (F0 m pc ls rest) q9 :=
  vx_out (fun x hx => (ht x hx).elim) hlocks hce hcv hcl (fun t ht _ => ⟨S, trivial, ⟨hq, x_rt ht hR⟩, hS.F ht⟩) hS.2.2 hc hs
theorem x_runVT {q : vw_C} {ci : Nat} {fs : List Value} (hC : x_C p s m args c cc own gg) (hml : c.maxLocals = nL) (hR : s_Rep gg S H) (hS : va_S (s_A gg) s.heap H locs) (hM : vx_Met l y (x_ws y cc1 maxL1 ret1) rm (x_Pc gg (.ref b :: As) S) Qc XC mc ms (s_A gg)) (hB : x_BV y cc1 maxL1 ret1 n) (hl : Cond.methodLink own index y ∈ wsL_law) (hk : s_K S b ≠ 0) (he : s_E gg.2.1 S b = .inr (ci, fs)) (hc : vwCl[ci]? = some q) (hq : q.1 = y.cls)
    (hrc : rm.cells = mc) (hrs : rm.slots = ms) (hfr : rm.frames + 1 ≤ R.frames ∧ 8 + (maxL1 + 11) + rm.locals ≤ R.locals) (hn : As.length = n) (hsize : ls.size = nL) (hW : (rest.map fun v => v.category).sum ≤ 8) (hdg : decode cc pc = .ok (.invokevirtual index, 3)) (hf : cells + mc ≤ R.cells ∧ slots + ms ≤ R.slots) :
    vx_Run p l e R s m args below meth c H locs cells slots mc ms (F0 m pc ls (As.reverse ++ .ref b :: rest)) rest (Qc (Value.ref b :: As).toArray) XC (s_A gg) := by
  obtain ⟨b1, b2, b3, b4, b5⟩ := hB
  have hr := x_recv hC hR hk he hc
  rw [hq] at hr
  exact vx_runV (own := own) (C := y.cls) ⟨hC.1, hC.2.1, hml, hC.2.2.2.1, hC.2.2.1⟩ hM (cwV n hC.2.2.1 (ws_GI (fun w hw => by
    rcases List.mem_append.mp hw with h | h
    · simp only [List.mem_cons, List.not_mem_nil, or_false] at h
      rcases h with h | h | h | h <;> rw [h] <;> assumption
    · exact x_wsIn b1 w h)) rfl hrc hrs ⟨rfl, b5⟩ hfr) ⟨x_Pc.blind, hr, fun U hU hWm => ⟨rfl, hC.2.2.2.2.next hS hU hWm, by rw [hU]; exact hR⟩⟩ rfl hn hsize rfl (lv_room hW) hdg hf
theorem x_runST (hC : x_C p s m args c cc own gg) (hml : c.maxLocals = nL) (hR : s_Rep gg S H) (hS : va_S (s_A gg) s.heap H locs) (hM : vx_Met l y (x_ws y cc1 maxL1 ret1) rm (x_Pc gg As S) Qc XC mc ms (s_A gg)) (hB : x_BS y cc1 maxL1 ret1 n) (hl : Cond.methodLink own index y ∈ wsL_law)
    (hrc : rm.cells = mc) (hrs : rm.slots = ms) (hfr : rm.frames + 1 ≤ R.frames ∧ 8 + (maxL1 + 11) + rm.locals ≤ R.locals) (hn : As.length = n) (hsize : ls.size = nL) (hW : (rest.map fun v => v.category).sum ≤ 8) (hdg : decode cc pc = .ok (.invokestatic index, 3)) (hf : cells + mc ≤ R.cells ∧ slots + ms ≤ R.slots) :
    vx_Run p l e R s m args below meth c H locs cells slots mc ms (F0 m pc ls (As.reverse ++ rest)) rest (Qc As.toArray) XC (s_A gg) := by
  obtain ⟨b1, b2, b4, b5⟩ := hB
  exact vx_runS (own := own) ⟨hC.1, hC.2.1, hml, hC.2.2.2.1, hC.2.2.1⟩ hM (va_cwS n hC.2.2.1 (ws_GI (fun w hw => by
    rcases List.mem_append.mp hw with h | h
    · simp only [List.mem_cons, List.not_mem_nil, or_false] at h
      rcases h with h | h | h <;> rw [h] <;> assumption
    · exact x_wsIn b1 w h)) rfl hrc hrs b5 hfr) ⟨x_Pc.blind, fun U hU hWm => ⟨rfl, hC.2.2.2.2.next hS hU hWm, by rw [hU]; exact hR⟩⟩ rfl hn hsize rfl (lv_room hW) hdg hf
theorem x_ofWT {ret : Option FieldType} {maxL : Nat} (hp : plainFor y = true) (ho : own = y.cls) (hlen : (lg_sl As).length ≤ maxL)
    (body : ∀ p e s m args below meth c, x_C p s m args c cc own gg → c.maxLocals = maxL → meth.sig.returnType = ret → meth.locks = false → (y.name = "<init>" → meth.name = "<init>") → (∀ x ∈ c.exceptionTable.toList, False) → x_X p l e rm s m args below meth c gg maxL 0 0 (vx_MQ below Qc XC args s mc ms (s_A gg)) 0 (lv_args 0 As) [] S) : vx_Met l y (x_ws y cc maxL ret) rm (x_Pc gg As S) Qc XC mc ms (s_A gg) := by
  refine MetFree.of_bodySF (code := cc) (maxLocals := maxL) (ret := ret) hp ?_ ?_
  · intro args s m h hn
    obtain ⟨meth, c, h1, h2, h3, h4, h5, h6, -, -⟩ := Cond.code_spec hn (atoms_spec (ws := x_ws y cc maxL ret) h _ List.mem_cons_self)
    exact ⟨meth, c, h1, h2, h3, h4, h5, h6⟩
  · intro p e s m args below meth c s₁ B hml hv _
    obtain ⟨rfl, hE, hR⟩ := hv
    have hh0 : s₁.heap = s.heap := by rw [B.state]; rfl
    have hts := atoms_spec (ws := x_ws y cc maxL ret) B.pre
    have hown : s.vm.findClass y.cls = some m.cls := findClass_of_methodNamed B.named
    have ht : ∀ x ∈ c.exceptionTable.toList, False := by
      obtain ⟨meth9, c9, h1, h2, -, -, -, -, h7, -⟩ := Cond.code_spec B.named (atoms_spec (ws := x_ws y cc maxL ret) B.pre _ List.mem_cons_self)
      cases Option.some.inj (h1.symm.trans B.method)
      cases Option.some.inj (h2.symm.trans (Stand.of_body B).code)
      intro x hx
      rw [Array.isEmpty_iff.mp h7] at hx
      cases hx
    have K := body p e s m As.toArray below meth c ⟨B.exec, B.bytes, fun w h => hts w (List.mem_cons_of_mem _ h), by rw [ho]; exact hown, hE⟩ hml B.returns B.notSynchronized (fun h => (name_of_methodNamed B.named B.method).1.trans h) ht
    have hl := lv_entry As (n := maxL) hlen
    have K2 := K s.heap [] _ hR va_S.rf hl
    rw [← lg_entry_eq] at K2
    obtain ⟨t, a1, o, b1, b2, b3⟩ := K2 s₁ hh0 (Stand.of_body B)
    exact ⟨t, o, a1, b1, b2, b3⟩
end XT
theorem xe_w0 : ∀ w ∈ (vx_atS RX6 27 "java/lang/IllegalArgumentException" x_EN).filter goodWord, w ∈ wsL_law := fun _ h => List.mem_append_left _ (List.mem_append_left _ (List.mem_append_right _ h))
theorem xe_b0 : ∀ w ∈ (vx_atS RX6 27 "java/lang/IllegalArgumentException" x_EN).filter (fun w => !goodWord w), w ∈ Cond.castable "java/lang/IllegalArgumentException" "java/lang/IllegalArgumentException" :: s_dc.map Cond.declares := by decide +kernel
theorem xe_g0 : ∀ w ∈ vx_atS RX6 27 "java/lang/IllegalArgumentException" x_EN, vx_ot w = true := by decide +kernel
theorem xe_h0 (ik : Nat) : ∀ w ∈ Cond.classLink RX6 ik "java/lang/IllegalArgumentException" :: Cond.initialized "java/lang/IllegalArgumentException" :: vx_atS RX6 27 "java/lang/IllegalArgumentException" x_EN, vx_ot w = true := fun w h => (List.mem_cons.mp h).elim (fun e => by rw [e]; rfl) (fun h => (List.mem_cons.mp h).elim (fun e => by rw [e]; rfl) (xe_g0 w))
theorem xe_c0 : ("java/lang/IllegalArgumentException", "java/lang/IllegalArgumentException") ∈ s_cs := List.mem_of_getElem? (i := 0) rfl
theorem xe_w1 : ∀ w ∈ (vx_atS RX6 44 "java/lang/IllegalStateException" x_EN).filter goodWord, w ∈ wsL_law := fun _ h => List.mem_append_left _ (List.mem_append_right _ h)
theorem xe_b1 : ∀ w ∈ (vx_atS RX6 44 "java/lang/IllegalStateException" x_EN).filter (fun w => !goodWord w), w ∈ Cond.castable "java/lang/IllegalStateException" "java/lang/IllegalStateException" :: s_dc.map Cond.declares := by decide +kernel
theorem xe_g1 : ∀ w ∈ vx_atS RX6 44 "java/lang/IllegalStateException" x_EN, vx_ot w = true := by decide +kernel
theorem xe_h1 (ik : Nat) : ∀ w ∈ Cond.classLink RX6 ik "java/lang/IllegalStateException" :: Cond.initialized "java/lang/IllegalStateException" :: vx_atS RX6 44 "java/lang/IllegalStateException" x_EN, vx_ot w = true := fun w h => (List.mem_cons.mp h).elim (fun e => by rw [e]; rfl) (fun h => (List.mem_cons.mp h).elim (fun e => by rw [e]; rfl) (xe_g1 w))
theorem xe_c1 : ("java/lang/IllegalStateException", "java/lang/IllegalStateException") ∈ s_cs := List.mem_of_getElem? (i := 1) rfl
theorem xe_w2 : ∀ w ∈ (vx_atS RX6 372 "java/lang/IndexOutOfBoundsException" x_EN).filter goodWord, w ∈ wsL_law := fun _ h => List.mem_append_right _ h
theorem xe_b2 : ∀ w ∈ (vx_atS RX6 372 "java/lang/IndexOutOfBoundsException" x_EN).filter (fun w => !goodWord w), w ∈ Cond.castable "java/lang/IndexOutOfBoundsException" "java/lang/IndexOutOfBoundsException" :: s_dc.map Cond.declares := by decide +kernel
theorem xe_g2 : ∀ w ∈ vx_atS RX6 372 "java/lang/IndexOutOfBoundsException" x_EN, vx_ot w = true := by decide +kernel
theorem xe_h2 (ik : Nat) : ∀ w ∈ Cond.classLink RX6 ik "java/lang/IndexOutOfBoundsException" :: Cond.initialized "java/lang/IndexOutOfBoundsException" :: vx_atS RX6 372 "java/lang/IndexOutOfBoundsException" x_EN, vx_ot w = true := fun w h => (List.mem_cons.mp h).elim (fun e => by rw [e]; rfl) (fun h => (List.mem_cons.mp h).elim (fun e => by rw [e]; rfl) (xe_g2 w))
theorem xe_c2 : ("java/lang/IndexOutOfBoundsException", "java/lang/IndexOutOfBoundsException") ∈ s_cs := List.mem_of_getElem? (i := 2) rfl
theorem xe_s113 : (113, "it is not puddled, the day is dark, or help is missing") ∈ s_str := List.mem_of_getElem? (i := 0) rfl
theorem xe_s176 : (176, "flow, warmth or rain out of range") ∈ s_str := List.mem_of_getElem? (i := 1) rfl
theorem xe_s185 : (185, "less than 1 can't be sold") ∈ s_str := List.mem_of_getElem? (i := 2) rfl
theorem xe_s187 : (187, "there is less rice") ∈ s_str := List.mem_of_getElem? (i := 3) rfl
theorem xe_s229 : (229, "what is not 0 to 13") ∈ s_str := List.mem_of_getElem? (i := 4) rfl
theorem xe_s234 : (234, "what is not 0 to 3") ∈ s_str := List.mem_of_getElem? (i := 5) rfl
theorem xe_s25 : (25, "notches, loss, from or days out of range") ∈ s_str := List.mem_of_getElem? (i := 6) rfl
theorem xe_s257 : (257, "what is not 0 to 8") ∈ s_str := List.mem_of_getElem? (i := 7) rfl
theorem xe_s287 : (287, "what is not 0 to 6") ∈ s_str := List.mem_of_getElem? (i := 8) rfl
theorem xe_s304 : (304, "what is not 0 to 11") ∈ s_str := List.mem_of_getElem? (i := 9) rfl
theorem xe_s370 : (370, "there is no such society") ∈ s_str := List.mem_of_getElem? (i := 10) rfl
theorem xe_s377 : (377, "there is no such field") ∈ s_str := List.mem_of_getElem? (i := 11) rfl
theorem xe_s379 : (379, "it is not ripe") ∈ s_str := List.mem_of_getElem? (i := 12) rfl
theorem xe_s381 : (381, "there is no such kind") ∈ s_str := List.mem_of_getElem? (i := 13) rfl
theorem xe_s383 : (383, "days out of range") ∈ s_str := List.mem_of_getElem? (i := 14) rfl
theorem xe_s42 : (42, "there are as many societies as can be") ∈ s_str := List.mem_of_getElem? (i := 15) rfl
theorem xe_s53 : (53, "notch or bund out of range") ∈ s_str := List.mem_of_getElem? (i := 16) rfl
theorem xe_s58 : (58, "there are as many fields as can be") ∈ s_str := List.mem_of_getElem? (i := 17) rfl
theorem xe_s74 : (74, "stones out of range") ∈ s_str := List.mem_of_getElem? (i := 18) rfl
theorem xe_s97 : (97, "it is not fallow, or too dry") ∈ s_str := List.mem_of_getElem? (i := 19) rfl
