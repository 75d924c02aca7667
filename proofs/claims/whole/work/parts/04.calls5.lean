/-! ===== the law's helpers: bodies with handlers ===== -/
abbrev x_wsH (y : MethodName) (cc : ByteArray) (maxL : Nat) (ret : Option FieldType) (hh : List (Nat × Nat × Nat × Nat)) : List Cond := Cond.codeWith y cc maxL ret hh :: wsL_law
def x_BH (y : MethodName) (cc : ByteArray) (maxL : Nat) (ret : Option FieldType) (hh : List (Nat × Nat × Nat × Nat)) (n : Nat) : Prop := Cond.codeWith y cc maxL ret hh ∈ wsL_law ∧ Cond.static y ∈ wsL_law ∧ Cond.initialized y.cls ∈ wsL_law ∧ x_hd y n
section XH
variable {p : Program} {l : Launch} {e : Env} {R : Room} {s : State} {m : MethodId} {args : Array Value} {below : List Frame} {meth : Method} {c : Code} {H : Heap} {locs : List Loc} {cells slots : Nat} {Q : State → Prop}
variable {cc : ByteArray} {own : String} {gg : sG} {S : sT} {pc a : Nat} {ls : Array Slot} {rest : List Value}
variable {y : MethodName} {cc1 : ByteArray} {maxL1 nL n index mc ms : Nat} {ret1 : Option FieldType} {rm : Room} {Qc : Array Value → State → Outcome → State → Prop} {As st0 : List Value} {b : Nat} {hh : List (Nat × Nat × Nat × Nat)}
theorem x_ofWH {ret : Option FieldType} {maxL : Nat} (hp : plainFor y = true) (ho : own = y.cls) (hlen : (lg_sl As).length ≤ maxL)
    (body : ∀ p e s m args below meth c, x_C p s m args c cc own gg → c.maxLocals = maxL → meth.sig.returnType = ret → meth.locks = false → c.exceptionTable.toList = tableOf hh → x_X p l e rm s m args below meth c gg maxL 0 0 (MQ below Qc args s mc ms (s_A gg)) 0 (lv_args 0 As) [] S) : Met l y (x_wsH y cc maxL ret hh) rm (x_Pc gg As S) Qc mc ms (s_A gg) := by
  refine MetFree.of_bodySF (code := cc) (maxLocals := maxL) (ret := ret) hp ?_ ?_
  · intro args s m h hn
    obtain ⟨m9, meth, c, hn9, h1, h2, h3, h4, -, h5, h6, -⟩ := Cond.codeWith_spec (atoms_spec (ws := x_wsH y cc maxL ret hh) h _ List.mem_cons_self)
    cases hn.symm.trans hn9
    exact ⟨meth, c, h1, h2, h3, h4, h5, h6⟩
  · intro p e s m args below meth c s₁ B hml hv _
    obtain ⟨rfl, hE, hR⟩ := hv
    have hh0 : s₁.heap = s.heap := by rw [B.state]; rfl
    have hts := atoms_spec (ws := x_wsH y cc maxL ret hh) B.pre
    have hown : s.vm.findClass y.cls = some m.cls := findClass_of_methodNamed B.named
    have ht := vx_table (x := y) B (hts _ List.mem_cons_self)
    have K := body p e s m As.toArray below meth c ⟨B.exec, B.bytes, fun w h => hts w (List.mem_cons_of_mem _ h), by rw [ho]; exact hown, hE⟩ hml B.returns B.notSynchronized ht
    have hl := lv_entry As (n := maxL) hlen
    have K2 := K s.heap [] _ hR va_S.rf hl
    rw [← lg_entry_eq] at K2
    obtain ⟨t, a1, o, b1, b2, b3⟩ := K2 s₁ hh0 (Stand.of_body B)
    exact ⟨t, o, a1, b1, b2, ⟨b3.1, b3.2⟩⟩
theorem x_runSH (hC : x_C p s m args c cc own gg) (hml : c.maxLocals = nL) (hR : s_Rep gg S H) (hS : va_S (s_A gg) s.heap H locs) (hM : Met l y (x_wsH y cc1 maxL1 ret1 hh) rm (x_Pc gg As S) Qc mc ms (s_A gg)) (hB : x_BH y cc1 maxL1 ret1 hh n) (hl : Cond.methodLink own index y ∈ wsL_law)
    (hrc : rm.cells = mc) (hrs : rm.slots = ms) (hfr : rm.frames + 1 ≤ R.frames ∧ 8 + (maxL1 + 11) + rm.locals ≤ R.locals) (hn : As.length = n) (hsize : ls.size = nL) (hW : (rest.map fun v => v.category).sum ≤ 8) (hdg : decode cc pc = .ok (.invokestatic index, 3)) (hf : cells + mc ≤ R.cells ∧ slots + ms ≤ R.slots) :
    va_Run p l e R s m args below meth c H locs cells slots mc ms (F0 m pc ls (As.reverse ++ rest)) rest (Qc As.toArray) (s_A gg) := by
  obtain ⟨b1, b2, b4, b5⟩ := hB
  exact vx_runSW (own := own) ⟨hC.1, hC.2.1, hml, hC.2.2.2.1, hC.2.2.1⟩ hM (vx_cwSW n hC.2.2.1 (ws_GI (fun w hw => by
    rcases List.mem_append.mp hw with h | h
    · simp only [List.mem_cons, List.not_mem_nil, or_false] at h
      rcases h with h | h | h <;> rw [h] <;> assumption
    · rcases List.mem_cons.mp h with h1 | h1
      · rw [h1]; exact b1
      · exact h1)) rfl hrc hrs b5 hfr) ⟨x_Pc.blind, fun U hU hWm => ⟨rfl, hC.2.2.2.2.next hS hU hWm, by rw [hU]; exact hR⟩⟩ rfl hn hsize rfl (lv_room hW) hdg hf
theorem x_catch {E : String} {ce : Cell} {q9 : Addr} (hC : x_C p s m args c cc own gg) (pre : List ExceptionTableEntry) (x : ExceptionTableEntry) (suf : List ExceptionTableEntry) (hsplit : c.exceptionTable.toList = pre ++ x :: suf)
    (hpass : ∀ z ∈ pre, z.catchType ≠ 0 ∧ ∃ nm : String, Cond.classLink own z.catchType nm ∈ wsL_law ∧ (E, nm) ∈ s_nC) (hx : covers x pc = true) (h0 : x.catchType ≠ 0) (hlink : Cond.classLink own x.catchType E ∈ wsL_law) (hcast : (E, E) ∈ s_cs) (hce : H[q9]? = some ce) (hcv : ce.vm = .none) (hcl : s.vm.findClass E = some ce.cls)
    (kk : W p l e R s m args below meth c H locs cells slots Q (F0 m x.handlerPc ls [.ref q9])) : vx_W p l e R s m args below meth c H locs cells slots Q (F0 m pc ls rest) q9 :=
  vx_catch (name := E) hC.2.2.2.1 pre x suf hsplit (fun z hz => Or.inr ⟨(hpass z hz).1, (hpass z hz).2.elim (fun nm h => ⟨nm, hC.2.2.1 _ h.1, hC.2.2.2.2.2.2.2.2.2.2.2.2.2.2.1 _ h.2⟩)⟩) hx h0 (hC.2.2.1 _ hlink) (va_Nw.use rfl (hC.2.2.2.2.2.2.2.2.2.2.2.2.2.1 _ hcast)) hce hcv hcl kk
end XH
theorem xe_n01 : ("java/lang/IllegalArgumentException", "java/lang/IllegalStateException") ∈ s_nC := List.mem_of_getElem? (i := 0) rfl
theorem xe_n02 : ("java/lang/IllegalArgumentException", "java/lang/IndexOutOfBoundsException") ∈ s_nC := List.mem_of_getElem? (i := 1) rfl
theorem xe_n10 : ("java/lang/IllegalStateException", "java/lang/IllegalArgumentException") ∈ s_nC := List.mem_of_getElem? (i := 2) rfl
theorem xe_n12 : ("java/lang/IllegalStateException", "java/lang/IndexOutOfBoundsException") ∈ s_nC := List.mem_of_getElem? (i := 3) rfl
theorem xe_n20 : ("java/lang/IndexOutOfBoundsException", "java/lang/IllegalArgumentException") ∈ s_nC := List.mem_of_getElem? (i := 4) rfl
theorem xe_n21 : ("java/lang/IndexOutOfBoundsException", "java/lang/IllegalStateException") ∈ s_nC := List.mem_of_getElem? (i := 5) rfl
