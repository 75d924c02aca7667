/-! ===== calls and ends over the abstract store ===== -/
theorem ws_good : wsL_law.all goodWord = true := by decide +kernel
theorem ws_GI {ws : List Cond} (h : ∀ w ∈ ws, w ∈ wsL_law) : GoodIn wsL_law ws := fun w hw => ⟨h w hw, good_of_word (List.all_eq_true.mp ws_good w (h w hw))⟩
abbrev x_hd (y : MethodName) (n : Nat) : Prop := y.cls ≠ "java/lang/invoke/MethodHandle" ∧ y.cls ≠ "java/lang/invoke/VarHandle" ∧ (parseMethodDescriptor y.desc).map (fun d => d.parameters.length) = some n
/-- what the tables say of an instance method, of a static one, of a constructor -/
def x_BV (y : MethodName) (cc : ByteArray) (maxL : Nat) (ret : Option FieldType) (n : Nat) : Prop := Cond.code y cc maxL ret ∈ wsL_law ∧ Cond.instanceMethod y ∈ wsL_law ∧ Cond.selects y.cls y y ∈ wsL_law ∧ Cond.initialized y.cls ∈ wsL_law ∧ x_hd y n
def x_BS (y : MethodName) (cc : ByteArray) (maxL : Nat) (ret : Option FieldType) (n : Nat) : Prop := Cond.code y cc maxL ret ∈ wsL_law ∧ Cond.static y ∈ wsL_law ∧ Cond.initialized y.cls ∈ wsL_law ∧ x_hd y n
def x_BI (y : MethodName) (cc : ByteArray) (maxL : Nat) (n : Nat) : Prop := Cond.code y cc maxL none ∈ wsL_law ∧ Cond.instanceMethod y ∈ wsL_law ∧ Cond.initialized y.cls ∈ wsL_law ∧ y.name = "<init>" ∧ x_hd y n
theorem x_wsIn {y : MethodName} {cc : ByteArray} {maxL : Nat} {ret : Option FieldType} (h : Cond.code y cc maxL ret ∈ wsL_law) : ∀ w ∈ x_ws y cc maxL ret, w ∈ wsL_law := fun w hw => by
  rcases List.mem_cons.mp hw with h1 | h1
  · rw [h1]; exact h
  · exact h1
section XC
variable {p : Program} {l : Launch} {e : Env} {R : Room} {s : State} {m : MethodId} {args : Array Value} {below : List Frame} {meth : Method} {c : Code} {H : Heap} {locs : List Loc} {cells slots : Nat} {Q : State → Prop}
variable {cc : ByteArray} {own : String} {gg : sG} {S : sT} {pc a : Nat} {ls : Array Slot} {rest : List Value}
variable {y : MethodName} {cc1 : ByteArray} {maxL1 nL n index mc ms : Nat} {ret1 : Option FieldType} {rm : Room} {Qc : Array Value → State → Outcome → State → Prop} {As st0 : List Value} {b : Nat}
theorem x_recv {q : vw_C} {ci : Nat} {fs : List Value} (hC : x_C p s m args c cc own gg) (hR : s_Rep gg S H) (hk : s_K S b ≠ 0) (he : s_E gg.2.1 S b = .inr (ci, fs)) (hc : vwCl[ci]? = some q) : ∃ cell : Cell, H[b]? = some cell ∧ cell.vm.isStatics = false ∧ s.vm.findClass q.1 = some cell.cls := by
  obtain ⟨k0, hk0⟩ := s_pl_get (gg := gg) (hR.2.2.1 b hk)
  rw [he] at hk0
  exact va_recv hC.2.2.2.2.1 hR.1 hc hk0
theorem x_runV {q : vw_C} {ci : Nat} {fs : List Value} (hC : x_C p s m args c cc own gg) (hml : c.maxLocals = nL) (hR : s_Rep gg S H) (hS : va_S (s_A gg) s.heap H locs) (hM : Met l y (x_ws y cc1 maxL1 ret1) rm (x_Pc gg (.ref b :: As) S) Qc mc ms (s_A gg)) (hB : x_BV y cc1 maxL1 ret1 n) (hl : Cond.methodLink own index y ∈ wsL_law) (hk : s_K S b ≠ 0) (he : s_E gg.2.1 S b = .inr (ci, fs)) (hc : vwCl[ci]? = some q) (hq : q.1 = y.cls)
    (hrc : rm.cells = mc) (hrs : rm.slots = ms) (hfr : rm.frames + 1 ≤ R.frames ∧ 8 + (maxL1 + 11) + rm.locals ≤ R.locals) (hn : As.length = n) (hsize : ls.size = nL) (hW : (rest.map fun v => v.category).sum ≤ 8) (hdg : decode cc pc = .ok (.invokevirtual index, 3)) (hf : cells + mc ≤ R.cells ∧ slots + ms ≤ R.slots) :
    va_Run p l e R s m args below meth c H locs cells slots mc ms (F0 m pc ls (As.reverse ++ .ref b :: rest)) rest (Qc (Value.ref b :: As).toArray) (s_A gg) := by
  obtain ⟨b1, b2, b3, b4, b5⟩ := hB
  have hr := x_recv hC hR hk he hc
  rw [hq] at hr
  exact va_runV (own := own) (C := y.cls) ⟨hC.1, hC.2.1, hml, hC.2.2.2.1, hC.2.2.1⟩ hM (cwV n hC.2.2.1 (ws_GI (fun w hw => by
    rcases List.mem_append.mp hw with h | h
    · simp only [List.mem_cons, List.not_mem_nil, or_false] at h
      rcases h with h | h | h | h <;> rw [h] <;> assumption
    · exact x_wsIn b1 w h)) rfl hrc hrs ⟨rfl, b5⟩ hfr) ⟨x_Pc.blind, hr, fun U hU hWm => ⟨rfl, hC.2.2.2.2.next hS hU hWm, by rw [hU]; exact hR⟩⟩ rfl hn hsize rfl (lv_room hW) hdg hf
theorem x_runS (hC : x_C p s m args c cc own gg) (hml : c.maxLocals = nL) (hR : s_Rep gg S H) (hS : va_S (s_A gg) s.heap H locs) (hM : Met l y (x_ws y cc1 maxL1 ret1) rm (x_Pc gg As S) Qc mc ms (s_A gg)) (hB : x_BS y cc1 maxL1 ret1 n) (hl : Cond.methodLink own index y ∈ wsL_law)
    (hrc : rm.cells = mc) (hrs : rm.slots = ms) (hfr : rm.frames + 1 ≤ R.frames ∧ 8 + (maxL1 + 11) + rm.locals ≤ R.locals) (hn : As.length = n) (hsize : ls.size = nL) (hW : (rest.map fun v => v.category).sum ≤ 8) (hdg : decode cc pc = .ok (.invokestatic index, 3)) (hf : cells + mc ≤ R.cells ∧ slots + ms ≤ R.slots) :
    va_Run p l e R s m args below meth c H locs cells slots mc ms (F0 m pc ls (As.reverse ++ rest)) rest (Qc As.toArray) (s_A gg) := by
  obtain ⟨b1, b2, b4, b5⟩ := hB
  exact va_runS (own := own) ⟨hC.1, hC.2.1, hml, hC.2.2.2.1, hC.2.2.1⟩ hM (va_cwS n hC.2.2.1 (ws_GI (fun w hw => by
    rcases List.mem_append.mp hw with h | h
    · simp only [List.mem_cons, List.not_mem_nil, or_false] at h
      rcases h with h | h | h <;> rw [h] <;> assumption
    · exact x_wsIn b1 w h)) rfl hrc hrs b5 hfr) ⟨x_Pc.blind, fun U hU hWm => ⟨rfl, hC.2.2.2.2.next hS hU hWm, by rw [hU]; exact hR⟩⟩ rfl hn hsize rfl (lv_room hW) hdg hf
theorem x_runI (hC : x_C p s m args c cc own gg) (hml : c.maxLocals = nL) (hR : s_Rep gg S H) (hS : va_S (s_A gg) s.heap H locs) (hM : Met l y (x_ws y cc1 maxL1 none) rm (x_Pc gg (.ref b :: As) S) Qc mc ms (s_A gg)) (hB : x_BI y cc1 maxL1 n) (hl : Cond.methodLink own index y ∈ wsL_law)
    (hrc : rm.cells = mc) (hrs : rm.slots = ms) (hfr : rm.frames + 1 ≤ R.frames ∧ 8 + (maxL1 + 11) + rm.locals ≤ R.locals) (hn : As.length = n) (hsize : ls.size = nL) (hW : (rest.map fun v => v.category).sum ≤ 8) (hdg : decode cc pc = .ok (.invokespecial index, 3)) (hf : cells + mc ≤ R.cells ∧ slots + ms ≤ R.slots) :
    va_Run p l e R s m args below meth c H locs cells slots mc ms (F0 m pc ls (As.reverse ++ .ref b :: rest)) rest (Qc (Value.ref b :: As).toArray) (s_A gg) := by
  obtain ⟨b1, b2, b4, b6, b5⟩ := hB
  exact va_runI (own := own) ⟨hC.1, hC.2.1, hml, hC.2.2.2.1, hC.2.2.1⟩ hM (cwI n hC.2.2.1 (ws_GI (x_wsIn b1)) rfl hrc hrs (hC.2.2.1 _ b4) (hC.2.2.1 _ hl) (hC.2.2.1 _ b2) b6 b5 hfr) ⟨x_Pc.blind, fun U hU hWm => ⟨rfl, hC.2.2.2.2.next hS hU hWm, by rw [hU]; exact hR⟩⟩ rfl hn hsize rfl (lv_room hW) hdg hf
theorem x_runIN {host : String} (hC : x_C p s m args c cc own gg) (hml : c.maxLocals = nL) (hR : s_Rep gg S H) (hS : va_S (s_A gg) s.heap H locs) (hM : Met l y (x_ws y cc1 maxL1 none) rm (x_Pc gg (.ref b :: As) S) Qc mc ms (s_A gg)) (hB : x_BI y cc1 maxL1 n) (hl : (own, index, y, host) ∈ s_nM)
    (hrc : rm.cells = mc) (hrs : rm.slots = ms) (hfr : rm.frames + 1 ≤ R.frames ∧ 8 + (maxL1 + 11) + rm.locals ≤ R.locals) (hn : As.length = n) (hsize : ls.size = nL) (hW : (rest.map fun v => v.category).sum ≤ 8) (hdg : decode cc pc = .ok (.invokespecial index, 3)) (hf : cells + mc ≤ R.cells ∧ slots + ms ≤ R.slots) :
    va_Run p l e R s m args below meth c H locs cells slots mc ms (F0 m pc ls (As.reverse ++ .ref b :: rest)) rest (Qc (Value.ref b :: As).toArray) (s_A gg) := by
  obtain ⟨b1, b2, b4, b6, b5⟩ := hB
  exact va_runIN (own := own) (host := host) ⟨hC.1, hC.2.1, hml, hC.2.2.2.1, hC.2.2.1⟩ hM ⟨va_cnB n hC.2.2.1 (ws_GI (x_wsIn b1)) rfl hrc hrs (hC.2.2.2.2.2.2.2.1 _ hl) (hC.2.2.1 _ b4) b5 hfr, b6, hC.2.2.1 _ b2⟩ ⟨x_Pc.blind, fun U hU hWm => ⟨rfl, hC.2.2.2.2.next hS hU hWm, by rw [hU]; exact hR⟩⟩ rfl hn hsize rfl (lv_room hW) hdg hf
theorem x_runSN {host : String} (hC : x_C p s m args c cc own gg) (hml : c.maxLocals = nL) (hR : s_Rep gg S H) (hS : va_S (s_A gg) s.heap H locs) (hM : Met l y (x_ws y cc1 maxL1 ret1) rm (x_Pc gg As S) Qc mc ms (s_A gg)) (hB : x_BS y cc1 maxL1 ret1 n) (hl : (own, index, y, host) ∈ s_nM)
    (hrc : rm.cells = mc) (hrs : rm.slots = ms) (hfr : rm.frames + 1 ≤ R.frames ∧ 8 + (maxL1 + 11) + rm.locals ≤ R.locals) (hn : As.length = n) (hsize : ls.size = nL) (hW : (rest.map fun v => v.category).sum ≤ 8) (hdg : decode cc pc = .ok (.invokestatic index, 3)) (hf : cells + mc ≤ R.cells ∧ slots + ms ≤ R.slots) :
    va_Run p l e R s m args below meth c H locs cells slots mc ms (F0 m pc ls (As.reverse ++ rest)) rest (Qc As.toArray) (s_A gg) := by
  obtain ⟨b1, b2, b4, b5⟩ := hB
  exact va_runSN (own := own) (host := host) ⟨hC.1, hC.2.1, hml, hC.2.2.2.1, hC.2.2.1⟩ hM ⟨va_cnB n hC.2.2.1 (ws_GI (x_wsIn b1)) rfl hrc hrs (hC.2.2.2.2.2.2.2.1 _ hl) (hC.2.2.1 _ b4) b5 hfr, hC.2.2.1 _ b2, trivial⟩ ⟨x_Pc.blind, fun U hU hWm => ⟨rfl, hC.2.2.2.2.next hS hU hWm, by rw [hU]; exact hR⟩⟩ rfl hn hsize rfl (lv_room hW) hdg hf
theorem x_ki {Q1 : Int32 → sT → Prop} {av : Array Value} (hr : va_Run p l e R s m args below meth c H locs cells slots mc ms (F0 m pc ls st0) rest (va_Qi Q1 (fun S1 t => s_Rep gg S1 t.heap) (s_A gg) av) (s_A gg)) (hS : va_S (s_A gg) s.heap H locs) (kk : ∀ (r : Int32) (S1 : sT) (H1 : Heap) (locs1 : List Loc), Q1 r S1 → s_Rep gg S1 H1 → va_S (s_A gg) s.heap H1 locs1 → W p l e R s m args below meth c H1 locs1 (cells + mc) (slots + ms) Q (F0 m (pc + 3) ls (.int r :: rest))) : W p l e R s m args below meth c H locs cells slots Q (F0 m pc ls st0) := va_calli hr hS (fun _ _ h => h) (fun _ h => h) (fun r S1 t H1 locs1 ht _ hq hR1 _ _ hS1 => kk r S1 H1 locs1 hq (by rw [← ht]; exact hR1) hS1)
theorem x_kl {Q1 : Int64 → sT → Prop} {av : Array Value} (hr : va_Run p l e R s m args below meth c H locs cells slots mc ms (F0 m pc ls st0) rest (va_Ql Q1 (fun S1 t => s_Rep gg S1 t.heap) (s_A gg) av) (s_A gg)) (hS : va_S (s_A gg) s.heap H locs) (kk : ∀ (r : Int64) (S1 : sT) (H1 : Heap) (locs1 : List Loc), Q1 r S1 → s_Rep gg S1 H1 → va_S (s_A gg) s.heap H1 locs1 → W p l e R s m args below meth c H1 locs1 (cells + mc) (slots + ms) Q (F0 m (pc + 3) ls (.long r :: rest))) : W p l e R s m args below meth c H locs cells slots Q (F0 m pc ls st0) := va_calll hr hS (fun _ _ h => h) (fun _ h => h) (fun r S1 t H1 locs1 ht _ hq hR1 _ _ hS1 => kk r S1 H1 locs1 hq (by rw [← ht]; exact hR1) hS1)
theorem x_kd {Q1 : UInt64 → sT → Prop} {av : Array Value} (hr : va_Run p l e R s m args below meth c H locs cells slots mc ms (F0 m pc ls st0) rest (va_Qd Q1 (fun S1 t => s_Rep gg S1 t.heap) (s_A gg) av) (s_A gg)) (hS : va_S (s_A gg) s.heap H locs) (kk : ∀ (r : UInt64) (S1 : sT) (H1 : Heap) (locs1 : List Loc), Q1 r S1 → s_Rep gg S1 H1 → va_S (s_A gg) s.heap H1 locs1 → W p l e R s m args below meth c H1 locs1 (cells + mc) (slots + ms) Q (F0 m (pc + 3) ls (.double r :: rest))) : W p l e R s m args below meth c H locs cells slots Q (F0 m pc ls st0) := va_calld hr hS (fun _ _ h => h) (fun _ h => h) (fun r S1 t H1 locs1 ht _ hq hR1 _ _ hS1 => kk r S1 H1 locs1 hq (by rw [← ht]; exact hR1) hS1)
theorem x_kq {Q1 : Option Nat → sT → Prop} {av : Array Value} (hr : va_Run p l e R s m args below meth c H locs cells slots mc ms (F0 m pc ls st0) rest (va_Qq Q1 (fun S1 t => s_Rep gg S1 t.heap) (s_A gg) av) (s_A gg)) (hS : va_S (s_A gg) s.heap H locs) (kk : ∀ (r : Option Nat) (S1 : sT) (H1 : Heap) (locs1 : List Loc), Q1 r S1 → s_Rep gg S1 H1 → va_S (s_A gg) s.heap H1 locs1 → W p l e R s m args below meth c H1 locs1 (cells + mc) (slots + ms) Q (F0 m (pc + 3) ls (va_rf r :: rest))) : W p l e R s m args below meth c H locs cells slots Q (F0 m pc ls st0) := va_callq hr hS (fun _ _ h => h) (fun _ h => h) (fun r S1 t H1 locs1 ht _ hq hR1 _ _ hS1 => kk r S1 H1 locs1 hq (by rw [← ht]; exact hR1) hS1)
theorem x_kv {Q1 : sT → Prop} {av : Array Value} (hr : va_Run p l e R s m args below meth c H locs cells slots mc ms (F0 m pc ls st0) rest (va_Qv Q1 (fun S1 t => s_Rep gg S1 t.heap) (s_A gg) av) (s_A gg)) (hS : va_S (s_A gg) s.heap H locs) (kk : ∀ (S1 : sT) (H1 : Heap) (locs1 : List Loc), Q1 S1 → s_Rep gg S1 H1 → va_S (s_A gg) s.heap H1 locs1 → W p l e R s m args below meth c H1 locs1 (cells + mc) (slots + ms) Q (F0 m (pc + 3) ls rest)) : W p l e R s m args below meth c H locs cells slots Q (F0 m pc ls st0) := va_callv hr hS (fun _ _ h => h) (fun _ h => h) (fun S1 t H1 locs1 ht _ hq hR1 _ _ hS1 => kk S1 H1 locs1 hq (by rw [← ht]; exact hR1) hS1)
theorem x_topq {r : Option Nat} (k : ∀ y : Option Nat, y = r → W p l e R s m args below meth c H locs cells slots Q (F0 m pc ls (va_rf y :: rest))) : W p l e R s m args below meth c H locs cells slots Q (F0 m pc ls (va_rf r :: rest)) := k r rfl
theorem x_topd {r : UInt64} (k : ∀ y : UInt64, y = r → W p l e R s m args below meth c H locs cells slots Q (F0 m pc ls (.double y :: rest))) : W p l e R s m args below meth c H locs cells slots Q (F0 m pc ls (.double r :: rest)) := k r rfl
theorem x_some {r : Option Nat} {b : Nat} (h : r = some b) (k : W p l e R s m args below meth c H locs cells slots Q (F0 m pc ls (.ref b :: rest))) : W p l e R s m args below meth c H locs cells slots Q (F0 m pc ls (va_rf r :: rest)) := by
  rw [h]; exact k
theorem x_aload_n (hx : p.tables.exec = Jvm.exec) (hb : c.code = cc) {k : Fin 4} {i : Nat} {r : Option Nat} (hdg : decode cc pc = .ok (.aload_n k, 1)) (hi : (k : Nat) = i) (hl : ls[i]? = some (.val (va_rf r))) (kk : W p l e R s m args below meth c H locs cells slots Q (F0 m (pc + 1) ls (va_rf r :: rest))) : W p l e R s m args below meth c H locs cells slots Q (F0 m pc ls rest) := by
  cases r with
  | none => exact lv_aload_nN hx hb hdg hi hl kk
  | some b => exact lv_aload_n hx hb hdg hi hl kk
theorem x_aload (hx : p.tables.exec = Jvm.exec) (hb : c.code = cc) {i : Nat} {r : Option Nat} (hdg : decode cc pc = .ok (.aload i, 2)) (hl : ls[i]? = some (.val (va_rf r))) (kk : W p l e R s m args below meth c H locs cells slots Q (F0 m (pc + 2) ls (va_rf r :: rest))) : W p l e R s m args below meth c H locs cells slots Q (F0 m pc ls rest) := by
  cases r with
  | none => exact lv_aloadN hx hb hdg hl kk
  | some b => exact lv_aload hx hb hdg hl kk
theorem x_astore_n (hx : p.tables.exec = Jvm.exec) (hb : c.code = cc) {k : Fin 4} {i nL : Nat} {r : Option Nat} {lv lv' : List (Nat × Value)} (hdg : decode cc pc = .ok (.astore_n k, 1)) (hi : (k : Nat) = i) (h : lv_has ls nL lv) (hn : i < nL) (hl : (i, va_rf r) :: lv.filter (fun q => !(q.1 == i) && !(q.1 + 1 == i && q.2.category == 2)) = lv') (kk : ∀ ls' : Array Slot, lv_has ls' nL lv' → W p l e R s m args below meth c H locs cells slots Q (F0 m (pc + 1) ls' rest)) : W p l e R s m args below meth c H locs cells slots Q (F0 m pc ls (va_rf r :: rest)) := by
  cases r with
  | none => exact lv_astore_nN hx hb hdg hi h hn hl kk
  | some b => exact lv_astore_n hx hb hdg hi h hn hl kk
theorem x_astore (hx : p.tables.exec = Jvm.exec) (hb : c.code = cc) {i nL : Nat} {r : Option Nat} {lv lv' : List (Nat × Value)} (hdg : decode cc pc = .ok (.astore i, 2)) (h : lv_has ls nL lv) (hn : i < nL) (hl : (i, va_rf r) :: lv.filter (fun q => !(q.1 == i) && !(q.1 + 1 == i && q.2.category == 2)) = lv') (kk : ∀ ls' : Array Slot, lv_has ls' nL lv' → W p l e R s m args below meth c H locs cells slots Q (F0 m (pc + 2) ls' rest)) : W p l e R s m args below meth c H locs cells slots Q (F0 m pc ls (va_rf r :: rest)) := by
  cases r with
  | none => exact lv_astoreN hx hb hdg h hn hl kk
  | some b => exact lv_astore hx hb hdg h hn hl kk
theorem x_ifnull (hx : p.tables.exec = Jvm.exec) (hb : c.code = cc) {r : Option Nat} {off : Int} {tgt : Nat} (hdg : decode cc pc = .ok (.ifnull off, 3)) (ht : (pc : Int) + off = (tgt : Int)) (kt : r = none → W p l e R s m args below meth c H locs cells slots Q (F0 m tgt ls rest)) (kf : ∀ b, r = some b → W p l e R s m args below meth c H locs cells slots Q (F0 m (pc + 3) ls rest)) : W p l e R s m args below meth c H locs cells slots Q (F0 m pc ls (va_rf r :: rest)) := by
  cases r with
  | none => exact lv_ifnullN hx hb hdg ht (kt rfl)
  | some b => exact lv_ifnull hx hb hdg (kf b rfl)
theorem x_ifnonnull (hx : p.tables.exec = Jvm.exec) (hb : c.code = cc) {r : Option Nat} {off : Int} {tgt : Nat} (hdg : decode cc pc = .ok (.ifnonnull off, 3)) (ht : (pc : Int) + off = (tgt : Int)) (kt : ∀ b, r = some b → W p l e R s m args below meth c H locs cells slots Q (F0 m tgt ls rest)) (kf : r = none → W p l e R s m args below meth c H locs cells slots Q (F0 m (pc + 3) ls rest)) : W p l e R s m args below meth c H locs cells slots Q (F0 m pc ls (va_rf r :: rest)) := by
  cases r with
  | none => exact lv_ifnonnullN hx hb hdg (kf rfl)
  | some b => exact lv_ifnonnull hx hb hdg ht (kt b rfl)
theorem x_rt {t : State} (ht : t.heap = H) (hR : s_Rep gg S H) : s_Rep gg S t.heap := ht ▸ hR
theorem zb_n {v : Int32} (h : v = 0 ∨ v = 1) : narrow .boolean (.int v) = .int v := by rcases h with rfl | rfl <;> decide
theorem zb_f {v : Int32} (h : v = 0 ∨ v = 1) : fits .boolean (.int v) = true := by rcases h with rfl | rfl <;> decide
/-- at a place of the code: from every heap that the store describes -/
def x_X (p : Program) (l : Launch) (e : Env) (R : Room) (s : State) (m : MethodId) (args : Array Value) (below : List Frame) (meth : Method) (c : Code) (gg : sG) (nL cells slots : Nat) (Q : State → Prop) (pc : Nat) (lv : List (Nat × Value)) (st : List Value) (S : sT) : Prop := ∀ (H : Heap) (locs : List Loc) (ls : Array Slot), s_Rep gg S H → va_S (s_A gg) s.heap H locs → lv_has ls nL lv → W p l e R s m args below meth c H locs cells slots Q (F0 m pc ls st)
theorem x_ofW {ret : Option FieldType} {maxL : Nat} (hp : plainFor y = true) (ho : own = y.cls) (hlen : (lg_sl As).length ≤ maxL)
    (body : ∀ p e s m args below meth c, x_C p s m args c cc own gg → c.maxLocals = maxL → meth.sig.returnType = ret → meth.locks = false → (y.name = "<init>" → meth.name = "<init>") → (∀ x ∈ c.exceptionTable.toList, False) → x_X p l e rm s m args below meth c gg maxL 0 0 (MQ below Qc args s mc ms (s_A gg)) 0 (lv_args 0 As) [] S) : Met l y (x_ws y cc maxL ret) rm (x_Pc gg As S) Qc mc ms (s_A gg) := by
  refine MetFree.of_bodySF (code := cc) (maxLocals := maxL) (ret := ret) hp ?_ ?_
  · intro args s m h hn
    obtain ⟨meth, c, h1, h2, h3, h4, h5, h6, -, -⟩ := Cond.code_spec hn (atoms_spec (ws := x_ws y cc maxL ret) h _ List.mem_cons_self)
    exact ⟨meth, c, h1, h2, h3, h4, h5, h6⟩
  · intro p e s m args below meth c s₁ B hml hv _
    obtain ⟨rfl, hE, hR⟩ := hv
    have hh0 : s₁.heap = s.heap := by rw [B.state]; rfl
    have hts := atoms_spec (ws := x_ws y cc maxL ret) B.pre
    have hown : s.vm.findClass y.cls = some m.cls := findClass_of_methodNamed B.named
    have ht : ∀ x ∈ c.exceptionTable.toList, False := by
      obtain ⟨meth9, c9, h1, h2, -, -, -, -, h7, -⟩ := Cond.code_spec B.named (atoms_spec (ws := x_ws y cc maxL ret) B.pre _ List.mem_cons_self)
      cases Option.some.inj (h1.symm.trans B.method)
      cases Option.some.inj (h2.symm.trans (Stand.of_body B).code)
      intro x hx
      rw [Array.isEmpty_iff.mp h7] at hx
      cases hx
    have K := body p e s m As.toArray below meth c ⟨B.exec, B.bytes, fun w h => hts w (List.mem_cons_of_mem _ h), by rw [ho]; exact hown, hE⟩ hml B.returns B.notSynchronized (fun h => (name_of_methodNamed B.named B.method).1.trans h) ht
    have hl := lv_entry As (n := maxL) hlen
    have K2 := K s.heap [] _ hR va_S.rf hl
    rw [← lg_entry_eq] at K2
    obtain ⟨t, a1, o, b1, b2, b3⟩ := K2 s₁ hh0 (Stand.of_body B)
    exact ⟨t, o, a1, b1, b2, ⟨b3.1, b3.2⟩⟩
theorem va_rf_cat (r : Option Nat) : (va_rf r).category = 1 := by cases r <;> rfl
end XC
