section PqWrap
variable {p : Program} {l : Launch} {e : Env} {R : Room} {s : State} {m : MethodId} {args : Array Value} {below : List Frame} {meth : Method} {c : Code} {H : Heap} {locs : List Loc} {cells slots : Nat} {Q : State → Prop}
variable {cl : List vw_C} {s0 : State} {D : va_G} {y : MethodName} {bytes cc : ByteArray} {maxL nL mc ms index : Nat} {ret : Option FieldType} {rm : Room} {Qc : Array Value → State → Outcome → State → Prop} {XC : String → State → State → Prop} {free : Addr → Prop} {own : String} {b : Addr} {As rest st0 : List Value} {pc : Nat} {ls : Array Slot} {wc : va_W} {lvs : List (Nat × Value)} {hh : List (Nat × Nat × Nat × Nat)}
/-- the head of a method with an exception table -/
theorem pq_ofH {ws : va_W} {argv : List Value} {sz : Nat} {Qf : (Nat → Prop) → Array Value → State → Outcome → State → Prop} (hy : plainName y.cls = true) (hlen : (lg_sl argv).length ≤ maxL)
    (body : ∀ (p : Program) (e : Env) (s : State) (m : MethodId) (below : List Frame) (meth : Method) (c : Code) (A : Nat → Prop) (ls : Array Slot), p.tables.exec = Jvm.exec → c.code = cc → meth.sig.returnType = ret → meth.locks = false → c.maxLocals = maxL → meth.name = y.name → c.exceptionTable.toList = tableOf hh →
      s.vm.findClass y.cls = some m.cls → s0.WarmedH s.vm → pq_StA s0 s A → s.heap.size = sz → (∀ q : Nat, s.heap.size ≤ q → A q) → va_P D cl ws s.heap → va_D A ws → va_S A s.heap s.heap [] → lv_has ls maxL (lv_args 0 argv) →
      W p l e rm s m argv.toArray below meth c s.heap [] 0 0 (MQ below (Qf A) argv.toArray s mc ms A) (F0 m 0 ls [])) :
    Met l y [.codeWith y cc maxL ret hh] rm (va_Pc argv (pq_Pre cl s0 D ws sz)) (Qf (va_A ws sz)) mc ms (va_A ws sz) := by
  refine va_MetW (cc := cc) (maxL := maxL) (ret := ret) (hh := hh) (ws' := []) hy rfl ?_
  intro p e s m args below meth c s₁ B hml hv
  have htab := vx_table (x := y) B (atoms_spec (ws := [Cond.codeWith y cc maxL ret hh]) B.pre _ List.mem_cons_self)
  obtain ⟨rfl, hW0, hSt, hsz, hP, hD0⟩ := hv
  subst hsz
  have hD := hD0.self (sz := s.heap.size)
  have hl := lv_entry argv (n := maxL) hlen
  rw [lg_entry_eq]
  refine body p e s m below meth c (va_A ws s.heap.size) _ B.exec B.bytes B.returns B.notSynchronized hml (name_of_methodNamed B.named B.method).1 htab (findClass_of_methodNamed B.named) hW0 ?_ rfl (fun q h => Or.inr h) hP hD va_S.rf hl
  intro a cell h1 h2
  have h3 := hSt a cell h1 h2
  refine ⟨fun h => ?_, h3⟩
  rcases h with ⟨k, e, h⟩ | h
  · have := pq_notStat (hP k _ h) h3
    rw [this] at h2
    cases h2
  · have := (Array.getElem?_eq_some_iff.mp h3).1
    omega
/-- a call of a method that may throw -/
theorem pq_xrunV (hx : p.tables.exec = Jvm.exec) (hb : c.code = cc) (hml : c.maxLocals = nL) (hown : s.vm.findClass own = some m.cls) (k : pq_Ask s args y bytes maxL ret As.length ∧ (Cond.methodLink own index y).before args s = true ∧ (Cond.instanceMethod y).before args s = true ∧ (Cond.selects y.cls y y).before args s = true)
    (hM : vx_Met l y [.code y bytes maxL ret] rm (va_Pc (.ref b :: As) (pq_Pre cl s0 D wc H.size)) Qc XC mc ms free) (hrc : rm.cells = mc) (hrs : rm.slots = ms) (hfr : rm.frames + 1 ≤ R.frames) (hlo : 8 + (maxL + 11) + rm.locals ≤ R.locals)
    (hPre : ∀ U : State, U.heap = H → s.WarmedH U.vm → pq_Pre cl s0 D wc H.size U) (hrecv : ∃ cellB : Cell, H[b]? = some cellB ∧ cellB.vm.isStatics = false ∧ s.vm.findClass y.cls = some cellB.cls)
    (hl : lv_has ls nL lvs) (hstack : st0 = As.reverse ++ .ref b :: rest) (hW : (rest.map fun v => v.category).sum ≤ 8) (hdg : decode cc pc = .ok (.invokevirtual index, 3)) (hf : cells + mc ≤ R.cells ∧ slots + ms ≤ R.slots) :
    vx_Run p l e R s m args below meth c H locs cells slots mc ms (F0 m pc ls st0) rest (Qc (Value.ref b :: As).toArray) XC free :=
  vx_runV (Ts := []) (C := y.cls) ⟨hx, hb, hml, hown, fun _ h => by cases h⟩ hM ⟨⟨hrc, hrs, hfr, hlo, pq_wsOf k.1.1, List.mem_singleton.mpr rfl, k.1.1, k.1.2.1, k.1.2.2.1, k.1.2.2.2, k.2.1⟩, k.2.2.1, k.2.2.2⟩ ⟨pq_blind, hrecv, fun U hU hW' => ⟨rfl, hPre U hU hW'⟩⟩ rfl rfl hl.1 hstack (lv_room hW) hdg hf
/-- what a call asks of a callee with an exception table -/
def pq_AskW (s : State) (args : Array Value) (y : MethodName) (bytes : ByteArray) (maxL : Nat) (ret : Option FieldType) (hh : List (Nat × Nat × Nat × Nat)) (n : Nat) : Prop :=
  (Cond.codeWith y bytes maxL ret hh).before args s = true ∧ (Cond.initialized y.cls).before args s = true ∧ (y.cls ≠ "java/lang/invoke/MethodHandle" ∧ y.cls ≠ "java/lang/invoke/VarHandle") ∧ (∀ sig, parseMethodDescriptor y.desc = some sig → n = sig.parameters.length)
theorem pq_wsOfW (h : (Cond.codeWith y bytes maxL ret hh).before args s = true) : ∀ w ∈ [Cond.codeWith y bytes maxL ret hh], ∀ (a' : Array Value) (U : State), s.WarmedH U.vm → w.before a' U = true := by
  intro w hw a' U hW
  rw [List.mem_singleton] at hw
  subst hw
  exact word_at hW (Or.inl (by first | rfl | simp [Cond.onTables, Cond.keeps, Cond.steady])) h
theorem pq_runSW (hx : p.tables.exec = Jvm.exec) (hb : c.code = cc) (hml : c.maxLocals = nL) (hown : s.vm.findClass own = some m.cls) (k : pq_AskW s args y bytes maxL ret hh As.length ∧ (Cond.methodLink own index y).before args s = true ∧ (Cond.static y).before args s = true)
    (hM : Met l y [.codeWith y bytes maxL ret hh] rm (va_Pc As (pq_Pre cl s0 D wc H.size)) Qc mc ms free) (hrc : rm.cells = mc) (hrs : rm.slots = ms) (hfr : rm.frames + 1 ≤ R.frames) (hlo : 8 + (maxL + 11) + rm.locals ≤ R.locals)
    (hPre : ∀ U : State, U.heap = H → s.WarmedH U.vm → pq_Pre cl s0 D wc H.size U)
    (hl : lv_has ls nL lvs) (hstack : st0 = As.reverse ++ rest) (hW : (rest.map fun v => v.category).sum ≤ 8) (hdg : decode cc pc = .ok (.invokestatic index, 3)) (hf : cells + mc ≤ R.cells ∧ slots + ms ≤ R.slots) :
    va_Run p l e R s m args below meth c H locs cells slots mc ms (F0 m pc ls st0) rest (Qc As.toArray) free :=
  vx_runSW (Ts := []) ⟨hx, hb, hml, hown, fun _ h => by cases h⟩ hM ⟨⟨hrc, hrs, hfr, hlo, pq_wsOfW k.1.1, List.mem_singleton.mpr rfl⟩, k.1.1, k.1.2.1, k.1.2.2.1, k.1.2.2.2, k.2.1, k.2.2⟩ ⟨pq_blind, fun U hU hW' => ⟨rfl, hPre U hU hW'⟩⟩ rfl rfl hl.1 hstack (lv_room hW) hdg hf
variable {A : Nat → Prop} {ws : va_W} {is : List Nat} {H0 : Heap} {a : Array Value}
theorem pq_xci {v : Int32} {ok : Prop} {XE : String → Prop} {w1 w2 ws' wx' : (Nat → Nat → Int32) → va_W} (hr : vx_Run p l e R s m args below meth c H locs cells slots mc ms (F0 m pc ls st0) rest (va_Qi (fun r (_ : Nat → Nat → Int32) => r = v ∧ ok) (fun u t => va_P D cl (w1 u) t.heap) (va_A wc H.size) a) (pq_XC cl D XE w2 (va_A wc H.size)) (va_A wc H.size))
    (hP : va_P D cl ws H) (hD : va_D A ws) (hS : va_S A H0 H locs) (hA : ∀ q : Nat, H0.size ≤ q → A q) (hC : is.map (fun i => ws[i]?) = wc.map some) {ad : List Nat} (hF1 : ws.map Prod.fst = ad)
    (hl1 : ∀ u, (w1 u).length = is.length) (hN1 : ∀ u, pq_rep is (w1 u) ws = ws' u) (hG1 : ∀ u, (ws' u).map Prod.fst = ad) (hl2 : ∀ u, (w2 u).length = is.length) (hN2 : ∀ u, pq_rep is (w2 u) ws = wx' u) (hG2 : ∀ u, (wx' u).map Prod.fst = ad)
    (kx : ∀ (E : String) (ce : Cell) (q9 : Addr) (u : Nat → Nat → Int32) (H1 : Heap) (locs1 : List Loc), XE E → va_P D cl (wx' u) H1 → va_D A (wx' u) → va_S A H0 H1 locs1 → H1[q9]? = some ce → ce.vm = .none → s.vm.findClass E = some ce.cls → vx_W p l e R s m args below meth c H1 locs1 (cells + mc) (slots + ms) Q (F0 m pc ls rest) q9)
    (kk : ∀ (u : Nat → Nat → Int32) (H1 : Heap) (locs1 : List Loc), ok → va_P D cl (ws' u) H1 → va_D A (ws' u) → va_S A H0 H1 locs1 → W p l e R s m args below meth c H1 locs1 (cells + mc) (slots + ms) Q (F0 m (pc + 3) ls (.int v :: rest))) : W p l e R s m args below meth c H locs cells slots Q (F0 m pc ls st0) := by
  have hFc := va_free (wc := wc) hD hS hA is hC
  refine vx_calli hr hS (fun q _ h => hFc q h) hFc (fun q _ h => hFc q h) (fun E ce q9 u t H1 locs1 ht hvm hw hB hz hk hS1 h1 h2 h3 => ?_) (fun r u t H1 locs1 ht hvm hw hB hz hk hS1 => ?_)
  · obtain ⟨hE, hB⟩ := hB
    have hB : va_P _ _ _ t.heap := hB
    rw [ht] at hB
    obtain ⟨hP2, hD2⟩ := pq_back hP hD hC hk hB (hl2 u) (hN2 u) hF1 (hG2 u)
    exact kx E ce q9 u H1 locs1 hE hP2 hD2 hS1 h1 h2 h3
  · have hB : va_P _ _ _ t.heap := hB
    rw [ht] at hB
    obtain ⟨hP2, hD2⟩ := pq_back hP hD hC hk hB (hl1 u) (hN1 u) hF1 (hG1 u)
    have hw : r = v ∧ ok := hw
    obtain ⟨hw, hok⟩ := hw
    subst hw
    exact kk u H1 locs1 hok hP2 hD2 hS1
theorem pq_xcv {ok : Prop} {XE : String → Prop} {w1 w2 ws' wx' : (Nat → Nat → Int32) → va_W} (hr : vx_Run p l e R s m args below meth c H locs cells slots mc ms (F0 m pc ls st0) rest (va_Qv (fun (_ : Nat → Nat → Int32) => ok) (fun u t => va_P D cl (w1 u) t.heap) (va_A wc H.size) a) (pq_XC cl D XE w2 (va_A wc H.size)) (va_A wc H.size))
    (hP : va_P D cl ws H) (hD : va_D A ws) (hS : va_S A H0 H locs) (hA : ∀ q : Nat, H0.size ≤ q → A q) (hC : is.map (fun i => ws[i]?) = wc.map some) {ad : List Nat} (hF1 : ws.map Prod.fst = ad)
    (hl1 : ∀ u, (w1 u).length = is.length) (hN1 : ∀ u, pq_rep is (w1 u) ws = ws' u) (hG1 : ∀ u, (ws' u).map Prod.fst = ad) (hl2 : ∀ u, (w2 u).length = is.length) (hN2 : ∀ u, pq_rep is (w2 u) ws = wx' u) (hG2 : ∀ u, (wx' u).map Prod.fst = ad)
    (kx : ∀ (E : String) (ce : Cell) (q9 : Addr) (u : Nat → Nat → Int32) (H1 : Heap) (locs1 : List Loc), XE E → va_P D cl (wx' u) H1 → va_D A (wx' u) → va_S A H0 H1 locs1 → H1[q9]? = some ce → ce.vm = .none → s.vm.findClass E = some ce.cls → vx_W p l e R s m args below meth c H1 locs1 (cells + mc) (slots + ms) Q (F0 m pc ls rest) q9)
    (kk : ∀ (u : Nat → Nat → Int32) (H1 : Heap) (locs1 : List Loc), ok → va_P D cl (ws' u) H1 → va_D A (ws' u) → va_S A H0 H1 locs1 → W p l e R s m args below meth c H1 locs1 (cells + mc) (slots + ms) Q (F0 m (pc + 3) ls rest)) : W p l e R s m args below meth c H locs cells slots Q (F0 m pc ls st0) := by
  have hFc := va_free (wc := wc) hD hS hA is hC
  refine vx_callv hr hS (fun q _ h => hFc q h) hFc (fun q _ h => hFc q h) (fun E ce q9 u t H1 locs1 ht hvm hw hB hz hk hS1 h1 h2 h3 => ?_) (fun u t H1 locs1 ht hvm hw hB hz hk hS1 => ?_)
  · obtain ⟨hE, hB⟩ := hB
    have hB : va_P _ _ _ t.heap := hB
    rw [ht] at hB
    obtain ⟨hP2, hD2⟩ := pq_back hP hD hC hk hB (hl2 u) (hN2 u) hF1 (hG2 u)
    exact kx E ce q9 u H1 locs1 hE hP2 hD2 hS1 h1 h2 h3
  · have hB : va_P _ _ _ t.heap := hB
    rw [ht] at hB
    obtain ⟨hP2, hD2⟩ := pq_back hP hD hC hk hB (hl1 u) (hN1 u) hF1 (hG1 u)
    exact kk u H1 locs1 hw hP2 hD2 hS1
/-- an int comes back, and cells that the call has made -/
theorem pq_xcz {v : Int32} {ok : Prop} {XE : String → Prop} {wz : (Nat → Nat) → va_W} {wr : va_W} {w2 wx' : (Nat → Nat → Int32) → va_W} (hr : vx_Run p l e R s m args below meth c H locs cells slots mc ms (F0 m pc ls st0) rest (va_Qi (fun r (_ : Nat → Nat) => r = v ∧ ok) (fun z t => va_P D cl (wz z) t.heap ∧ va_D (va_A wc H.size) (wz z)) (va_A wc H.size) a) (pq_XC cl D XE w2 (va_A wc H.size)) (va_A wc H.size))
    (hP : va_P D cl ws H) (hD : va_D A ws) (hS : va_S A H0 H locs) (hA : ∀ q : Nat, H0.size ≤ q → A q) (isC isR : List Nat) (hC : isC.map (fun i => ws[i]?) = wc.map some) (hR : isR.map (fun i => ws[i]?) = wr.map some) (hn : va_nd isR = true) (hdis : ∀ i ∈ isR, i ∉ isC) {ad : List Nat} (hF1 : ws.map Prod.fst = ad)
    (hl2 : ∀ u, (w2 u).length = isC.length) (hN2 : ∀ u, pq_rep isC (w2 u) ws = wx' u) (hG2 : ∀ u, (wx' u).map Prod.fst = ad)
    (kx : ∀ (E : String) (ce : Cell) (q9 : Addr) (u : Nat → Nat → Int32) (H1 : Heap) (locs1 : List Loc), XE E → va_P D cl (wx' u) H1 → va_D A (wx' u) → va_S A H0 H1 locs1 → H1[q9]? = some ce → ce.vm = .none → s.vm.findClass E = some ce.cls → vx_W p l e R s m args below meth c H1 locs1 (cells + mc) (slots + ms) Q (F0 m pc ls rest) q9)
    (kk : ∀ (z : Nat → Nat) (H1 : Heap) (locs1 : List Loc), ok → va_P D cl (wr ++ wz z) H1 → va_D A (wr ++ wz z) → va_S A H0 H1 locs1 → W p l e R s m args below meth c H1 locs1 (cells + mc) (slots + ms) Q (F0 m (pc + 3) ls (.int v :: rest))) : W p l e R s m args below meth c H locs cells slots Q (F0 m pc ls st0) := by
  have hFc := va_free (wc := wc) hD hS hA isC hC
  refine vx_calli hr hS (fun q _ h => hFc q h) hFc (fun q _ h => hFc q h) (fun E ce q9 u t H1 locs1 ht hvm hw hB hz hk hS1 h1 h2 h3 => ?_) (fun r z t H1 locs1 ht hvm hw hB hz hk hS1 => ?_)
  · obtain ⟨hE, hB⟩ := hB
    have hB : va_P _ _ _ t.heap := hB
    rw [ht] at hB
    obtain ⟨hP2, hD2⟩ := pq_back hP hD hC hk hB (hl2 u) (hN2 u) hF1 (hG2 u)
    exact kx E ce q9 u H1 locs1 hE hP2 hD2 hS1 h1 h2 h3
  · obtain ⟨hB1, hB2⟩ := hB
    have hB1 : va_P _ _ _ t.heap := hB1
    rw [ht] at hB1
    obtain ⟨hP2, hD2⟩ := va_join hP hD isC isR hC hR hn hdis hk hFc hB1 hB2
    have hw : r = v ∧ ok := hw
    obtain ⟨hw, hok⟩ := hw
    subst hw
    exact kk z H1 locs1 hok hP2 hD2 hS1
/-- caught by the first row -/
theorem pq_catch1 {own name : String} {E : String} {ce : Cell} {q : Addr} {x : Nat × Nat × Nat × Nat} {hh' : List (Nat × Nat × Nat × Nat)} (hown : s.vm.findClass own = some m.cls) (hex : c.exceptionTable.toList = tableOf (x :: hh')) (hcov : x.1 ≤ pc ∧ pc < x.2.1) (h0 : x.2.2.2 ≠ 0)
    (hlink : (Cond.classLink own x.2.2.2 name).before args s = true) (hcast : (Cond.castable E name).before args s = true) (hcell : H[q]? = some ce) (hv : ce.vm = .none) (hcl : s.vm.findClass E = some ce.cls)
    (kk : W p l e R s m args below meth c H locs cells slots Q (F0 m x.2.2.1 ls [.ref q])) : vx_W p l e R s m args below meth c H locs cells slots Q (F0 m pc ls rest) q := by
  obtain ⟨x1, x2, x3, x4⟩ := x
  exact vx_catch hown [] ⟨x1, x2, x3, x4⟩ (tableOf hh') hex (fun z hz => by cases hz) (by simp [covers, hcov.1, hcov.2]) h0 hlink hcast hcell hv hcl kk
/-- .. by the second: the first doesn't take it -/
theorem pq_catch2 {own name nm : String} {E : String} {ce : Cell} {q : Addr} {x1 x : Nat × Nat × Nat × Nat} {hh' : List (Nat × Nat × Nat × Nat)} (hown : s.vm.findClass own = some m.cls) (hex : c.exceptionTable.toList = tableOf (x1 :: x :: hh')) (h1 : x1.2.2.2 ≠ 0) (hl1 : (Cond.classLink own x1.2.2.2 nm).before args s = true) (hno : va_Nc E nm s) (hcov : x.1 ≤ pc ∧ pc < x.2.1) (h0 : x.2.2.2 ≠ 0)
    (hlink : (Cond.classLink own x.2.2.2 name).before args s = true) (hcast : (Cond.castable E name).before args s = true) (hcell : H[q]? = some ce) (hv : ce.vm = .none) (hcl : s.vm.findClass E = some ce.cls)
    (kk : W p l e R s m args below meth c H locs cells slots Q (F0 m x.2.2.1 ls [.ref q])) : vx_W p l e R s m args below meth c H locs cells slots Q (F0 m pc ls rest) q := by
  obtain ⟨y1, y2, y3, y4⟩ := x1
  obtain ⟨x1, x2, x3, x4⟩ := x
  exact vx_catch hown [⟨y1, y2, y3, y4⟩] ⟨x1, x2, x3, x4⟩ (tableOf hh') hex (fun z hz => by rw [List.mem_singleton] at hz; subst hz; exact Or.inr ⟨h1, nm, hl1, hno⟩) (by simp [covers, hcov.1, hcov.2]) h0 hlink hcast hcell hv hcl kk
theorem pq_retiz {v v' : Int32} {wz : (Nat → Nat) → va_W} (z : Nat → Nat) (hx : p.tables.exec = Jvm.exec) (hb : c.code = cc) (hr : meth.sig.returnType = some .int) (hlocks : meth.locks = false) (hv : v' = v) (hP : va_P D cl (wz z) H) (hD : va_D A (wz z)) (hS : va_S A s.heap H locs) (hc : cells ≤ mc) (hs : slots ≤ ms) (hdg : decode cc pc = .ok (.ireturn, 1)) :
    W p l e R s m args below meth c H locs cells slots (MQ below (va_Qi (fun r (_ : Nat → Nat) => r = v) (fun z t => va_P D cl (wz z) t.heap ∧ va_D A (wz z)) A) args s mc ms A) (F0 m pc ls [.int v']) := by
  refine W.widen (k := mc) (n := ms) hc hs ?_
  exact W.iret hx hb hr (fun t ht hW => ⟨⟨v', z, rfl, hv, by show va_P _ _ _ t.heap ∧ _; rw [ht]; exact ⟨hP, hD⟩⟩, hS.F ht⟩) hS.2.2 hdg hlocks
/-- the classes that a row of the tables doesn't take -/
def pq_BN (s0 : State) : Prop := va_Nc "java/lang/IllegalArgumentException" "java/lang/IllegalStateException" s0 ∧ va_Nc "java/lang/IllegalStateException" "java/lang/IllegalArgumentException" s0 ∧ va_Nc "java/lang/IllegalArgumentException" "java/util/NoSuchElementException" s0
end PqWrap
