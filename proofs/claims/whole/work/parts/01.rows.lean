section PqBase
/-- the statics of the start stand in H -/
def pq_St (s0 : State) (H : Heap) : Prop := ∀ (a : Nat) (cell : Cell), s0.heap[a]? = some cell → cell.vm.isStatics = true → H[a]? = some cell
/-- .. and A, what a method may write, has none of them -/
def pq_StA (s0 s : State) (A : Nat → Prop) : Prop := ∀ (a : Nat) (cell : Cell), s0.heap[a]? = some cell → cell.vm.isStatics = true → ¬ A a ∧ s.heap[a]? = some cell
theorem pq_StA.now {s0 s : State} {A : Nat → Prop} {H : Heap} {locs : List Loc} (h : pq_StA s0 s A) (hS : va_S A s.heap H locs) : pq_St s0 H := by
  intro a cell h1 h2
  obtain ⟨g1, g2⟩ := h a cell h1 h2
  rw [hS.2.1 a (Array.getElem?_eq_some_iff.mp g2).1 g1]
  exact g2
theorem pq_notStat {D : va_G} {cl : List vw_C} {q : Nat × va_E} {H : Heap} (h : va_at D cl q H) {cell : Cell} (hc : H[q.1]? = some cell) : cell.vm.isStatics = false := by
  obtain ⟨a, e⟩ := q
  cases e with
  | inl x =>
    have h' : H[a]? = some (vp_cell x.1 x.2) := h
    cases Option.some.inj (hc.symm.trans h')
    obtain ⟨cA, n, f⟩ := x
    rcases f with f | f | f | f | f <;> rfl
  | inr o =>
    obtain ⟨r, h1, cell', g1, g2, g3, -⟩ := h
    cases Option.some.inj (hc.symm.trans g1)
    rw [g3]; rfl
/-- a method's start: the tables at least as warm as at the law's start, the statics, the cells -/
def pq_Pre (cl : List vw_C) (s0 : State) (D : va_G) (ws : va_W) (sz : Nat) (U : State) : Prop := s0.WarmedH U.vm ∧ pq_St s0 U.heap ∧ U.heap.size = sz ∧ va_P D cl ws U.heap ∧ va_D (fun _ => True) ws
abbrev pq_rm (d mc ms : Nat) : Room := { frames := d, cells := mc, slots := ms, locals := 40 * d }
theorem pq_blind {cl : List vw_C} {av : List Value} {s0 : State} {D : va_G} {ws : va_W} {sz : Nat} : FrameBlind (va_Pc av (pq_Pre cl s0 D ws sz)) :=
  fun _ _ _ _ q => ⟨q.1, q.2.1, q.2.2.1, q.2.2.2.1, q.2.2.2.2.1, q.2.2.2.2.2⟩
theorem pq_at {ws wc : va_W} {is : List Nat} (h : is.map (fun i => ws[i]?) = wc.map some) {k : Nat} {q : Nat × va_E} (hk : wc[k]? = some q) : ∃ i, is[k]? = some i ∧ ws[i]? = some q := by
  have h1 : (is.map (fun i => ws[i]?))[k]? = some (some q) := by rw [h]; simp [hk]
  rw [List.getElem?_map] at h1
  cases hi : is[k]? with
  | none => rw [hi] at h1; cases h1
  | some i =>
    rw [hi] at h1
    exact ⟨i, rfl, Option.some.inj h1⟩
theorem pq_sub {D : va_G} {cl : List vw_C} {ws wc : va_W} {H : Heap} {is : List Nat} (hP : va_P D cl ws H) (h : is.map (fun i => ws[i]?) = wc.map some) : va_P D cl wc H := by
  intro k q hk
  obtain ⟨i, -, hi⟩ := pq_at h hk
  exact hP i q hi
/-- what a callee finds -/
theorem pq_pre {cl : List vw_C} {s0 s : State} {D : va_G} {ws wc : va_W} {A : Nat → Prop} {H : Heap} (hW0 : s0.WarmedH s.vm) (hSt : pq_St s0 H) (hP : va_P D cl ws H) (hD : va_D A ws) (is : List Nat) (hn : va_nd is = true) (hC : is.map (fun i => ws[i]?) = wc.map some) :
    ∀ U : State, U.heap = H → s.WarmedH U.vm → pq_Pre cl s0 D wc H.size U :=
  fun U hU hW => ⟨State.WarmedH.trans hW0 hW, by rw [hU]; exact hSt, by rw [hU], by rw [hU]; exact pq_sub hP hC, (hD.sub is hn hC).weaken (fun _ _ _ _ => trivial)⟩
/-- the cells w1 laid over the places is -/
def pq_rep : List Nat → va_W → va_W → va_W
  | i :: is, q :: w, ws => pq_rep is w (ws.set i q)
  | _, _, ws => ws
theorem pq_rep_P {D : va_G} {cl : List vw_C} {H : Heap} : ∀ (is : List Nat) (w ws : va_W), w.length = is.length → va_P D cl w H → (∀ (k : Nat) (q : Nat × va_E), k ∉ is → ws[k]? = some q → va_at D cl q H) → va_P D cl (pq_rep is w ws) H := by
  intro is
  induction is with
  | nil =>
    intro w ws hl hw hk
    cases w with
    | nil => exact fun k q h => hk k q (by simp) h
    | cons q w => cases hl
  | cons i is ih =>
    intro w ws hl hw hk
    cases w with
    | nil => cases hl
    | cons q w =>
      refine ih w (ws.set i q) (by simpa using hl) (fun k r h => hw (k + 1) r (by simpa using h)) ?_
      intro k r hki h
      by_cases he : i = k
      · subst he
        have hr : r = q := by
          rw [List.getElem?_set_self'] at h
          cases hz : ws[i]? with
          | none => rw [hz] at h; cases h
          | some z => rw [hz] at h; exact (Option.some.inj h).symm
        subst hr
        exact hw 0 r rfl
      · rw [List.getElem?_set_ne he] at h
        exact hk k r (by simp only [List.mem_cons, not_or]; exact ⟨fun e => he e.symm, hki⟩) h
theorem pq_D {A : Nat → Prop} {ws ws' : va_W} (hD : va_D A ws) (h : ws'.map Prod.fst = ws.map Prod.fst) : va_D A ws' := by
  have key : ∀ (k : Nat) (q : Nat × va_E), ws'[k]? = some q → ∃ r, ws[k]? = some r ∧ r.1 = q.1 := by
    intro k q hk
    have h1 : (ws.map Prod.fst)[k]? = some q.1 := by rw [← h]; simp [hk]
    rw [List.getElem?_map] at h1
    cases hi : ws[k]? with
    | none => rw [hi] at h1; cases h1
    | some r =>
      rw [hi] at h1
      exact ⟨r, rfl, Option.some.inj h1⟩
  refine ⟨fun i j p q hp hq hpq => ?_, fun k q hk => ?_⟩
  · obtain ⟨p', h1, h2⟩ := key i p hp
    obtain ⟨q', h3, h4⟩ := key j q hq
    exact hD.1 i j p' q' h1 h3 (by rw [h2, h4]; exact hpq)
  · obtain ⟨r, h1, h2⟩ := key k q hk
    rw [← h2]
    exact hD.2 k r h1
/-- behind a call that changed the cells at the places is -/
theorem pq_back {A : Nat → Prop} {D : va_G} {cl : List vw_C} {ws wc w1 ws' : va_W} {H H1 : Heap} {is : List Nat} (hP : va_P D cl ws H) (hD : va_D A ws) (hC : is.map (fun i => ws[i]?) = wc.map some)
    (hk : ∀ q : Nat, q < H.size → ¬ va_A wc H.size q → H1[q]? = H[q]?) (hP1 : va_P D cl w1 H1) (hl : w1.length = is.length) (hN : pq_rep is w1 ws = ws') {ad : List Nat} (hF1 : ws.map Prod.fst = ad) (hF : ws'.map Prod.fst = ad) : va_P D cl ws' H1 ∧ va_D A ws' := by
  refine ⟨?_, pq_D hD (hF.trans hF1.symm)⟩
  rw [← hN]
  refine pq_rep_P is w1 ws hl hP1 (fun k q hki hq => ?_)
  have hlt := (hP k q hq).lt
  refine (hP k q hq).kept (hk q.1 hlt (fun h => ?_))
  rcases h with ⟨k2, e, h⟩ | h
  · obtain ⟨i, h3, h4⟩ := pq_at hC h
    have hij := hD.1 k i q (q.1, e) hq h4 rfl
    subst hij
    exact hki (List.mem_of_getElem? h3)
  · omega
end PqBase
section PqHead
/-- the head of any method: from its walk to its contract -/
theorem pq_ofW {l : Launch} {cl : List vw_C} {s0 : State} {D : va_G} {y : MethodName} {cc : ByteArray} {maxL : Nat} {ret : Option FieldType} {rm : Room} {mc ms : Nat} {ws : va_W} {argv : List Value} {sz : Nat}
    {Qf : (Nat → Prop) → Array Value → State → Outcome → State → Prop} (hy : plainName y.cls = true) (hlen : (lg_sl argv).length ≤ maxL)
    (body : ∀ (p : Program) (e : Env) (s : State) (m : MethodId) (below : List Frame) (meth : Method) (c : Code) (A : Nat → Prop) (ls : Array Slot), p.tables.exec = Jvm.exec → c.code = cc → meth.sig.returnType = ret → meth.locks = false → c.maxLocals = maxL → meth.name = y.name →
      s.vm.findClass y.cls = some m.cls → s0.WarmedH s.vm → pq_StA s0 s A → s.heap.size = sz → (∀ q : Nat, s.heap.size ≤ q → A q) → va_P D cl ws s.heap → va_D A ws → va_S A s.heap s.heap [] → lv_has ls maxL (lv_args 0 argv) →
      W p l e rm s m argv.toArray below meth c s.heap [] 0 0 (MQ below (Qf A) argv.toArray s mc ms A) (F0 m 0 ls [])) :
    Met l y [.code y cc maxL ret] rm (va_Pc argv (pq_Pre cl s0 D ws sz)) (Qf (va_A ws sz)) mc ms (va_A ws sz) := by
  refine Met.ofW (cc := cc) (maxL := maxL) (ret := ret) (ws' := []) hy rfl ?_
  intro p e s m args below meth c s₁ B hml hv
  obtain ⟨rfl, hW0, hSt, hsz, hP, hD0⟩ := hv
  subst hsz
  have hD := hD0.self (sz := s.heap.size)
  have hl := lv_entry argv (n := maxL) hlen
  rw [lg_entry_eq]
  refine body p e s m below meth c (va_A ws s.heap.size) _ B.exec B.bytes B.returns B.notSynchronized hml (name_of_methodNamed B.named B.method).1 (findClass_of_methodNamed B.named) hW0 ?_ rfl (fun q h => Or.inr h) hP hD va_S.rf hl
  intro a cell h1 h2
  have h3 := hSt a cell h1 h2
  refine ⟨fun h => ?_, h3⟩
  rcases h with ⟨k, e, h⟩ | h
  · have := pq_notStat (hP k _ h) h3
    rw [this] at h2
    cases h2
  · have := (Array.getElem?_eq_some_iff.mp h3).1
    omega
end PqHead
section PqCalls
variable {p : Program} {l : Launch} {e : Env} {R : Room} {s : State} {m : MethodId} {args : Array Value} {below : List Frame} {meth : Method} {c : Code} {H : Heap} {locs : List Loc} {cells slots : Nat} {Q : State → Prop}
variable {cl : List vw_C} {s0 : State} {D : va_G} {y : MethodName} {bytes cc : ByteArray} {maxL nL mc ms index : Nat} {ret : Option FieldType} {rm : Room} {Qc : Array Value → State → Outcome → State → Prop} {free : Addr → Prop} {own host : String} {b : Addr} {As rest st0 : List Value} {pc : Nat} {ls : Array Slot} {wc : va_W} {lvs : List (Nat × Value)}
/-- what a call asks of the callee -/
def pq_Ask (s : State) (args : Array Value) (y : MethodName) (bytes : ByteArray) (maxL : Nat) (ret : Option FieldType) (n : Nat) : Prop :=
  (Cond.code y bytes maxL ret).before args s = true ∧ (Cond.initialized y.cls).before args s = true ∧ (y.cls ≠ "java/lang/invoke/MethodHandle" ∧ y.cls ≠ "java/lang/invoke/VarHandle") ∧ (∀ sig, parseMethodDescriptor y.desc = some sig → n = sig.parameters.length)
theorem pq_wsOf (h : (Cond.code y bytes maxL ret).before args s = true) : ∀ w ∈ [Cond.code y bytes maxL ret], ∀ (a' : Array Value) (U : State), s.WarmedH U.vm → w.before a' U = true := by
  intro w hw a' U hW
  rw [List.mem_singleton] at hw
  subst hw
  exact word_at hW (Or.inl (by first | rfl | simp [Cond.onTables, Cond.keeps, Cond.steady])) h
theorem pq_sigOf {n : Nat} (h : (parseMethodDescriptor y.desc).map (fun d => d.parameters.length) = some n) : ∀ sig, parseMethodDescriptor y.desc = some sig → n = sig.parameters.length := by
  intro sig h1
  rw [h1] at h
  exact (Option.some.inj h).symm
theorem pq_runV (hx : p.tables.exec = Jvm.exec) (hb : c.code = cc) (hml : c.maxLocals = nL) (hown : s.vm.findClass own = some m.cls) (k : pq_Ask s args y bytes maxL ret As.length ∧ (Cond.methodLink own index y).before args s = true ∧ (Cond.instanceMethod y).before args s = true ∧ (Cond.selects y.cls y y).before args s = true)
    (hM : Met l y [.code y bytes maxL ret] rm (va_Pc (.ref b :: As) (pq_Pre cl s0 D wc H.size)) Qc mc ms free) (hrc : rm.cells = mc) (hrs : rm.slots = ms) (hfr : rm.frames + 1 ≤ R.frames) (hlo : 8 + (maxL + 11) + rm.locals ≤ R.locals)
    (hPre : ∀ U : State, U.heap = H → s.WarmedH U.vm → pq_Pre cl s0 D wc H.size U) (hrecv : ∃ cellB : Cell, H[b]? = some cellB ∧ cellB.vm.isStatics = false ∧ s.vm.findClass y.cls = some cellB.cls)
    (hl : lv_has ls nL lvs) (hstack : st0 = As.reverse ++ .ref b :: rest) (hW : (rest.map fun v => v.category).sum ≤ 8) (hdg : decode cc pc = .ok (.invokevirtual index, 3)) (hf : cells + mc ≤ R.cells ∧ slots + ms ≤ R.slots) :
    va_Run p l e R s m args below meth c H locs cells slots mc ms (F0 m pc ls st0) rest (Qc (Value.ref b :: As).toArray) free :=
  va_runV (Ts := []) (C := y.cls) ⟨hx, hb, hml, hown, fun _ h => by cases h⟩ hM ⟨⟨hrc, hrs, hfr, hlo, pq_wsOf k.1.1, List.mem_singleton.mpr rfl, k.1.1, k.1.2.1, k.1.2.2.1, k.1.2.2.2, k.2.1⟩, k.2.2.1, k.2.2.2⟩ ⟨pq_blind, hrecv, fun U hU hW' => ⟨rfl, hPre U hU hW'⟩⟩ rfl rfl hl.1 hstack (lv_room hW) hdg hf
theorem pq_runS (hx : p.tables.exec = Jvm.exec) (hb : c.code = cc) (hml : c.maxLocals = nL) (hown : s.vm.findClass own = some m.cls) (k : pq_Ask s args y bytes maxL ret As.length ∧ (Cond.methodLink own index y).before args s = true ∧ (Cond.static y).before args s = true)
    (hM : Met l y [.code y bytes maxL ret] rm (va_Pc As (pq_Pre cl s0 D wc H.size)) Qc mc ms free) (hrc : rm.cells = mc) (hrs : rm.slots = ms) (hfr : rm.frames + 1 ≤ R.frames) (hlo : 8 + (maxL + 11) + rm.locals ≤ R.locals)
    (hPre : ∀ U : State, U.heap = H → s.WarmedH U.vm → pq_Pre cl s0 D wc H.size U)
    (hl : lv_has ls nL lvs) (hstack : st0 = As.reverse ++ rest) (hW : (rest.map fun v => v.category).sum ≤ 8) (hdg : decode cc pc = .ok (.invokestatic index, 3)) (hf : cells + mc ≤ R.cells ∧ slots + ms ≤ R.slots) :
    va_Run p l e R s m args below meth c H locs cells slots mc ms (F0 m pc ls st0) rest (Qc As.toArray) free :=
  va_runS (Ts := []) ⟨hx, hb, hml, hown, fun _ h => by cases h⟩ hM ⟨⟨hrc, hrs, hfr, hlo, pq_wsOf k.1.1, List.mem_singleton.mpr rfl, k.1.1, k.1.2.1, k.1.2.2.1, k.1.2.2.2, k.2.1⟩, k.2.2⟩ ⟨pq_blind, fun U hU hW' => ⟨rfl, hPre U hU hW'⟩⟩ rfl rfl hl.1 hstack (lv_room hW) hdg hf
theorem pq_runI (hx : p.tables.exec = Jvm.exec) (hb : c.code = cc) (hml : c.maxLocals = nL) (hown : s.vm.findClass own = some m.cls) (k : pq_Ask s args y bytes maxL none As.length ∧ (Cond.methodLink own index y).before args s = true ∧ y.name = "<init>" ∧ (Cond.instanceMethod y).before args s = true)
    (hM : Met l y [.code y bytes maxL none] rm (va_Pc (.ref b :: As) (pq_Pre cl s0 D wc H.size)) Qc mc ms free) (hrc : rm.cells = mc) (hrs : rm.slots = ms) (hfr : rm.frames + 1 ≤ R.frames) (hlo : 8 + (maxL + 11) + rm.locals ≤ R.locals)
    (hPre : ∀ U : State, U.heap = H → s.WarmedH U.vm → pq_Pre cl s0 D wc H.size U)
    (hl : lv_has ls nL lvs) (hstack : st0 = As.reverse ++ .ref b :: rest) (hW : (rest.map fun v => v.category).sum ≤ 8) (hdg : decode cc pc = .ok (.invokespecial index, 3)) (hf : cells + mc ≤ R.cells ∧ slots + ms ≤ R.slots) :
    va_Run p l e R s m args below meth c H locs cells slots mc ms (F0 m pc ls st0) rest (Qc (Value.ref b :: As).toArray) free :=
  va_runI (Ts := []) ⟨hx, hb, hml, hown, fun _ h => by cases h⟩ hM ⟨⟨hrc, hrs, hfr, hlo, pq_wsOf k.1.1, List.mem_singleton.mpr rfl, k.1.1, k.1.2.1, k.1.2.2.1, k.1.2.2.2, k.2.1⟩, k.2.2.1, k.2.2.2⟩ ⟨pq_blind, fun U hU hW' => ⟨rfl, hPre U hU hW'⟩⟩ rfl rfl hl.1 hstack (lv_room hW) hdg hf
theorem pq_runSN (hx : p.tables.exec = Jvm.exec) (hb : c.code = cc) (hml : c.maxLocals = nL) (hown : s.vm.findClass own = some m.cls) (k : pq_Ask s args y bytes maxL ret As.length ∧ (Cond.methodLinkNest own index y host).before args s = true ∧ (Cond.static y).before args s = true)
    (hM : Met l y [.code y bytes maxL ret] rm (va_Pc As (pq_Pre cl s0 D wc H.size)) Qc mc ms free) (hrc : rm.cells = mc) (hrs : rm.slots = ms) (hfr : rm.frames + 1 ≤ R.frames) (hlo : 8 + (maxL + 11) + rm.locals ≤ R.locals)
    (hPre : ∀ U : State, U.heap = H → s.WarmedH U.vm → pq_Pre cl s0 D wc H.size U)
    (hl : lv_has ls nL lvs) (hstack : st0 = As.reverse ++ rest) (hW : (rest.map fun v => v.category).sum ≤ 8) (hdg : decode cc pc = .ok (.invokestatic index, 3)) (hf : cells + mc ≤ R.cells ∧ slots + ms ≤ R.slots) :
    va_Run p l e R s m args below meth c H locs cells slots mc ms (F0 m pc ls st0) rest (Qc As.toArray) free :=
  va_runSN (Ts := []) (host := host) ⟨hx, hb, hml, hown, fun _ h => by cases h⟩ hM ⟨⟨⟨hrc, hrs, hfr, hlo, pq_wsOf k.1.1, List.mem_singleton.mpr rfl⟩, k.1.1, k.1.2.1, k.1.2.2.1, k.1.2.2.2, k.2.1⟩, k.2.2, trivial⟩ ⟨pq_blind, fun U hU hW' => ⟨rfl, hPre U hU hW'⟩⟩ rfl rfl hl.1 hstack (lv_room hW) hdg hf
theorem pq_runIN (hx : p.tables.exec = Jvm.exec) (hb : c.code = cc) (hml : c.maxLocals = nL) (hown : s.vm.findClass own = some m.cls) (k : pq_Ask s args y bytes maxL none As.length ∧ (Cond.methodLinkNest own index y host).before args s = true ∧ y.name = "<init>" ∧ (Cond.instanceMethod y).before args s = true)
    (hM : Met l y [.code y bytes maxL none] rm (va_Pc (.ref b :: As) (pq_Pre cl s0 D wc H.size)) Qc mc ms free) (hrc : rm.cells = mc) (hrs : rm.slots = ms) (hfr : rm.frames + 1 ≤ R.frames) (hlo : 8 + (maxL + 11) + rm.locals ≤ R.locals)
    (hPre : ∀ U : State, U.heap = H → s.WarmedH U.vm → pq_Pre cl s0 D wc H.size U)
    (hl : lv_has ls nL lvs) (hstack : st0 = As.reverse ++ .ref b :: rest) (hW : (rest.map fun v => v.category).sum ≤ 8) (hdg : decode cc pc = .ok (.invokespecial index, 3)) (hf : cells + mc ≤ R.cells ∧ slots + ms ≤ R.slots) :
    va_Run p l e R s m args below meth c H locs cells slots mc ms (F0 m pc ls st0) rest (Qc (Value.ref b :: As).toArray) free :=
  va_runIN (Ts := []) (host := host) ⟨hx, hb, hml, hown, fun _ h => by cases h⟩ hM ⟨⟨⟨hrc, hrs, hfr, hlo, pq_wsOf k.1.1, List.mem_singleton.mpr rfl⟩, k.1.1, k.1.2.1, k.1.2.2.1, k.1.2.2.2, k.2.1⟩, k.2.2.1, k.2.2.2⟩ ⟨pq_blind, fun U hU hW' => ⟨rfl, hPre U hU hW'⟩⟩ rfl rfl hl.1 hstack (lv_room hW) hdg hf
variable {A : Nat → Prop} {ws w1 ws' : va_W} {is : List Nat} {H0 : Heap} {a : Array Value}
theorem pq_ci {v : Int32} (hr : va_Run p l e R s m args below meth c H locs cells slots mc ms (F0 m pc ls st0) rest (va_Qi (fun r (_ : Unit) => r = v) (fun _ t => va_P D cl w1 t.heap) (va_A wc H.size) a) (va_A wc H.size))
    (hP : va_P D cl ws H) (hD : va_D A ws) (hS : va_S A H0 H locs) (hA : ∀ q : Nat, H0.size ≤ q → A q) (hC : is.map (fun i => ws[i]?) = wc.map some) (hl : w1.length = is.length) (hN : pq_rep is w1 ws = ws') {ad : List Nat} (hF1 : ws.map Prod.fst = ad) (hF : ws'.map Prod.fst = ad)
    (kk : ∀ (H1 : Heap) (locs1 : List Loc), va_P D cl ws' H1 → va_D A ws' → va_S A H0 H1 locs1 → W p l e R s m args below meth c H1 locs1 (cells + mc) (slots + ms) Q (F0 m (pc + 3) ls (.int v :: rest))) : W p l e R s m args below meth c H locs cells slots Q (F0 m pc ls st0) := by
  have hFc := va_free (wc := wc) hD hS hA is hC
  refine va_calli hr hS (fun q _ h => hFc q h) hFc (fun r u t H1 locs1 ht hvm hw hB hz hk hS1 => ?_)
  have hB : va_P _ _ _ t.heap := hB
  rw [ht] at hB
  obtain ⟨hP2, hD2⟩ := pq_back hP hD hC hk hB hl hN hF1 hF
  have hw : r = v := hw
  subst hw
  exact kk H1 locs1 hP2 hD2 hS1
theorem pq_cv (hr : va_Run p l e R s m args below meth c H locs cells slots mc ms (F0 m pc ls st0) rest (va_Qv (fun (_ : Unit) => True) (fun _ t => va_P D cl w1 t.heap) (va_A wc H.size) a) (va_A wc H.size))
    (hP : va_P D cl ws H) (hD : va_D A ws) (hS : va_S A H0 H locs) (hA : ∀ q : Nat, H0.size ≤ q → A q) (hC : is.map (fun i => ws[i]?) = wc.map some) (hl : w1.length = is.length) (hN : pq_rep is w1 ws = ws') {ad : List Nat} (hF1 : ws.map Prod.fst = ad) (hF : ws'.map Prod.fst = ad)
    (kk : ∀ (H1 : Heap) (locs1 : List Loc), va_P D cl ws' H1 → va_D A ws' → va_S A H0 H1 locs1 → W p l e R s m args below meth c H1 locs1 (cells + mc) (slots + ms) Q (F0 m (pc + 3) ls rest)) : W p l e R s m args below meth c H locs cells slots Q (F0 m pc ls st0) := by
  have hFc := va_free (wc := wc) hD hS hA is hC
  refine va_callv hr hS (fun q _ h => hFc q h) hFc (fun u t H1 locs1 ht hvm hw hB hz hk hS1 => ?_)
  have hB : va_P _ _ _ t.heap := hB
  rw [ht] at hB
  obtain ⟨hP2, hD2⟩ := pq_back hP hD hC hk hB hl hN hF1 hF
  exact kk H1 locs1 hP2 hD2 hS1
/-- an answer that is a reference or null, known which -/
theorem pq_cq {o : Option Nat} (hr : va_Run p l e R s m args below meth c H locs cells slots mc ms (F0 m pc ls st0) rest (va_Qq (fun r (_ : Unit) => r = o) (fun _ t => va_P D cl w1 t.heap) (va_A wc H.size) a) (va_A wc H.size))
    (hP : va_P D cl ws H) (hD : va_D A ws) (hS : va_S A H0 H locs) (hA : ∀ q : Nat, H0.size ≤ q → A q) (hC : is.map (fun i => ws[i]?) = wc.map some) (hl : w1.length = is.length) (hN : pq_rep is w1 ws = ws') {ad : List Nat} (hF1 : ws.map Prod.fst = ad) (hF : ws'.map Prod.fst = ad)
    (kk : ∀ (H1 : Heap) (locs1 : List Loc), va_P D cl ws' H1 → va_D A ws' → va_S A H0 H1 locs1 → W p l e R s m args below meth c H1 locs1 (cells + mc) (slots + ms) Q (F0 m (pc + 3) ls (va_rf o :: rest))) : W p l e R s m args below meth c H locs cells slots Q (F0 m pc ls st0) := by
  have hFc := va_free (wc := wc) hD hS hA is hC
  refine va_callq hr hS (fun q _ h => hFc q h) hFc (fun r u t H1 locs1 ht hvm hw hB hz hk hS1 => ?_)
  have hB : va_P _ _ _ t.heap := hB
  rw [ht] at hB
  obtain ⟨hP2, hD2⟩ := pq_back hP hD hC hk hB hl hN hF1 hF
  have hw : r = o := hw
  subst hw
  exact kk H1 locs1 hP2 hD2 hS1
theorem pq_retq {o o' : Option Nat} {v' : Value} {rt : String} (hx : p.tables.exec = Jvm.exec) (hb : c.code = cc) (hr : meth.sig.returnType = some (.object rt)) (hlocks : meth.locks = false) (hv' : v' = va_rf o') (hv : o' = o) (hP : va_P D cl w1 H) (hS : va_S A s.heap H locs) (hdg : decode cc pc = .ok (.areturn, 1)) :
    W p l e R s m args below meth c H locs cells slots (MQ below (va_Qq (fun r (_ : Unit) => r = o) (fun _ t => va_P D cl w1 t.heap) A) args s cells slots A) (F0 m pc ls [v']) :=
  W.aret hx hb hr (Or.inl ⟨_, rfl⟩) (by rw [hv']; cases o' with | none => exact Or.inl rfl | some a => exact Or.inr ⟨a, rfl⟩) (fun t ht hW => ⟨⟨o', (), by rw [hv'], hv, by show va_P _ _ _ t.heap; rw [ht]; exact hP⟩, hS.F ht⟩) hS.2.2 hdg hlocks
/-- records by their numbers -/
def pq_recs (q : List (Nat → Int32)) : Nat → Nat → Int32 := fun j => q.getD j (fun _ => 0)
/-- an int comes back, and cells of which it is not said what they hold -/
theorem pq_ciu {v : Int32} {w1 ws' : (Nat → Nat → Int32) → va_W} (hr : va_Run p l e R s m args below meth c H locs cells slots mc ms (F0 m pc ls st0) rest (va_Qi (fun r (_ : Nat → Nat → Int32) => r = v) (fun u t => va_P D cl (w1 u) t.heap) (va_A wc H.size) a) (va_A wc H.size))
    (hP : va_P D cl ws H) (hD : va_D A ws) (hS : va_S A H0 H locs) (hA : ∀ q : Nat, H0.size ≤ q → A q) (hC : is.map (fun i => ws[i]?) = wc.map some) (hl : ∀ u, (w1 u).length = is.length) (hN : ∀ u, pq_rep is (w1 u) ws = ws' u) {ad : List Nat} (hF1 : ws.map Prod.fst = ad) (hF : ∀ u, (ws' u).map Prod.fst = ad)
    (kk : ∀ (u : Nat → Nat → Int32) (H1 : Heap) (locs1 : List Loc), va_P D cl (ws' u) H1 → va_D A (ws' u) → va_S A H0 H1 locs1 → W p l e R s m args below meth c H1 locs1 (cells + mc) (slots + ms) Q (F0 m (pc + 3) ls (.int v :: rest))) : W p l e R s m args below meth c H locs cells slots Q (F0 m pc ls st0) := by
  have hFc := va_free (wc := wc) hD hS hA is hC
  refine va_calli hr hS (fun q _ h => hFc q h) hFc (fun r u t H1 locs1 ht hvm hw hB hz hk hS1 => ?_)
  have hB : va_P _ _ _ t.heap := hB
  rw [ht] at hB
  obtain ⟨hP2, hD2⟩ := pq_back hP hD hC hk hB (hl u) (hN u) hF1 (hF u)
  have hw : r = v := hw
  subst hw
  exact kk u H1 locs1 hP2 hD2 hS1
theorem pq_retiu {v v' : Int32} {w1 : (Nat → Nat → Int32) → va_W} (u : Nat → Nat → Int32) (hx : p.tables.exec = Jvm.exec) (hb : c.code = cc) (hr : meth.sig.returnType = some .int) (hlocks : meth.locks = false) (hv : v' = v) (hP : va_P D cl (w1 u) H) (hS : va_S A s.heap H locs) (hdg : decode cc pc = .ok (.ireturn, 1)) :
    W p l e R s m args below meth c H locs cells slots (MQ below (va_Qi (fun r (_ : Nat → Nat → Int32) => r = v) (fun u t => va_P D cl (w1 u) t.heap) A) args s cells slots A) (F0 m pc ls [.int v']) :=
  W.iret hx hb hr (fun t ht hW => ⟨⟨v', u, rfl, hv, by show va_P _ _ _ t.heap; rw [ht]; exact hP⟩, hS.F ht⟩) hS.2.2 hdg hlocks
theorem pq_topi {x v : Int32} (h : x = v) (k : W p l e R s m args below meth c H locs cells slots Q (F0 m pc ls (.int v :: rest))) : W p l e R s m args below meth c H locs cells slots Q (F0 m pc ls (.int x :: rest)) := h ▸ k
theorem pq_reti {v v' : Int32} (hx : p.tables.exec = Jvm.exec) (hb : c.code = cc) (hr : meth.sig.returnType = some .int) (hlocks : meth.locks = false) (hv : v' = v) (hP : va_P D cl w1 H) (hS : va_S A s.heap H locs) (hdg : decode cc pc = .ok (.ireturn, 1)) :
    W p l e R s m args below meth c H locs cells slots (MQ below (va_Qi (fun r (_ : Unit) => r = v) (fun _ t => va_P D cl w1 t.heap) A) args s cells slots A) (F0 m pc ls [.int v']) :=
  W.iret hx hb hr (fun t ht hW => ⟨⟨v', (), rfl, hv, by show va_P _ _ _ t.heap; rw [ht]; exact hP⟩, hS.F ht⟩) hS.2.2 hdg hlocks
theorem pq_retz {v v' : Int32} (hx : p.tables.exec = Jvm.exec) (hb : c.code = cc) (hr : meth.sig.returnType = some .boolean) (hlocks : meth.locks = false) (hn : narrow .boolean (.int v') = .int v') (hv : v' = v) (hP : va_P D cl w1 H) (hS : va_S A s.heap H locs) (hdg : decode cc pc = .ok (.ireturn, 1)) :
    W p l e R s m args below meth c H locs cells slots (MQ below (va_Qi (fun r (_ : Unit) => r = v) (fun _ t => va_P D cl w1 t.heap) A) args s cells slots A) (F0 m pc ls [.int v']) :=
  W.zret hx hb hr hn (fun t ht hW => ⟨⟨v', (), rfl, hv, by show va_P _ _ _ t.heap; rw [ht]; exact hP⟩, hS.F ht⟩) hS.2.2 hdg hlocks
theorem pq_retv (hx : p.tables.exec = Jvm.exec) (hb : c.code = cc) (hr : meth.sig.returnType = none) (hlocks : meth.locks = false) (hP : va_P D cl w1 H) (hS : va_S A s.heap H locs) (hdg : decode cc pc = .ok (.return_, 1)) :
    W p l e R s m args below meth c H locs cells slots (MQ below (va_Qv (fun (_ : Unit) => True) (fun _ t => va_P D cl w1 t.heap) A) args s cells slots A) (F0 m pc ls []) :=
  W.vret hx hb hr (fun t ht hW => ⟨⟨(), rfl, trivial, by show va_P _ _ _ t.heap; rw [ht]; exact hP⟩, hS.F ht⟩) hS.2.2 hdg hlocks
def pq_max (x y : Int32) : Int32 := if x < y then y else x
def pq_min (x y : Int32) : Int32 := if y < x then y else x
theorem pq_mmax (hx : p.tables.exec = Jvm.exec) (hb : c.code = cc) (hml : c.maxLocals = nL) (hl : lv_has ls nL lvs) (hown : s.vm.findClass own = some m.cls) (k : (Cond.methodLink own index Lib.Math.max.name).before args s = true ∧ (Cond.static Lib.Math.max.name).before args s = true ∧ (Cond.initialized "java/lang/Math").before args s = true ∧ (Cond.code Lib.Math.max.name Lib.Math.max.code 2 (some .int)).before args s = true)
    (hfr : 1 ≤ R.frames) (hlo : (rest.map fun v => v.category).sum + 13 ≤ R.locals) (hc : cells ≤ R.cells) (hs : slots ≤ R.slots) {x y : Int32} (hdg : decode cc pc = .ok (.invokestatic index, 3))
    (kk : W p l e R s m args below meth c H locs cells slots Q (F0 m (pc + 3) ls (.int (pq_max x y) :: rest))) : W p l e R s m args below meth c H locs cells slots Q (F0 m pc ls (.int y :: .int x :: rest)) :=
  va_mmax hx hb (by rw [hml, hl.1]) hown k.1 k.2.1 k.2.2.1 k.2.2.2 hfr hlo hc hs hdg kk
theorem pq_mmin (hx : p.tables.exec = Jvm.exec) (hb : c.code = cc) (hml : c.maxLocals = nL) (hl : lv_has ls nL lvs) (hown : s.vm.findClass own = some m.cls) (k : (Cond.methodLink own index Lib.Math.min.name).before args s = true ∧ (Cond.static Lib.Math.min.name).before args s = true ∧ (Cond.initialized "java/lang/Math").before args s = true ∧ (Cond.code Lib.Math.min.name Lib.Math.min.code 2 (some .int)).before args s = true)
    (hfr : 1 ≤ R.frames) (hlo : (rest.map fun v => v.category).sum + 13 ≤ R.locals) (hc : cells ≤ R.cells) (hs : slots ≤ R.slots) {x y : Int32} (hdg : decode cc pc = .ok (.invokestatic index, 3))
    (kk : W p l e R s m args below meth c H locs cells slots Q (F0 m (pc + 3) ls (.int (pq_min x y) :: rest))) : W p l e R s m args below meth c H locs cells slots Q (F0 m pc ls (.int y :: .int x :: rest)) :=
  va_mmin hx hb (by rw [hml, hl.1]) hown k.1 k.2.1 k.2.2.1 k.2.2.2 hfr hlo hc hs hdg kk
end PqCalls
section PqInts
theorem pq_ne1 {x : Int32} (h : 1 ≤ x) : ¬ x = 0 := fun e => absurd (e ▸ h) (by decide)
theorem pq_nlt1 {x : Int32} (h : ¬ x < 1) : ¬ x = 0 := fun e => h (by rw [e]; decide)
theorem pq_1n0 {x : Int32} (h : x = 1) : ¬ x = 0 := fun e => absurd (h.symm.trans e) (by decide)
theorem pq_out0_2 {x : Int32} (h0 : ¬ x = 0) (h1 : ¬ x = 1) (h2 : ¬ x = 2) : x.toInt < 0 ∨ 2 < x.toInt := by
  have g0 := lv_neT h0 (a := 0) (by decide)
  have g1 := lv_neT h1 (a := 1) (by decide)
  have g2 := lv_neT h2 (a := 2) (by decide)
  omega
theorem pq_out0_3 {x : Int32} (h0 : ¬ x = 0) (h1 : ¬ x = 1) (h2 : ¬ x = 2) (h3 : ¬ x = 3) : x.toInt < 0 ∨ 3 < x.toInt := by
  have g0 := lv_neT h0 (a := 0) (by decide)
  have g1 := lv_neT h1 (a := 1) (by decide)
  have g2 := lv_neT h2 (a := 2) (by decide)
  have g3 := lv_neT h3 (a := 3) (by decide)
  omega
end PqInts
