section PqThrows
variable {l : Launch} {s0 s : State} {a0 args : Array Value} {D : va_G} {cI cL cC : ClassId}
def pq_ot : Cond → Bool
  | .castable _ _ => true
  | .declares _ => true
  | w => goodWord w
theorem pq_wdX {w : Cond} (hW0 : s0.WarmedH s.vm) (h : w.before a0 s0 = true) (hg : pq_ot w = true) : w.before args s = true := by
  cases w with
  | castable C T => exact va_Nw.use rfl (va_Nw.warmC hW0 (va_Nw.of rfl h))
  | declares x => exact va_tabs rfl (rfl : (s0.setVm s.vm).vm = s.vm) (by rw [Cond.declares_setVm hW0.alike]; exact h)
  | _ => exact pq_wd hW0 h hg
/-- what a throw takes from the law's start beside the tables: Throwable's two statics -/
def pq_BX (s0 : State) : Prop := vx_Zq Bundle.tN "UNASSIGNED_STACK" Bundle.steD (fun _ => False) s0 s0.heap ∧ vx_Zq Bundle.tN "SUPPRESSED_SENTINEL" Bundle.listD (fun _ => False) s0 s0.heap
theorem pq_Zat {C n d : String} {A : Nat → Prop} (h : vx_Zq C n d (fun _ => False) s0 s0.heap) (hW0 : s0.WarmedH s.vm) (hSA : pq_StA s0 s A) : vx_Zq C n d A s s.heap := by
  obtain ⟨h1, h2⟩ := h
  refine vx_Zq.moved hW0.alike ⟨?_, ?_⟩
  · rcases h1 with h1 | ⟨t, h1⟩
    · obtain ⟨cf, kf, fi, f, a, cell, e1, e2, e3, e4, e5, e6, e7, -⟩ := h1
      obtain ⟨g1, g2⟩ := hSA a cell e5 e6
      exact Or.inl ⟨cf, kf, fi, f, a, cell, e1, e2, e3, e4, g2, e6, e7, g1⟩
    · obtain ⟨cf, kf, fi, f, a, cell, e1, e2, e3, e4, e5, e6, e7, -⟩ := h1
      obtain ⟨g1, g2⟩ := hSA a cell e5 e6
      exact Or.inr ⟨t, cf, kf, fi, f, a, cell, e1, e2, e3, e4, g2, e6, e7, g1⟩
  · obtain ⟨c, k, i, f, a, cell, e1, e2, e3, e4, e5, e6, e7, e8, e9, -⟩ := h2
    obtain ⟨g1, g2⟩ := hSA a cell e5 e6
    exact ⟨c, k, i, f, a, cell, e1, e2, e3, e4, g2, e6, e7, e8, e9, g1⟩
theorem pq_str {own tx : String} {k c : Nat} (hW0 : s0.WarmedH s.vm) (h : (Cond.stringRef own k tx).before a0 s0 = true) (hown : s.vm.findClass own = some c) : ∃ sa, vk_R own k tx sa s := by
  have h' : (Cond.stringRef own k tx).before #[] s0 = true := h
  have hown0 : s0.vm.findClass own = some c := by rw [← hW0.alike.findClass]; exact hown
  obtain ⟨-, -, -, sa, -, -, -, -, -, hev⟩ := Cond.stringRef_spec hown0 h'
  exact ⟨sa, vk_R.warm hW0 ⟨h', hev⟩⟩
/-- what a throw asks of the tables -/
def pq_TW (s : State) (args : Array Value) (own : String) (ik is ic : Nat) (cls text : String) (names : List String) : Prop :=
  (Cond.classLink own ik cls).before args s = true ∧ (Cond.initialized cls).before args s = true ∧ (∃ sa, vk_R own is text sa s) ∧ (∀ w ∈ vx_atS own ic cls names, w.before args s = true) ∧ (∀ w ∈ Cond.classLink own ik cls :: Cond.initialized cls :: vx_atS own ic cls names, vx_ot w = true) ∧ Bundle.fit cls = true ∧ ∀ n ∈ names, Bundle.fit n = true
variable {p : Program} {e : Env} {R : Room} {m : MethodId} {below : List Frame} {meth : Method} {c : Code} {H : Heap} {locs : List Loc} {cells slots : Nat}
variable {cl : List vw_C} {cc : ByteArray} {nL mc ms : Nat} {pc : Nat} {ls : Array Slot} {lvs : List (Nat × Value)} {A : Nat → Prop} {Qc : Array Value → State → Outcome → State → Prop}
/-- what a thrown call leaves: the class by its name, the cells -/
abbrev pq_XC (cl : List vw_C) (D : va_G) (XE : String → Prop) (w1 : (Nat → Nat → Int32) → va_W) (A : Nat → Prop) : String → State → State → Prop := vx_X (fun _ : Nat → Nat → Int32 => True) (fun E u t => XE E ∧ va_P D cl (w1 u) t.heap) A
theorem pq_throw {own cls text : String} {names : List String} {ik is ic : Nat} {XE : String → Prop} {w1 : (Nat → Nat → Int32) → va_W} (u : Nat → Nat → Int32) (hfl : l.flags = flags0) (hX : pq_BX s0) (hx : p.tables.exec = Jvm.exec) (hb : c.code = cc) (hml : c.maxLocals = nL) (hown : s.vm.findClass own = some m.cls) (hlocks : meth.locks = false) (hex : ∀ x ∈ c.exceptionTable.toList, False) (hW0 : s0.WarmedH s.vm) (hSA : pq_StA s0 s A)
    (k : pq_TW s args own ik is ic cls text names) (hE : XE cls) (hP : va_P D cl (w1 u) H) (hS : va_S A s.heap H locs) (hl : lv_has ls nL lvs)
    (d0 : decode cc pc = .ok (.new ik, 3)) (d3 : decode cc (pc + 3) = .ok (.dup, 1)) (d4 : decode cc (pc + 4) = .ok (.ldc is, 2)) (d6 : decode cc (pc + 6) = .ok (.invokespecial ic, 3)) (d9 : decode cc (pc + 9) = .ok (.athrow, 1))
    (hRframes : names.length + 3 < R.frames) (hRlocals : 13 * (names.length + 1) + 43 ≤ R.locals) (hRcells : cells + 1 ≤ R.cells) (hRslots : slots + 6 ≤ R.slots) (hc : cells + 1 ≤ mc) (hs : slots + 6 ≤ ms) :
    W p l e R s m args below meth c H locs cells slots (vx_MQ below Qc (pq_XC cl D XE w1 A) args s mc ms A) (F0 m pc ls []) := by
  obtain ⟨k1, k2, ⟨sa, k3⟩, k4, k5, k6, k7⟩ := k
  refine vx_throwS (rest := []) hx hb (show l.stackTraces = false by unfold Launch.stackTraces; rw [hfl]; decide) hown k6 k7 k1 k2 k3 k4 k5 (pq_Zat hX.1 hW0 hSA) (pq_Zat hX.2 hW0 hSA) hS (hl.1.trans hml.symm) d0 d3 d4 d6 d9 (fun x hx9 => (hex x hx9).elim) hRframes (by simpa using hRlocals) hRcells hRslots hlocks ?_ hS.2.2 hc hs
  intro t hal hz hk
  refine ⟨u, trivial, ⟨hE, fun j q hj => (hP j q hj).kept (hk q.1 (hP j q hj).lt)⟩, Nat.le_trans hS.1 hz, fun q h1 h2 => ?_⟩
  rw [hk q (Nat.lt_of_lt_of_le h1 hS.1)]
  exact hS.2.1 q h1 h2
/-- the head of a method that may throw -/
theorem pq_ofX {y : MethodName} {maxL : Nat} {ret : Option FieldType} {rm : Room} {ws : va_W} {argv : List Value} {sz : Nat}
    {Qf : (Nat → Prop) → Array Value → State → Outcome → State → Prop} {Xf : (Nat → Prop) → String → State → State → Prop} (hy : plainName y.cls = true) (hlen : (lg_sl argv).length ≤ maxL)
    (body : ∀ (p : Program) (e : Env) (s : State) (m : MethodId) (below : List Frame) (meth : Method) (c : Code) (A : Nat → Prop) (ls : Array Slot), p.tables.exec = Jvm.exec → c.code = cc → meth.sig.returnType = ret → meth.locks = false → c.maxLocals = maxL → meth.name = y.name → (∀ x ∈ c.exceptionTable.toList, False) →
      s.vm.findClass y.cls = some m.cls → s0.WarmedH s.vm → pq_StA s0 s A → s.heap.size = sz → (∀ q : Nat, s.heap.size ≤ q → A q) → va_P D cl ws s.heap → va_D A ws → va_S A s.heap s.heap [] → lv_has ls maxL (lv_args 0 argv) →
      W p l e rm s m argv.toArray below meth c s.heap [] 0 0 (vx_MQ below (Qf A) (Xf A) argv.toArray s mc ms A) (F0 m 0 ls [])) :
    vx_Met l y [.code y cc maxL ret] rm (va_Pc argv (pq_Pre cl s0 D ws sz)) (Qf (va_A ws sz)) (Xf (va_A ws sz)) mc ms (va_A ws sz) := by
  refine vx_ofW (cc := cc) (maxL := maxL) (ret := ret) (ws' := []) hy rfl ?_
  intro p e s m args below meth c s₁ B hml hex hv
  obtain ⟨rfl, hW0, hSt, hsz, hP, hD0⟩ := hv
  subst hsz
  have hD := hD0.self (sz := s.heap.size)
  have hl := lv_entry argv (n := maxL) hlen
  rw [lg_entry_eq]
  refine body p e s m below meth c (va_A ws s.heap.size) _ B.exec B.bytes B.returns B.notSynchronized hml (name_of_methodNamed B.named B.method).1 hex (findClass_of_methodNamed B.named) hW0 ?_ rfl (fun q h => Or.inr h) hP hD va_S.rf hl
  intro a cell h1 h2
  have h3 := hSt a cell h1 h2
  refine ⟨fun h => ?_, h3⟩
  rcases h with ⟨k, e, h⟩ | h
  · have := pq_notStat (hP k _ h) h3
    rw [this] at h2
    cases h2
  · have := (Array.getElem?_eq_some_iff.mp h3).1
    omega
theorem pq_xreti {v v' : Int32} {XE : String → Prop} {ok : Prop} {w1 w2 : (Nat → Nat → Int32) → va_W} (u : Nat → Nat → Int32) (hx : p.tables.exec = Jvm.exec) (hb : c.code = cc) (hr : meth.sig.returnType = some .int) (hlocks : meth.locks = false) (hv : v' = v) (hok : ok) (hP : va_P D cl (w1 u) H) (hS : va_S A s.heap H locs) (hc : cells ≤ mc) (hs : slots ≤ ms) (hdg : decode cc pc = .ok (.ireturn, 1)) :
    W p l e R s m args below meth c H locs cells slots (vx_MQ below (va_Qi (fun r (_ : Nat → Nat → Int32) => r = v ∧ ok) (fun u t => va_P D cl (w1 u) t.heap) A) (pq_XC cl D XE w2 A) args s mc ms A) (F0 m pc ls [.int v']) := by
  refine vx_ret (W.widen (k := mc) (n := ms) hc hs ?_)
  exact W.iret hx hb hr (fun t ht hW => ⟨⟨v', u, rfl, ⟨hv, hok⟩, by show va_P _ _ _ t.heap; rw [ht]; exact hP⟩, hS.F ht⟩) hS.2.2 hdg hlocks
theorem pq_xretv {XE : String → Prop} {ok : Prop} {w1 w2 : (Nat → Nat → Int32) → va_W} (u : Nat → Nat → Int32) (hx : p.tables.exec = Jvm.exec) (hb : c.code = cc) (hr : meth.sig.returnType = none) (hlocks : meth.locks = false) (hok : ok) (hP : va_P D cl (w1 u) H) (hS : va_S A s.heap H locs) (hc : cells ≤ mc) (hs : slots ≤ ms) (hdg : decode cc pc = .ok (.return_, 1)) :
    W p l e R s m args below meth c H locs cells slots (vx_MQ below (va_Qv (fun (_ : Nat → Nat → Int32) => ok) (fun u t => va_P D cl (w1 u) t.heap) A) (pq_XC cl D XE w2 A) args s mc ms A) (F0 m pc ls []) := by
  refine vx_ret (W.widen (k := mc) (n := ms) hc hs ?_)
  exact W.vret hx hb hr (fun t ht hW => ⟨⟨u, rfl, hok, by show va_P _ _ _ t.heap; rw [ht]; exact hP⟩, hS.F ht⟩) hS.2.2 hdg hlocks
end PqThrows
