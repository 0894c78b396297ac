section PqNew
variable {p : Program} {l : Launch} {e : Env} {R : Room} {s : State} {m : MethodId} {args : Array Value} {below : List Frame} {meth : Method} {c : Code} {H : Heap} {locs : List Loc} {cells slots : Nat} {Q : State → Prop}
variable {cl : List vw_C} {s0 : State} {D : va_G} {cc : ByteArray} {pc mc ms : Nat} {ls : Array Slot} {rest st0 : List Value} {A : Nat → Prop} {ws wc wr : va_W} {H0 : Heap} {tys : List (ClassId × FieldType)} {a : Array Value}
theorem pq_tyIs {t0 : Nat} {cI cA : ClassId} {ty : FieldType} (hK : va_K D cl tys s) (ht : tys[t0]? = some (cI, ty)) (hK2 : va_K D cl (tys ++ [(cA, ty)]) s) : cA = cI := by
  have h1 := (hK.2 t0 _ ht).2
  have h2 := (hK2.2 tys.length (cA, ty) (by simp)).2
  cases ty with
  | object C =>
    obtain ⟨k1, c1, -, -, -, f1⟩ := h1
    obtain ⟨k2, c2, -, -, -, f2⟩ := h2
    exact Option.some.inj (f2.symm.trans f1)
  | _ => exact Option.some.inj (h2.symm.trans h1)
/-- a new array of ints -/
theorem pq_newi (hx : p.tables.exec = Jvm.exec) (hb : c.code = cc) (harr : (Cond.arrayClass .int).before args s = true) (hK : va_K D cl tys s) (t0 : Nat) {cI : ClassId} (ht : tys[t0]? = some (cI, .int)) (hP : va_P D cl ws H) (hD : va_D A ws) (hS : va_S A H0 H locs) (hA : ∀ q : Nat, H0.size ≤ q → A q)
    {n : Int32} {N' : Nat} (hn : ¬ n < 0) (hN : n.toNatClampNeg = N') (hbytes : N' * 4 ≤ 536870912) (hcells : cells + 1 ≤ R.cells) (hslots : slots + N' ≤ R.slots) (hdg : decode cc pc = .ok (.newarray .int, 2))
    (kk : ∀ (q : Nat) (H1 : Heap), va_P D cl (ws ++ [(q, .inl (cI, N', .inl (fun _ => 0)))]) H1 → va_D A (ws ++ [(q, .inl (cI, N', .inl (fun _ => 0)))]) → va_S A H0 H1 locs →
      W p l e R s m args below meth c H1 locs (cells + 1) (slots + N') Q (F0 m (pc + 2) ls (.ref q :: rest))) : W p l e R s m args below meth c H locs cells slots Q (F0 m pc ls (.int n :: rest)) := by
  refine va_newa (atype := .int) (ty := .int) (a0 := (N', .inl (fun _ => 0))) hx hb harr rfl hK hP hD hS hA (fun cA => rfl) hn hN hbytes hcells hslots hdg (fun q cA H1 hK2 hP2 hD2 hS2 => ?_)
  have e1 := pq_tyIs hK ht hK2
  subst e1
  exact kk q H1 hP2 hD2 hS2
/-- a new array of longs -/
theorem pq_newl (hx : p.tables.exec = Jvm.exec) (hb : c.code = cc) (harr : (Cond.arrayClass .long).before args s = true) (hK : va_K D cl tys s) (t0 : Nat) {cI : ClassId} (ht : tys[t0]? = some (cI, .long)) (hP : va_P D cl ws H) (hD : va_D A ws) (hS : va_S A H0 H locs) (hA : ∀ q : Nat, H0.size ≤ q → A q)
    {n : Int32} {N' : Nat} (hn : ¬ n < 0) (hN : n.toNatClampNeg = N') (hbytes : N' * 8 ≤ 536870912) (hcells : cells + 1 ≤ R.cells) (hslots : slots + N' ≤ R.slots) (hdg : decode cc pc = .ok (.newarray .long, 2))
    (kk : ∀ (q : Nat) (H1 : Heap), va_P D cl (ws ++ [(q, .inl (cI, N', .inr (.inl (fun _ => 0))))]) H1 → va_D A (ws ++ [(q, .inl (cI, N', .inr (.inl (fun _ => 0))))]) → va_S A H0 H1 locs →
      W p l e R s m args below meth c H1 locs (cells + 1) (slots + N') Q (F0 m (pc + 2) ls (.ref q :: rest))) : W p l e R s m args below meth c H locs cells slots Q (F0 m pc ls (.int n :: rest)) := by
  refine va_newa (atype := .long) (ty := .long) (a0 := (N', .inr (.inl (fun _ => 0)))) hx hb harr rfl hK hP hD hS hA (fun cA => rfl) hn hN hbytes hcells hslots hdg (fun q cA H1 hK2 hP2 hD2 hS2 => ?_)
  have e1 := pq_tyIs hK ht hK2
  subst e1
  exact kk q H1 hP2 hD2 hS2
/-- a new array of references -/
theorem pq_newr (hx : p.tables.exec = Jvm.exec) (hb : c.code = cc) {own C : String} {index : Nat} (hown : s.vm.findClass own = some m.cls) (hclink : (Cond.classLink own index C).before args s = true) (hover : va_AO C s) (hK : va_K D cl tys s) (t0 : Nat) {cI : ClassId} (ht : tys[t0]? = some (cI, .object C)) (hP : va_P D cl ws H) (hD : va_D A ws) (hS : va_S A H0 H locs) (hA : ∀ q : Nat, H0.size ≤ q → A q)
    {n : Int32} {N' : Nat} (hn : ¬ n < 0) (hN : n.toNatClampNeg = N') (hbytes : N' * 4 ≤ 536870912) (hcells : cells + 1 ≤ R.cells) (hslots : slots + N' ≤ R.slots) (hdg : decode cc pc = .ok (.anewarray index, 3))
    (kk : ∀ (q : Nat) (H1 : Heap), va_P D cl (ws ++ [(q, .inl (cI, N', .inr (.inr (.inr (.inr (fun _ => none))))))]) H1 → va_D A (ws ++ [(q, .inl (cI, N', .inr (.inr (.inr (.inr (fun _ => none))))))]) → va_S A H0 H1 locs →
      W p l e R s m args below meth c H1 locs (cells + 1) (slots + N') Q (F0 m (pc + 3) ls (.ref q :: rest))) : W p l e R s m args below meth c H locs cells slots Q (F0 m pc ls (.int n :: rest)) := by
  refine va_newq hx hb hown hclink hover hK hP hD hS hA hn hN hbytes hcells hslots hdg (fun q cA H1 hK2 hP2 hD2 hS2 => ?_)
  have e1 := pq_tyIs hK ht hK2
  subst e1
  exact kk q H1 hP2 hD2 hS2
/-- a constructor's end: cells at addresses that it has made -/
theorem pq_retz2 {wz : (Nat → Nat) → va_W} (z : Nat → Nat) (hx : p.tables.exec = Jvm.exec) (hb : c.code = cc) (hr : meth.sig.returnType = none) (hlocks : meth.locks = false) (hP : va_P D cl (wz z) H) (hD : va_D A (wz z)) (hS : va_S A s.heap H locs) (hc : cells ≤ mc) (hs : slots ≤ ms) (hdg : decode cc pc = .ok (.return_, 1)) :
    W p l e R s m args below meth c H locs cells slots (MQ below (va_Qv (fun (_ : Nat → Nat) => True) (fun z t => va_P D cl (wz z) t.heap ∧ va_D A (wz z)) A) args s mc ms A) (F0 m pc ls []) := by
  refine W.widen (k := mc) (n := ms) hc hs ?_
  exact W.vret hx hb hr (fun t ht hW => ⟨⟨z, rfl, trivial, by show va_P _ _ _ t.heap ∧ _; rw [ht]; exact ⟨hP, hD⟩⟩, hS.F ht⟩) hS.2.2 hdg hlocks
/-- a constructor's call: its cells stand behind the others -/
theorem pq_cvz {wz : (Nat → Nat) → va_W} (hr : va_Run p l e R s m args below meth c H locs cells slots mc ms (F0 m pc ls st0) rest (va_Qv (fun (_ : Nat → Nat) => True) (fun z t => va_P D cl (wz z) t.heap ∧ va_D (va_A wc H.size) (wz z)) (va_A wc H.size) a) (va_A wc H.size))
    (hP : va_P D cl ws H) (hD : va_D A ws) (hS : va_S A H0 H locs) (hA : ∀ q : Nat, H0.size ≤ q → A q) (isC isR : List Nat) (hC : isC.map (fun i => ws[i]?) = wc.map some) (hR : isR.map (fun i => ws[i]?) = wr.map some) (hn : va_nd isR = true) (hdis : ∀ i ∈ isR, i ∉ isC)
    (kk : ∀ (z : Nat → Nat) (H1 : Heap) (locs1 : List Loc), va_P D cl (wr ++ wz z) H1 → va_D A (wr ++ wz z) → va_S A H0 H1 locs1 → W p l e R s m args below meth c H1 locs1 (cells + mc) (slots + ms) Q (F0 m (pc + 3) ls rest)) : W p l e R s m args below meth c H locs cells slots Q (F0 m pc ls st0) := by
  have hFc := va_free (wc := wc) hD hS hA isC hC
  refine va_callv hr hS (fun q _ h => hFc q h) hFc (fun z t H1 locs1 ht hvm hw hB hz hk hS1 => ?_)
  obtain ⟨hB1, hB2⟩ := hB
  have hB1 : va_P _ _ _ t.heap := hB1
  rw [ht] at hB1
  obtain ⟨hP2, hD2⟩ := va_join hP hD isC isR hC hR hn hdis hk hFc hB1 hB2
  exact kk z H1 locs1 hP2 hD2 hS1
/-- two contents that agree below the length are one -/
theorem pq_arrEq {cI : ClassId} {n : Nat} {f g : Nat → Int32} (h : ∀ j, j < n → f j = g j) {b : Nat} {w1 w2 : va_W} (hP : va_P D cl (w1 ++ (b, .inl (cI, n, .inl f)) :: w2) H) : va_P D cl (w1 ++ (b, .inl (cI, n, .inl g)) :: w2) H := by
  have e1 : vp_cell cI (n, .inl f) = vp_cell cI (n, .inl g) := by
    simp only [vp_cell, arrV]
    congr 1
    apply Array.ext
    · simp
    · intro i h1 h2
      simp only [Array.getElem_ofFn]
      rw [h i (by simpa using h1)]
  intro k q hk
  rcases Nat.lt_trichotomy k w1.length with hl | hl | hl
  · rw [List.getElem?_append_left hl] at hk
    exact hP k q (by rw [List.getElem?_append_left hl]; exact hk)
  · subst hl
    rw [List.getElem?_append_right (Nat.le_refl _), Nat.sub_self] at hk
    cases hk
    have := hP w1.length _ (by rw [List.getElem?_append_right (Nat.le_refl _), Nat.sub_self]; rfl)
    show H[b]? = some (vp_cell cI (n, .inl g))
    rw [← e1]
    exact this
  · rw [List.getElem?_append_right (Nat.le_of_lt hl)] at hk
    obtain ⟨i, hi⟩ : ∃ i, k - w1.length = i + 1 := ⟨k - w1.length - 1, by omega⟩
    rw [hi] at hk
    exact hP k q (by rw [List.getElem?_append_right (Nat.le_of_lt hl), hi]; exact hk)
end PqNew
