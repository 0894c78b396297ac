theorem pq_fill {j : Nat} (hj : j ≤ 33) : upd (fun j9 => if j9 < j then 15 else 0) (nI j).toNatClampNeg 15 = fun j9 => if j9 < (j + 1) then 15 else 0 := by
  rw [nI_clamp (by omega)]
  funext i
  unfold upd
  by_cases h : i = j
  · subst h
    simp
  · by_cases h2 : i < j
    · simp [h, h2, Nat.lt_succ_of_lt h2]
    · simp [h, h2, show ¬ i < j + 1 by omega]
theorem pq_fillj {j : Nat} (hj : j ≤ 33) (h : ¬ 32 < nI j) : j + 1 ≤ 33 := by
  have h32 : (32 : Int32) = nI 32 := by decide
  rw [h32, nI_ltI (by omega) (by omega)] at h
  omega
theorem pq_fillin {j : Nat} (hj : j ≤ 33) (h : ¬ 32 < nI j) : vp_in (nI j) 33 := vp_in_nI (Nat.lt_of_succ_le (pq_fillj hj h)) (by decide)
theorem pq_fille {j : Nat} (hj : j ≤ 33) (h : 32 < nI j) : j = 33 := by
  have h32 : (32 : Int32) = nI 32 := by decide
  rw [h32, nI_ltI (by omega) (by omega)] at h
  omega
set_option maxHeartbeats 4000000 in
set_option maxRecDepth 100000 in
theorem lp_Comp_init {l : Launch} {s0 : State} {a0 : Array Value} {D : va_G} {cI cL cC : ClassId} (hB : pq_B l s0 a0 D cI cL cC) (k : Nat) (pa : Nat) (qa : Nat) (p0 : Int32) (p1 : Int32) {p : Program} {e : Env} {s : State} {m : MethodId} {below : List Frame} {meth : Method} {c : Code} {A : Nat → Prop} (hx : p.tables.exec = Jvm.exec) (hb : c.code = b_Comp_init) (hr : meth.sig.returnType = none) (hlocks : meth.locks = false) (hml : c.maxLocals = 4) (hname : meth.name = y_Comp_init.name) (hown : s.vm.findClass R_Comp = some m.cls) (hW0 : s0.WarmedH s.vm) (hSA : pq_StA s0 s A) (hA : ∀ q : Nat, s.heap.size ≤ q → A q) :
  ∀ (n9 : Nat) (j : Nat), j ≤ 33 → 34 ≤ j + n9 → ∀ (H : Heap) (locs : List Loc) (ls : Array Slot), va_P D classes [(k, .inr (2, [.int p0, .int p1, .int 0, .int 6, .int 6, .ref pa, .ref qa])), (pa, .inl (cI, 33, .inl (fun j9 => if j9 < j then 15 else 0))), (qa, .inl (cI, 33, .inl (fun j9 => if j9 < j then 15 else 0)))] H → va_D A [(k, .inr (2, [.int p0, .int p1, .int 0, .int 6, .int 6, .ref pa, .ref qa])), (pa, .inl (cI, 33, .inl (fun j9 => if j9 < j then 15 else 0))), (qa, .inl (cI, 33, .inl (fun j9 => if j9 < j then 15 else 0)))] → va_S A s.heap H locs → lv_has ls 4 [(0, .ref k), (1, .int p0), (2, .int p1), (3, .int (nI j))] → W p l e (pq_rm 1 2 66) s m ([.ref k, .int p0, .int p1].toArray) below meth c H locs 2 66 (MQ below (va_Qv (fun (_ : Nat → Nat) => True) (fun z9 t9 => va_P D classes [(k, .inr (2, [.int p0, .int p1, .int 0, .int 6, .int 6, .ref (z9 0), .ref (z9 1)])), (z9 0, .inl (cI, 33, .inl (fun _ => 15))), (z9 1, .inl (cI, 33, .inl (fun _ => 15)))] t9.heap ∧ va_D A [(k, .inr (2, [.int p0, .int p1, .int 0, .int 6, .int 6, .ref (z9 0), .ref (z9 1)])), (z9 0, .inl (cI, 33, .inl (fun _ => 15))), (z9 1, .inl (cI, 33, .inl (fun _ => 15)))]) A) ([.ref k, .int p0, .int p1].toArray) s 2 66 A) (F0 m 49 ls []) := by
  have hK := hB.2.2.moved hW0.alike
  intro n9
  induction n9 with
  | zero =>
    exact fun j h1 h2 => absurd h2 (by omega)
  | succ n9 ih =>
    intro j hj hn H locs ls hP hD hS hl
    refine lv_iload_n hx hb d_Comp_init_49 rfl (lv_at hl 3 rfl) ?_
    refine lv_bipush (v := 32) hx hb d_Comp_init_50 (by decide) ?_
    refine lv_icmp_gt (tgt := 77) hx hb d_Comp_init_52 (by decide) (fun c_1 => ?_) (fun c_1 => ?_)
    · have ej := pq_fille hj c_1
      subst ej
      have hP := pq_arrEq (w1 := [(k, .inr (2, [.int p0, .int p1, .int 0, .int 6, .int 6, .ref pa, .ref qa]))]) (w2 := [(qa, .inl (cI, 33, .inl (fun j9 => if j9 < 33 then 15 else 0)))]) (g := fun _ => 15) (fun i hi => if_pos hi) hP
      have hP := pq_arrEq (w1 := [(k, .inr (2, [.int p0, .int p1, .int 0, .int 6, .int 6, .ref pa, .ref qa])), (pa, .inl (cI, 33, .inl (fun _ => 15)))]) (w2 := []) (g := fun _ => 15) (fun i hi => if_pos hi) hP
      have hD : va_D A [(k, .inr (2, [.int p0, .int p1, .int 0, .int 6, .int 6, .ref pa, .ref qa])), (pa, .inl (cI, 33, .inl (fun j9 => if j9 < 33 then 15 else 0))), (qa, .inl (cI, 33, .inl (fun j9 => if j9 < 33 then 15 else 0)))] := hD
      have hD : va_D A [(k, .inr (2, [.int p0, .int p1, .int 0, .int 6, .int 6, .ref pa, .ref qa])), (pa, .inl (cI, 33, .inl (fun _ => 15))), (qa, .inl (cI, 33, .inl (fun _ => 15)))] := pq_D hD rfl
      exact pq_retz2 (wz := fun z9 => [(k, .inr (2, [.int p0, .int p1, .int 0, .int 6, .int 6, .ref (z9 0), .ref (z9 1)])), (z9 0, .inl (cI, 33, .inl (fun _ => 15))), (z9 1, .inl (cI, 33, .inl (fun _ => 15)))]) (fun j9 => match j9 with | 0 => pa | _ => qa : Nat → Nat) hx hb hr hlocks hP hD hS (Nat.le_of_ble_eq_true rfl) (Nat.le_of_ble_eq_true rfl) d_Comp_init_77
    · refine lv_aload_n hx hb d_Comp_init_55 rfl (lv_at hl 0 rfl) ?_
      refine va_get (D := D) (ci := 2) (v := .ref pa) (C := R_Comp) (T := F_Comp) (N := 7) hx hb (uw_Comp hB hW0) (fun _ h9 => h9) hown hK hP 0 rfl rfl 5 (by decide) (fl_Comp_Comp_precinctW hB hW0) (fun _ h9 => h9) rfl d_Comp_init_56 ?_
      refine lv_iload_n hx hb d_Comp_init_59 rfl (lv_at hl 3 rfl) ?_
      refine lv_bipush (v := 15) hx hb d_Comp_init_60 (by decide) ?_
      refine va_iast hx hb hK hP hD hS 1 0 rfl rfl (pq_fillin hj c_1) d_Comp_init_62 (fun H locs hP hD hS => ?_)
      have hP : va_P D classes [(k, .inr (2, [.int p0, .int p1, .int 0, .int 6, .int 6, .ref pa, .ref qa])), (pa, .inl (cI, 33, .inl (upd (fun j9 => if j9 < j then 15 else 0) (nI j).toNatClampNeg 15))), (qa, .inl (cI, 33, .inl (fun j9 => if j9 < j then 15 else 0)))] H := hP
      have hD : va_D A [(k, .inr (2, [.int p0, .int p1, .int 0, .int 6, .int 6, .ref pa, .ref qa])), (pa, .inl (cI, 33, .inl (upd (fun j9 => if j9 < j then 15 else 0) (nI j).toNatClampNeg 15))), (qa, .inl (cI, 33, .inl (fun j9 => if j9 < j then 15 else 0)))] := hD
      refine lv_aload_n hx hb d_Comp_init_63 rfl (lv_at hl 0 rfl) ?_
      refine va_get (D := D) (ci := 2) (v := .ref qa) (C := R_Comp) (T := F_Comp) (N := 7) hx hb (uw_Comp hB hW0) (fun _ h9 => h9) hown hK hP 0 rfl rfl 6 (by decide) (fl_Comp_Comp_precinctH hB hW0) (fun _ h9 => h9) rfl d_Comp_init_64 ?_
      refine lv_iload_n hx hb d_Comp_init_67 rfl (lv_at hl 3 rfl) ?_
      refine lv_bipush (v := 15) hx hb d_Comp_init_68 (by decide) ?_
      refine va_iast hx hb hK hP hD hS 2 0 rfl rfl (pq_fillin hj c_1) d_Comp_init_70 (fun H locs hP hD hS => ?_)
      have hP : va_P D classes [(k, .inr (2, [.int p0, .int p1, .int 0, .int 6, .int 6, .ref pa, .ref qa])), (pa, .inl (cI, 33, .inl (upd (fun j9 => if j9 < j then 15 else 0) (nI j).toNatClampNeg 15))), (qa, .inl (cI, 33, .inl (upd (fun j9 => if j9 < j then 15 else 0) (nI j).toNatClampNeg 15)))] H := hP
      have hD : va_D A [(k, .inr (2, [.int p0, .int p1, .int 0, .int 6, .int 6, .ref pa, .ref qa])), (pa, .inl (cI, 33, .inl (upd (fun j9 => if j9 < j then 15 else 0) (nI j).toNatClampNeg 15))), (qa, .inl (cI, 33, .inl (upd (fun j9 => if j9 < j then 15 else 0) (nI j).toNatClampNeg 15)))] := hD
      refine lv_iinc (v := (nI j) + 1) (lv' := [(3, .int ((nI j) + 1)), (0, .ref k), (1, .int p0), (2, .int p1)]) hx hb d_Comp_init_71 hl (k := 3) rfl (by rfl) (by decide) rfl (fun ls hl => ?_)
      refine lv_goto (tgt := 49) hx hb d_Comp_init_74 (by decide) ?_
      have e1 : upd (fun j9 => if j9 < j then 15 else 0) (nI j).toNatClampNeg 15 = fun j9 => if j9 < (j + 1) then 15 else 0 := pq_fill hj
      rw [e1] at hP hD
      have e3 : nI j + 1 = nI (j + 1) := nI_1 j
      rw [e3] at hl
      exact ih (j + 1) (pq_fillj hj c_1) (by omega) H locs ls hP hD hS (lv_sub hl [1, 2, 3, 0] rfl)
set_option maxHeartbeats 4000000 in
set_option maxRecDepth 100000 in
theorem c_Comp_init {l : Launch} {s0 : State} {a0 : Array Value} {D : va_G} {cI cL cC : ClassId} (hB : pq_B l s0 a0 D cI cL cC) (k : Nat) (p0 : Int32) (p1 : Int32) (sz : Nat) : Met l y_Comp_init [.code y_Comp_init b_Comp_init 4 none] (pq_rm 1 2 66) (va_Pc [.ref k, .int p0, .int p1] (pq_Pre classes s0 D [(k, .inr (2, [.int 0, .int 0, .int 0, .int 0, .int 0, .null, .null]))] sz)) (va_Qv (fun (_ : Nat → Nat) => True) (fun z9 t9 => va_P D classes [(k, .inr (2, [.int p0, .int p1, .int 0, .int 6, .int 6, .ref (z9 0), .ref (z9 1)])), (z9 0, .inl (cI, 33, .inl (fun _ => 15))), (z9 1, .inl (cI, 33, .inl (fun _ => 15)))] t9.heap ∧ va_D (va_A [(k, .inr (2, [.int 0, .int 0, .int 0, .int 0, .int 0, .null, .null]))] sz) [(k, .inr (2, [.int p0, .int p1, .int 0, .int 6, .int 6, .ref (z9 0), .ref (z9 1)])), (z9 0, .inl (cI, 33, .inl (fun _ => 15))), (z9 1, .inl (cI, 33, .inl (fun _ => 15)))]) (va_A [(k, .inr (2, [.int 0, .int 0, .int 0, .int 0, .int 0, .null, .null]))] sz)) 2 66 (va_A [(k, .inr (2, [.int 0, .int 0, .int 0, .int 0, .int 0, .null, .null]))] sz) := by
  refine pq_ofW (Qf := fun A => va_Qv (fun (_ : Nat → Nat) => True) (fun z9 t9 => va_P D classes [(k, .inr (2, [.int p0, .int p1, .int 0, .int 6, .int 6, .ref (z9 0), .ref (z9 1)])), (z9 0, .inl (cI, 33, .inl (fun _ => 15))), (z9 1, .inl (cI, 33, .inl (fun _ => 15)))] t9.heap ∧ va_D A [(k, .inr (2, [.int p0, .int p1, .int 0, .int 6, .int 6, .ref (z9 0), .ref (z9 1)])), (z9 0, .inl (cI, 33, .inl (fun _ => 15))), (z9 1, .inl (cI, 33, .inl (fun _ => 15)))]) A) (by decide) (Nat.le_of_ble_eq_true rfl) ?_
  intro p e s m below meth c A ls hx hb hr hlocks hml hname hown hW0 hSA hsz hA hP hD hS hl
  have hown : s.vm.findClass R_Comp = some m.cls := hown
  have hK := hB.2.2.moved hW0.alike
  have hl : lv_has ls 4 [(0, .ref k), (1, .int p0), (2, .int p1)] := hl
  refine lv_aload_n hx hb d_Comp_init_0 rfl (lv_at hl 0 rfl) ?_
  refine W.objInit hx hb hown (ml_Comp_objinit hB hW0) (wn_objinit hB hW0) (wc_objinit hB hW0) rfl (by rw [hml]; exact hl.1) rfl d_Comp_init_1 (Nat.le_of_ble_eq_true rfl) (Nat.le_of_ble_eq_true rfl) ?_
  refine W.eq (g2 := F0 m 4 ls []) rfl ?_
  refine lv_aload_n hx hb d_Comp_init_4 rfl (lv_at hl 0 rfl) ?_
  refine lv_iconst (v := 0) hx hb d_Comp_init_5 (by decide) ?_
  refine va_put (D := D) (ci := 2) (v := .int 0) (ty := t_Comp 2) (C := R_Comp) (T := F_Comp) (N := 7) hx hb (uw_Comp hB hW0) (fun _ h9 => h9) t_Comp t_Comp_ok n_Comp hown hK hP hD hS 0 rfl rfl 2 (by decide) (fl_Comp_Comp_levels hB hW0) (fun _ h9 => h9) rfl (t_Comp_ok 2 (by decide)) rfl rfl (Nat.le_of_ble_eq_true rfl) d_Comp_init_6 (fun H locs hP hD hS => ?_)
  have hP : va_P D classes [(k, .inr (2, [.int 0, .int 0, .int 0, .int 0, .int 0, .null, .null]))] H := hP
  have hD : va_D A [(k, .inr (2, [.int 0, .int 0, .int 0, .int 0, .int 0, .null, .null]))] := hD
  refine lv_aload_n hx hb d_Comp_init_9 rfl (lv_at hl 0 rfl) ?_
  refine lv_bipush (v := 6) hx hb d_Comp_init_10 (by decide) ?_
  refine va_put (D := D) (ci := 2) (v := .int 6) (ty := t_Comp 3) (C := R_Comp) (T := F_Comp) (N := 7) hx hb (uw_Comp hB hW0) (fun _ h9 => h9) t_Comp t_Comp_ok n_Comp hown hK hP hD hS 0 rfl rfl 3 (by decide) (fl_Comp_Comp_blockW hB hW0) (fun _ h9 => h9) rfl (t_Comp_ok 3 (by decide)) rfl rfl (Nat.le_of_ble_eq_true rfl) d_Comp_init_12 (fun H locs hP hD hS => ?_)
  have hP : va_P D classes [(k, .inr (2, [.int 0, .int 0, .int 0, .int 6, .int 0, .null, .null]))] H := hP
  have hD : va_D A [(k, .inr (2, [.int 0, .int 0, .int 0, .int 6, .int 0, .null, .null]))] := hD
  refine lv_aload_n hx hb d_Comp_init_15 rfl (lv_at hl 0 rfl) ?_
  refine lv_bipush (v := 6) hx hb d_Comp_init_16 (by decide) ?_
  refine va_put (D := D) (ci := 2) (v := .int 6) (ty := t_Comp 4) (C := R_Comp) (T := F_Comp) (N := 7) hx hb (uw_Comp hB hW0) (fun _ h9 => h9) t_Comp t_Comp_ok n_Comp hown hK hP hD hS 0 rfl rfl 4 (by decide) (fl_Comp_Comp_blockH hB hW0) (fun _ h9 => h9) rfl (t_Comp_ok 4 (by decide)) rfl rfl (Nat.le_of_ble_eq_true rfl) d_Comp_init_18 (fun H locs hP hD hS => ?_)
  have hP : va_P D classes [(k, .inr (2, [.int 0, .int 0, .int 0, .int 6, .int 6, .null, .null]))] H := hP
  have hD : va_D A [(k, .inr (2, [.int 0, .int 0, .int 0, .int 6, .int 6, .null, .null]))] := hD
  refine lv_aload_n hx hb d_Comp_init_21 rfl (lv_at hl 0 rfl) ?_
  refine lv_bipush (v := 33) hx hb d_Comp_init_22 (by decide) ?_
  refine pq_newi hx hb (ac_int hB hW0) hK 0 rfl hP hD hS hA (N' := 33) (by decide) (by decide) (by decide) (Nat.le_of_ble_eq_true rfl) (Nat.le_of_ble_eq_true rfl) d_Comp_init_24 (fun q_1 H hP hD hS => ?_)
  have hP : va_P D classes [(k, .inr (2, [.int 0, .int 0, .int 0, .int 6, .int 6, .null, .null])), (q_1, .inl (cI, 33, .inl (fun _ => 0)))] H := hP
  have hD : va_D A [(k, .inr (2, [.int 0, .int 0, .int 0, .int 6, .int 6, .null, .null])), (q_1, .inl (cI, 33, .inl (fun _ => 0)))] := hD
  refine va_putF (D := D) (ci := 2) (v := .ref q_1) (ty := t_Comp 5) (C := R_Comp) (T := F_Comp) (N := 7) hx hb (uw_Comp hB hW0) (fun _ h9 => h9) t_Comp t_Comp_ok n_Comp hown hK hP hD hS 0 rfl rfl 5 (by decide) (fl_Comp_Comp_precinctW hB hW0) (fun _ h9 => h9) rfl hname rfl (t_Comp_ok 5 (by decide)) rfl rfl (Nat.le_of_ble_eq_true rfl) d_Comp_init_26 (fun H locs hP hD hS => ?_)
  have hP : va_P D classes [(k, .inr (2, [.int 0, .int 0, .int 0, .int 6, .int 6, .ref q_1, .null])), (q_1, .inl (cI, 33, .inl (fun _ => 0)))] H := hP
  have hD : va_D A [(k, .inr (2, [.int 0, .int 0, .int 0, .int 6, .int 6, .ref q_1, .null])), (q_1, .inl (cI, 33, .inl (fun _ => 0)))] := hD
  refine lv_aload_n hx hb d_Comp_init_29 rfl (lv_at hl 0 rfl) ?_
  refine lv_bipush (v := 33) hx hb d_Comp_init_30 (by decide) ?_
  refine pq_newi hx hb (ac_int hB hW0) hK 0 rfl hP hD hS hA (N' := 33) (by decide) (by decide) (by decide) (Nat.le_of_ble_eq_true rfl) (Nat.le_of_ble_eq_true rfl) d_Comp_init_32 (fun q_2 H hP hD hS => ?_)
  have hP : va_P D classes [(k, .inr (2, [.int 0, .int 0, .int 0, .int 6, .int 6, .ref q_1, .null])), (q_1, .inl (cI, 33, .inl (fun _ => 0))), (q_2, .inl (cI, 33, .inl (fun _ => 0)))] H := hP
  have hD : va_D A [(k, .inr (2, [.int 0, .int 0, .int 0, .int 6, .int 6, .ref q_1, .null])), (q_1, .inl (cI, 33, .inl (fun _ => 0))), (q_2, .inl (cI, 33, .inl (fun _ => 0)))] := hD
  refine va_putF (D := D) (ci := 2) (v := .ref q_2) (ty := t_Comp 6) (C := R_Comp) (T := F_Comp) (N := 7) hx hb (uw_Comp hB hW0) (fun _ h9 => h9) t_Comp t_Comp_ok n_Comp hown hK hP hD hS 0 rfl rfl 6 (by decide) (fl_Comp_Comp_precinctH hB hW0) (fun _ h9 => h9) rfl hname rfl (t_Comp_ok 6 (by decide)) rfl rfl (Nat.le_of_ble_eq_true rfl) d_Comp_init_34 (fun H locs hP hD hS => ?_)
  have hP : va_P D classes [(k, .inr (2, [.int 0, .int 0, .int 0, .int 6, .int 6, .ref q_1, .ref q_2])), (q_1, .inl (cI, 33, .inl (fun _ => 0))), (q_2, .inl (cI, 33, .inl (fun _ => 0)))] H := hP
  have hD : va_D A [(k, .inr (2, [.int 0, .int 0, .int 0, .int 6, .int 6, .ref q_1, .ref q_2])), (q_1, .inl (cI, 33, .inl (fun _ => 0))), (q_2, .inl (cI, 33, .inl (fun _ => 0)))] := hD
  refine lv_aload_n hx hb d_Comp_init_37 rfl (lv_at hl 0 rfl) ?_
  refine lv_iload_n hx hb d_Comp_init_38 rfl (lv_at hl 1 rfl) ?_
  refine va_putF (D := D) (ci := 2) (v := .int p0) (ty := t_Comp 0) (C := R_Comp) (T := F_Comp) (N := 7) hx hb (uw_Comp hB hW0) (fun _ h9 => h9) t_Comp t_Comp_ok n_Comp hown hK hP hD hS 0 rfl rfl 0 (by decide) (fl_Comp_Comp_dx hB hW0) (fun _ h9 => h9) rfl hname rfl (t_Comp_ok 0 (by decide)) rfl rfl (Nat.le_of_ble_eq_true rfl) d_Comp_init_39 (fun H locs hP hD hS => ?_)
  have hP : va_P D classes [(k, .inr (2, [.int p0, .int 0, .int 0, .int 6, .int 6, .ref q_1, .ref q_2])), (q_1, .inl (cI, 33, .inl (fun _ => 0))), (q_2, .inl (cI, 33, .inl (fun _ => 0)))] H := hP
  have hD : va_D A [(k, .inr (2, [.int p0, .int 0, .int 0, .int 6, .int 6, .ref q_1, .ref q_2])), (q_1, .inl (cI, 33, .inl (fun _ => 0))), (q_2, .inl (cI, 33, .inl (fun _ => 0)))] := hD
  refine lv_aload_n hx hb d_Comp_init_42 rfl (lv_at hl 0 rfl) ?_
  refine lv_iload_n hx hb d_Comp_init_43 rfl (lv_at hl 2 rfl) ?_
  refine va_putF (D := D) (ci := 2) (v := .int p1) (ty := t_Comp 1) (C := R_Comp) (T := F_Comp) (N := 7) hx hb (uw_Comp hB hW0) (fun _ h9 => h9) t_Comp t_Comp_ok n_Comp hown hK hP hD hS 0 rfl rfl 1 (by decide) (fl_Comp_Comp_dy hB hW0) (fun _ h9 => h9) rfl hname rfl (t_Comp_ok 1 (by decide)) rfl rfl (Nat.le_of_ble_eq_true rfl) d_Comp_init_44 (fun H locs hP hD hS => ?_)
  have hP : va_P D classes [(k, .inr (2, [.int p0, .int p1, .int 0, .int 6, .int 6, .ref q_1, .ref q_2])), (q_1, .inl (cI, 33, .inl (fun _ => 0))), (q_2, .inl (cI, 33, .inl (fun _ => 0)))] H := hP
  have hD : va_D A [(k, .inr (2, [.int p0, .int p1, .int 0, .int 6, .int 6, .ref q_1, .ref q_2])), (q_1, .inl (cI, 33, .inl (fun _ => 0))), (q_2, .inl (cI, 33, .inl (fun _ => 0)))] := hD
  refine lv_iconst (v := 0) hx hb d_Comp_init_47 (by decide) ?_
  refine lv_istore_n (lv' := [(3, .int 0), (0, .ref k), (1, .int p0), (2, .int p1)]) hx hb d_Comp_init_48 rfl hl (by decide) rfl (fun ls hl => ?_)
  have hl : lv_has ls 4 [(0, .ref k), (1, .int p0), (2, .int p1), (3, .int (nI 0))] := by rw [nI_0]; exact lv_sub hl [1, 2, 3, 0] rfl
  exact lp_Comp_init hB k q_1 q_2 p0 p1 hx hb hr hlocks hml hname hown hW0 hSA hA 34 0 (by decide) (by decide) _ _ ls (by have e0 : (fun _ : Nat => (0 : Int32)) = (fun j9 => if j9 < 0 then 15 else 0) := funext (fun i => rfl); rw [← e0]; exact hP) (pq_D hD rfl) hS hl
