set_option maxHeartbeats 4000000 in
set_option maxRecDepth 100000 in
theorem c_Box_init {l : Launch} {s0 : State} {a0 : Array Value} {D : va_G} {cI cL cC : ClassId} (hB : pq_B l s0 a0 D cI cL cC) (b : Nat) (f : Nat → Int32) (sz : Nat) : Met l y_Box_init [.code y_Box_init b_Box_init 1 none] (pq_rm 1 0 0) (va_Pc [.ref b] (pq_Pre classes s0 D [(b, .inr (0, [.int (f 0), .int (f 1), .int (f 2), .int (f 3)]))] sz)) (va_Qv (fun (_ : Unit) => True) (fun _ t9 => va_P D classes [(b, .inr (0, [.int ((fQuad 0 0 0 0) 0), .int ((fQuad 0 0 0 0) 1), .int ((fQuad 0 0 0 0) 2), .int ((fQuad 0 0 0 0) 3)]))] t9.heap) (va_A [(b, .inr (0, [.int (f 0), .int (f 1), .int (f 2), .int (f 3)]))] sz)) 0 0 (va_A [(b, .inr (0, [.int (f 0), .int (f 1), .int (f 2), .int (f 3)]))] sz) := by
  refine pq_ofW (Qf := fun A => va_Qv (fun (_ : Unit) => True) (fun _ t9 => va_P D classes [(b, .inr (0, [.int ((fQuad 0 0 0 0) 0), .int ((fQuad 0 0 0 0) 1), .int ((fQuad 0 0 0 0) 2), .int ((fQuad 0 0 0 0) 3)]))] t9.heap) A) (by decide) (Nat.le_of_ble_eq_true rfl) ?_
  intro p e s m below meth c A ls hx hb hr hlocks hml hname hown hW0 hSA hsz hA hP hD hS hl
  have hown : s.vm.findClass R_Box = some m.cls := hown
  have hK := hB.2.2.moved hW0.alike
  have hl : lv_has ls 1 [(0, .ref b)] := hl
  refine lv_aload_n hx hb d_Box_init_0 rfl (lv_at hl 0 rfl) ?_
  refine W.objInit hx hb hown (ml_Box_objinit hB hW0) (wn_objinit hB hW0) (wc_objinit hB hW0) rfl (by rw [hml]; exact hl.1) rfl d_Box_init_1 (Nat.le_of_ble_eq_true rfl) (Nat.le_of_ble_eq_true rfl) ?_
  refine W.eq (g2 := F0 m 4 ls []) rfl ?_
  refine lv_aload_n hx hb d_Box_init_4 rfl (lv_at hl 0 rfl) ?_
  refine lv_iconst (v := 0) hx hb d_Box_init_5 (by decide) ?_
  refine va_put (D := D) (ci := 0) (v := .int 0) (ty := t_Box 0) (C := R_Box) (T := F_Box) (N := 4) hx hb (uw_Box hB hW0) (fun _ h9 => h9) t_Box t_Box_ok n_Box hown hK hP hD hS 0 rfl rfl 0 (by decide) (fl_Box_Box_x0 hB hW0) (fun _ h9 => h9) rfl (t_Box_ok 0 (by decide)) rfl rfl (Nat.le_of_ble_eq_true rfl) d_Box_init_6 (fun H locs hP hD hS => ?_)
  have hP : va_P D classes [(b, .inr (0, [.int 0, .int (f 1), .int (f 2), .int (f 3)]))] H := hP
  have hD : va_D A [(b, .inr (0, [.int 0, .int (f 1), .int (f 2), .int (f 3)]))] := hD
  refine lv_aload_n hx hb d_Box_init_9 rfl (lv_at hl 0 rfl) ?_
  refine lv_iconst (v := 0) hx hb d_Box_init_10 (by decide) ?_
  refine va_put (D := D) (ci := 0) (v := .int 0) (ty := t_Box 1) (C := R_Box) (T := F_Box) (N := 4) hx hb (uw_Box hB hW0) (fun _ h9 => h9) t_Box t_Box_ok n_Box hown hK hP hD hS 0 rfl rfl 1 (by decide) (fl_Box_Box_y0 hB hW0) (fun _ h9 => h9) rfl (t_Box_ok 1 (by decide)) rfl rfl (Nat.le_of_ble_eq_true rfl) d_Box_init_11 (fun H locs hP hD hS => ?_)
  have hP : va_P D classes [(b, .inr (0, [.int 0, .int 0, .int (f 2), .int (f 3)]))] H := hP
  have hD : va_D A [(b, .inr (0, [.int 0, .int 0, .int (f 2), .int (f 3)]))] := hD
  refine lv_aload_n hx hb d_Box_init_14 rfl (lv_at hl 0 rfl) ?_
  refine lv_iconst (v := 0) hx hb d_Box_init_15 (by decide) ?_
  refine va_put (D := D) (ci := 0) (v := .int 0) (ty := t_Box 2) (C := R_Box) (T := F_Box) (N := 4) hx hb (uw_Box hB hW0) (fun _ h9 => h9) t_Box t_Box_ok n_Box hown hK hP hD hS 0 rfl rfl 2 (by decide) (fl_Box_Box_x1 hB hW0) (fun _ h9 => h9) rfl (t_Box_ok 2 (by decide)) rfl rfl (Nat.le_of_ble_eq_true rfl) d_Box_init_16 (fun H locs hP hD hS => ?_)
  have hP : va_P D classes [(b, .inr (0, [.int 0, .int 0, .int 0, .int (f 3)]))] H := hP
  have hD : va_D A [(b, .inr (0, [.int 0, .int 0, .int 0, .int (f 3)]))] := hD
  refine lv_aload_n hx hb d_Box_init_19 rfl (lv_at hl 0 rfl) ?_
  refine lv_iconst (v := 0) hx hb d_Box_init_20 (by decide) ?_
  refine va_put (D := D) (ci := 0) (v := .int 0) (ty := t_Box 3) (C := R_Box) (T := F_Box) (N := 4) hx hb (uw_Box hB hW0) (fun _ h9 => h9) t_Box t_Box_ok n_Box hown hK hP hD hS 0 rfl rfl 3 (by decide) (fl_Box_Box_y1 hB hW0) (fun _ h9 => h9) rfl (t_Box_ok 3 (by decide)) rfl rfl (Nat.le_of_ble_eq_true rfl) d_Box_init_21 (fun H locs hP hD hS => ?_)
  have hP : va_P D classes [(b, .inr (0, [.int 0, .int 0, .int 0, .int 0]))] H := hP
  have hD : va_D A [(b, .inr (0, [.int 0, .int 0, .int 0, .int 0]))] := hD
  have hP : va_P D classes [(b, .inr (0, [.int ((fQuad 0 0 0 0) 0), .int ((fQuad 0 0 0 0) 1), .int ((fQuad 0 0 0 0) 2), .int ((fQuad 0 0 0 0) 3)]))] H := hP
  exact pq_retv hx hb hr hlocks hP hS d_Box_init_24
set_option maxHeartbeats 4000000 in
set_option maxRecDepth 100000 in
theorem c_Box_set {l : Launch} {s0 : State} {a0 : Array Value} {D : va_G} {cI cL cC : ClassId} (hB : pq_B l s0 a0 D cI cL cC) (b : Nat) (f : Nat → Int32) (p0 : Int32) (p1 : Int32) (p2 : Int32) (p3 : Int32) (sz : Nat) : Met l y_Box_set [.code y_Box_set b_Box_set 5 none] (pq_rm 1 0 0) (va_Pc [.ref b, .int p0, .int p1, .int p2, .int p3] (pq_Pre classes s0 D [(b, .inr (0, [.int (f 0), .int (f 1), .int (f 2), .int (f 3)]))] sz)) (va_Qv (fun (_ : Unit) => True) (fun _ t9 => va_P D classes [(b, .inr (0, [.int ((fQuad p0 p1 p2 p3) 0), .int ((fQuad p0 p1 p2 p3) 1), .int ((fQuad p0 p1 p2 p3) 2), .int ((fQuad p0 p1 p2 p3) 3)]))] t9.heap) (va_A [(b, .inr (0, [.int (f 0), .int (f 1), .int (f 2), .int (f 3)]))] sz)) 0 0 (va_A [(b, .inr (0, [.int (f 0), .int (f 1), .int (f 2), .int (f 3)]))] sz) := by
  refine pq_ofW (Qf := fun A => va_Qv (fun (_ : Unit) => True) (fun _ t9 => va_P D classes [(b, .inr (0, [.int ((fQuad p0 p1 p2 p3) 0), .int ((fQuad p0 p1 p2 p3) 1), .int ((fQuad p0 p1 p2 p3) 2), .int ((fQuad p0 p1 p2 p3) 3)]))] t9.heap) A) (by decide) (Nat.le_of_ble_eq_true rfl) ?_
  intro p e s m below meth c A ls hx hb hr hlocks hml hname hown hW0 hSA hsz hA hP hD hS hl
  have hown : s.vm.findClass R_Box = some m.cls := hown
  have hK := hB.2.2.moved hW0.alike
  have hl : lv_has ls 5 [(0, .ref b), (1, .int p0), (2, .int p1), (3, .int p2), (4, .int p3)] := hl
  refine lv_aload_n hx hb d_Box_set_0 rfl (lv_at hl 0 rfl) ?_
  refine lv_iload_n hx hb d_Box_set_1 rfl (lv_at hl 1 rfl) ?_
  refine va_put (D := D) (ci := 0) (v := .int p0) (ty := t_Box 0) (C := R_Box) (T := F_Box) (N := 4) hx hb (uw_Box hB hW0) (fun _ h9 => h9) t_Box t_Box_ok n_Box hown hK hP hD hS 0 rfl rfl 0 (by decide) (fl_Box_Box_x0 hB hW0) (fun _ h9 => h9) rfl (t_Box_ok 0 (by decide)) rfl rfl (Nat.le_of_ble_eq_true rfl) d_Box_set_2 (fun H locs hP hD hS => ?_)
  have hP : va_P D classes [(b, .inr (0, [.int p0, .int (f 1), .int (f 2), .int (f 3)]))] H := hP
  have hD : va_D A [(b, .inr (0, [.int p0, .int (f 1), .int (f 2), .int (f 3)]))] := hD
  refine lv_aload_n hx hb d_Box_set_5 rfl (lv_at hl 0 rfl) ?_
  refine lv_iload_n hx hb d_Box_set_6 rfl (lv_at hl 2 rfl) ?_
  refine va_put (D := D) (ci := 0) (v := .int p1) (ty := t_Box 1) (C := R_Box) (T := F_Box) (N := 4) hx hb (uw_Box hB hW0) (fun _ h9 => h9) t_Box t_Box_ok n_Box hown hK hP hD hS 0 rfl rfl 1 (by decide) (fl_Box_Box_y0 hB hW0) (fun _ h9 => h9) rfl (t_Box_ok 1 (by decide)) rfl rfl (Nat.le_of_ble_eq_true rfl) d_Box_set_7 (fun H locs hP hD hS => ?_)
  have hP : va_P D classes [(b, .inr (0, [.int p0, .int p1, .int (f 2), .int (f 3)]))] H := hP
  have hD : va_D A [(b, .inr (0, [.int p0, .int p1, .int (f 2), .int (f 3)]))] := hD
  refine lv_aload_n hx hb d_Box_set_10 rfl (lv_at hl 0 rfl) ?_
  refine lv_iload_n hx hb d_Box_set_11 rfl (lv_at hl 3 rfl) ?_
  refine va_put (D := D) (ci := 0) (v := .int p2) (ty := t_Box 2) (C := R_Box) (T := F_Box) (N := 4) hx hb (uw_Box hB hW0) (fun _ h9 => h9) t_Box t_Box_ok n_Box hown hK hP hD hS 0 rfl rfl 2 (by decide) (fl_Box_Box_x1 hB hW0) (fun _ h9 => h9) rfl (t_Box_ok 2 (by decide)) rfl rfl (Nat.le_of_ble_eq_true rfl) d_Box_set_12 (fun H locs hP hD hS => ?_)
  have hP : va_P D classes [(b, .inr (0, [.int p0, .int p1, .int p2, .int (f 3)]))] H := hP
  have hD : va_D A [(b, .inr (0, [.int p0, .int p1, .int p2, .int (f 3)]))] := hD
  refine lv_aload_n hx hb d_Box_set_15 rfl (lv_at hl 0 rfl) ?_
  refine lv_iload hx hb d_Box_set_16 (lv_at hl 4 rfl) ?_
  refine va_put (D := D) (ci := 0) (v := .int p3) (ty := t_Box 3) (C := R_Box) (T := F_Box) (N := 4) hx hb (uw_Box hB hW0) (fun _ h9 => h9) t_Box t_Box_ok n_Box hown hK hP hD hS 0 rfl rfl 3 (by decide) (fl_Box_Box_y1 hB hW0) (fun _ h9 => h9) rfl (t_Box_ok 3 (by decide)) rfl rfl (Nat.le_of_ble_eq_true rfl) d_Box_set_18 (fun H locs hP hD hS => ?_)
  have hP : va_P D classes [(b, .inr (0, [.int p0, .int p1, .int p2, .int p3]))] H := hP
  have hD : va_D A [(b, .inr (0, [.int p0, .int p1, .int p2, .int p3]))] := hD
  have hP : va_P D classes [(b, .inr (0, [.int ((fQuad p0 p1 p2 p3) 0), .int ((fQuad p0 p1 p2 p3) 1), .int ((fQuad p0 p1 p2 p3) 2), .int ((fQuad p0 p1 p2 p3) 3)]))] H := hP
  exact pq_retv hx hb hr hlocks hP hS d_Box_set_21
set_option maxHeartbeats 4000000 in
set_option maxRecDepth 100000 in
theorem c_Box_isEmpty {l : Launch} {s0 : State} {a0 : Array Value} {D : va_G} {cI cL cC : ClassId} (hB : pq_B l s0 a0 D cI cL cC) (b : Nat) (x : Nat → Int32) (sz : Nat) : Met l y_Box_isEmpty [.code y_Box_isEmpty b_Box_isEmpty 1 (some .boolean)] (pq_rm 1 0 0) (va_Pc [.ref b] (pq_Pre classes s0 D [(b, .inr (0, [.int (x 0), .int (x 1), .int (x 2), .int (x 3)]))] sz)) (va_Qi (fun r (_ : Unit) => r = (fEmpty x)) (fun _ t9 => va_P D classes [(b, .inr (0, [.int (x 0), .int (x 1), .int (x 2), .int (x 3)]))] t9.heap) (va_A [(b, .inr (0, [.int (x 0), .int (x 1), .int (x 2), .int (x 3)]))] sz)) 0 0 (va_A [(b, .inr (0, [.int (x 0), .int (x 1), .int (x 2), .int (x 3)]))] sz) := by
  refine pq_ofW (Qf := fun A => va_Qi (fun r (_ : Unit) => r = (fEmpty x)) (fun _ t9 => va_P D classes [(b, .inr (0, [.int (x 0), .int (x 1), .int (x 2), .int (x 3)]))] t9.heap) A) (by decide) (Nat.le_of_ble_eq_true rfl) ?_
  intro p e s m below meth c A ls hx hb hr hlocks hml hname hown hW0 hSA hsz hA hP hD hS hl
  have hown : s.vm.findClass R_Box = some m.cls := hown
  have hK := hB.2.2.moved hW0.alike
  have hl : lv_has ls 1 [(0, .ref b)] := hl
  refine lv_aload_n hx hb d_Box_isEmpty_0 rfl (lv_at hl 0 rfl) ?_
  refine va_get (D := D) (ci := 0) (v := .int (x 0)) (C := R_Box) (T := F_Box) (N := 4) hx hb (uw_Box hB hW0) (fun _ h9 => h9) hown hK hP 0 rfl rfl 0 (by decide) (fl_Box_Box_x0 hB hW0) (fun _ h9 => h9) rfl d_Box_isEmpty_1 ?_
  refine lv_aload_n hx hb d_Box_isEmpty_4 rfl (lv_at hl 0 rfl) ?_
  refine va_get (D := D) (ci := 0) (v := .int (x 2)) (C := R_Box) (T := F_Box) (N := 4) hx hb (uw_Box hB hW0) (fun _ h9 => h9) hown hK hP 0 rfl rfl 2 (by decide) (fl_Box_Box_x1 hB hW0) (fun _ h9 => h9) rfl d_Box_isEmpty_5 ?_
  refine lv_icmp_ge (tgt := 22) hx hb d_Box_isEmpty_8 (by decide) (fun c_1 => ?_) (fun c_1 => ?_)
  · refine lv_iconst (v := 1) hx hb d_Box_isEmpty_22 (by decide) ?_
    refine lv_goto (tgt := 27) hx hb d_Box_isEmpty_23 (by decide) ?_
    exact pq_retz hx hb hr hlocks rfl (by unfold fEmpty; (repeat' split) <;> first | rfl | contradiction) hP hS d_Box_isEmpty_27
  · refine lv_aload_n hx hb d_Box_isEmpty_11 rfl (lv_at hl 0 rfl) ?_
    refine va_get (D := D) (ci := 0) (v := .int (x 1)) (C := R_Box) (T := F_Box) (N := 4) hx hb (uw_Box hB hW0) (fun _ h9 => h9) hown hK hP 0 rfl rfl 1 (by decide) (fl_Box_Box_y0 hB hW0) (fun _ h9 => h9) rfl d_Box_isEmpty_12 ?_
    refine lv_aload_n hx hb d_Box_isEmpty_15 rfl (lv_at hl 0 rfl) ?_
    refine va_get (D := D) (ci := 0) (v := .int (x 3)) (C := R_Box) (T := F_Box) (N := 4) hx hb (uw_Box hB hW0) (fun _ h9 => h9) hown hK hP 0 rfl rfl 3 (by decide) (fl_Box_Box_y1 hB hW0) (fun _ h9 => h9) rfl d_Box_isEmpty_16 ?_
    refine lv_icmp_lt (tgt := 26) hx hb d_Box_isEmpty_19 (by decide) (fun c_2 => ?_) (fun c_2 => ?_)
    · refine lv_iconst (v := 0) hx hb d_Box_isEmpty_26 (by decide) ?_
      exact pq_retz hx hb hr hlocks rfl (by unfold fEmpty; (repeat' split) <;> first | rfl | contradiction) hP hS d_Box_isEmpty_27
    · refine lv_iconst (v := 1) hx hb d_Box_isEmpty_22 (by decide) ?_
      refine lv_goto (tgt := 27) hx hb d_Box_isEmpty_23 (by decide) ?_
      exact pq_retz hx hb hr hlocks rfl (by unfold fEmpty; (repeat' split) <;> first | rfl | contradiction) hP hS d_Box_isEmpty_27
set_option maxHeartbeats 4000000 in
set_option maxRecDepth 100000 in
theorem c_Box_has {l : Launch} {s0 : State} {a0 : Array Value} {D : va_G} {cI cL cC : ClassId} (hB : pq_B l s0 a0 D cI cL cC) (b : Nat) (x : Nat → Int32) (u : Int64) (v : Int64) (sz : Nat) : Met l y_Box_has [.code y_Box_has b_Box_has 5 (some .boolean)] (pq_rm 1 0 0) (va_Pc [.ref b, .long u, .long v] (pq_Pre classes s0 D [(b, .inr (0, [.int (x 0), .int (x 1), .int (x 2), .int (x 3)]))] sz)) (va_Qi (fun r (_ : Unit) => r = (fHas x u v)) (fun _ t9 => va_P D classes [(b, .inr (0, [.int (x 0), .int (x 1), .int (x 2), .int (x 3)]))] t9.heap) (va_A [(b, .inr (0, [.int (x 0), .int (x 1), .int (x 2), .int (x 3)]))] sz)) 0 0 (va_A [(b, .inr (0, [.int (x 0), .int (x 1), .int (x 2), .int (x 3)]))] sz) := by
  refine pq_ofW (Qf := fun A => va_Qi (fun r (_ : Unit) => r = (fHas x u v)) (fun _ t9 => va_P D classes [(b, .inr (0, [.int (x 0), .int (x 1), .int (x 2), .int (x 3)]))] t9.heap) A) (by decide) (Nat.le_of_ble_eq_true rfl) ?_
  intro p e s m below meth c A ls hx hb hr hlocks hml hname hown hW0 hSA hsz hA hP hD hS hl
  have hown : s.vm.findClass R_Box = some m.cls := hown
  have hK := hB.2.2.moved hW0.alike
  have hl : lv_has ls 5 [(0, .ref b), (1, .long u), (3, .long v)] := hl
  refine lv_lload_n hx hb d_Box_has_0 rfl (lv_at hl 1 rfl) ?_
  refine lv_aload_n hx hb d_Box_has_1 rfl (lv_at hl 0 rfl) ?_
  refine va_get (D := D) (ci := 0) (v := .int (x 0)) (C := R_Box) (T := F_Box) (N := 4) hx hb (uw_Box hB hW0) (fun _ h9 => h9) hown hK hP 0 rfl rfl 0 (by decide) (fl_Box_Box_x0 hB hW0) (fun _ h9 => h9) rfl d_Box_has_2 ?_
  refine lv_i2l (v := (x 0).toInt64) hx hb d_Box_has_5 rfl ?_
  refine W.lcmp hx hb d_Box_has_6 ?_
  refine lv_if_lt (tgt := 44) hx hb d_Box_has_7 (by decide) (fun c_1 => ?_) (fun c_1 => ?_)
  · refine lv_iconst (v := 0) hx hb d_Box_has_44 (by decide) ?_
    exact pq_retz hx hb hr hlocks rfl (by unfold fHas; (repeat' split) <;> first | rfl | contradiction) hP hS d_Box_has_45
  · refine lv_lload_n hx hb d_Box_has_10 rfl (lv_at hl 1 rfl) ?_
    refine lv_aload_n hx hb d_Box_has_11 rfl (lv_at hl 0 rfl) ?_
    refine va_get (D := D) (ci := 0) (v := .int (x 2)) (C := R_Box) (T := F_Box) (N := 4) hx hb (uw_Box hB hW0) (fun _ h9 => h9) hown hK hP 0 rfl rfl 2 (by decide) (fl_Box_Box_x1 hB hW0) (fun _ h9 => h9) rfl d_Box_has_12 ?_
    refine lv_i2l (v := (x 2).toInt64) hx hb d_Box_has_15 rfl ?_
    refine W.lcmp hx hb d_Box_has_16 ?_
    refine lv_if_ge (tgt := 44) hx hb d_Box_has_17 (by decide) (fun c_2 => ?_) (fun c_2 => ?_)
    · refine lv_iconst (v := 0) hx hb d_Box_has_44 (by decide) ?_
      exact pq_retz hx hb hr hlocks rfl (by unfold fHas; (repeat' split) <;> first | rfl | contradiction) hP hS d_Box_has_45
    · refine lv_lload_n hx hb d_Box_has_20 rfl (lv_at hl 2 rfl) ?_
      refine lv_aload_n hx hb d_Box_has_21 rfl (lv_at hl 0 rfl) ?_
      refine va_get (D := D) (ci := 0) (v := .int (x 1)) (C := R_Box) (T := F_Box) (N := 4) hx hb (uw_Box hB hW0) (fun _ h9 => h9) hown hK hP 0 rfl rfl 1 (by decide) (fl_Box_Box_y0 hB hW0) (fun _ h9 => h9) rfl d_Box_has_22 ?_
      refine lv_i2l (v := (x 1).toInt64) hx hb d_Box_has_25 rfl ?_
      refine W.lcmp hx hb d_Box_has_26 ?_
      refine lv_if_lt (tgt := 44) hx hb d_Box_has_27 (by decide) (fun c_3 => ?_) (fun c_3 => ?_)
      · refine lv_iconst (v := 0) hx hb d_Box_has_44 (by decide) ?_
        exact pq_retz hx hb hr hlocks rfl (by unfold fHas; (repeat' split) <;> first | rfl | contradiction) hP hS d_Box_has_45
      · refine lv_lload_n hx hb d_Box_has_30 rfl (lv_at hl 2 rfl) ?_
        refine lv_aload_n hx hb d_Box_has_31 rfl (lv_at hl 0 rfl) ?_
        refine va_get (D := D) (ci := 0) (v := .int (x 3)) (C := R_Box) (T := F_Box) (N := 4) hx hb (uw_Box hB hW0) (fun _ h9 => h9) hown hK hP 0 rfl rfl 3 (by decide) (fl_Box_Box_y1 hB hW0) (fun _ h9 => h9) rfl d_Box_has_32 ?_
        refine lv_i2l (v := (x 3).toInt64) hx hb d_Box_has_35 rfl ?_
        refine W.lcmp hx hb d_Box_has_36 ?_
        refine lv_if_ge (tgt := 44) hx hb d_Box_has_37 (by decide) (fun c_4 => ?_) (fun c_4 => ?_)
        · refine lv_iconst (v := 0) hx hb d_Box_has_44 (by decide) ?_
          exact pq_retz hx hb hr hlocks rfl (by unfold fHas; (repeat' split) <;> first | rfl | contradiction) hP hS d_Box_has_45
        · refine lv_iconst (v := 1) hx hb d_Box_has_40 (by decide) ?_
          refine lv_goto (tgt := 45) hx hb d_Box_has_41 (by decide) ?_
          exact pq_retz hx hb hr hlocks rfl (by unfold fHas; (repeat' split) <;> first | rfl | contradiction) hP hS d_Box_has_45
set_option maxHeartbeats 4000000 in
set_option maxRecDepth 100000 in
theorem c_Box_edge {l : Launch} {s0 : State} {a0 : Array Value} {D : va_G} {cI cL cC : ClassId} (hB : pq_B l s0 a0 D cI cL cC) (b : Nat) (x : Nat → Int32) (q : Int32) (sz : Nat) : Met l y_Box_edge [.code y_Box_edge b_Box_edge 2 (some .int)] (pq_rm 1 0 0) (va_Pc [.ref b, .int q] (pq_Pre classes s0 D [(b, .inr (0, [.int (x 0), .int (x 1), .int (x 2), .int (x 3)]))] sz)) (va_Qi (fun r (_ : Unit) => r = (fEdge x q)) (fun _ t9 => va_P D classes [(b, .inr (0, [.int (x 0), .int (x 1), .int (x 2), .int (x 3)]))] t9.heap) (va_A [(b, .inr (0, [.int (x 0), .int (x 1), .int (x 2), .int (x 3)]))] sz)) 0 0 (va_A [(b, .inr (0, [.int (x 0), .int (x 1), .int (x 2), .int (x 3)]))] sz) := by
  refine pq_ofW (Qf := fun A => va_Qi (fun r (_ : Unit) => r = (fEdge x q)) (fun _ t9 => va_P D classes [(b, .inr (0, [.int (x 0), .int (x 1), .int (x 2), .int (x 3)]))] t9.heap) A) (by decide) (Nat.le_of_ble_eq_true rfl) ?_
  intro p e s m below meth c A ls hx hb hr hlocks hml hname hown hW0 hSA hsz hA hP hD hS hl
  have hown : s.vm.findClass R_Box = some m.cls := hown
  have hK := hB.2.2.moved hW0.alike
  have hl : lv_has ls 2 [(0, .ref b), (1, .int q)] := hl
  refine lv_iload_n hx hb d_Box_edge_0 rfl (lv_at hl 1 rfl) ?_
  by_cases e_1 : q = 0
  · refine lv_tableIn (off := 27) (tgt := 28) hx hb d_Box_edge_1 (by rw [e_1]; decide) (by rw [e_1]; decide) (by rw [e_1]; rfl) (by decide) ?_
    refine lv_aload_n hx hb d_Box_edge_28 rfl (lv_at hl 0 rfl) ?_
    refine va_get (D := D) (ci := 0) (v := .int (x 0)) (C := R_Box) (T := F_Box) (N := 4) hx hb (uw_Box hB hW0) (fun _ h9 => h9) hown hK hP 0 rfl rfl 0 (by decide) (fl_Box_Box_x0 hB hW0) (fun _ h9 => h9) rfl d_Box_edge_29 ?_
    exact pq_reti hx hb hr hlocks (by unfold fEdge; (repeat' split) <;> first | rfl | contradiction) hP hS d_Box_edge_32
  by_cases e_2 : q = 1
  · refine lv_tableIn (off := 32) (tgt := 33) hx hb d_Box_edge_1 (by rw [e_2]; decide) (by rw [e_2]; decide) (by rw [e_2]; rfl) (by decide) ?_
    refine lv_aload_n hx hb d_Box_edge_33 rfl (lv_at hl 0 rfl) ?_
    refine va_get (D := D) (ci := 0) (v := .int (x 1)) (C := R_Box) (T := F_Box) (N := 4) hx hb (uw_Box hB hW0) (fun _ h9 => h9) hown hK hP 0 rfl rfl 1 (by decide) (fl_Box_Box_y0 hB hW0) (fun _ h9 => h9) rfl d_Box_edge_34 ?_
    exact pq_reti hx hb hr hlocks (by unfold fEdge; (repeat' split) <;> first | rfl | contradiction) hP hS d_Box_edge_37
  by_cases e_3 : q = 2
  · refine lv_tableIn (off := 37) (tgt := 38) hx hb d_Box_edge_1 (by rw [e_3]; decide) (by rw [e_3]; decide) (by rw [e_3]; rfl) (by decide) ?_
    refine lv_aload_n hx hb d_Box_edge_38 rfl (lv_at hl 0 rfl) ?_
    refine va_get (D := D) (ci := 0) (v := .int (x 2)) (C := R_Box) (T := F_Box) (N := 4) hx hb (uw_Box hB hW0) (fun _ h9 => h9) hown hK hP 0 rfl rfl 2 (by decide) (fl_Box_Box_x1 hB hW0) (fun _ h9 => h9) rfl d_Box_edge_39 ?_
    exact pq_reti hx hb hr hlocks (by unfold fEdge; (repeat' split) <;> first | rfl | contradiction) hP hS d_Box_edge_42
  refine lv_tableOut (tgt := 43) hx hb d_Box_edge_1 (pq_out0_2 e_1 e_2 e_3) (by decide) ?_
  refine lv_aload_n hx hb d_Box_edge_43 rfl (lv_at hl 0 rfl) ?_
  refine va_get (D := D) (ci := 0) (v := .int (x 3)) (C := R_Box) (T := F_Box) (N := 4) hx hb (uw_Box hB hW0) (fun _ h9 => h9) hown hK hP 0 rfl rfl 3 (by decide) (fl_Box_Box_y1 hB hW0) (fun _ h9 => h9) rfl d_Box_edge_44 ?_
  exact pq_reti hx hb hr hlocks (by unfold fEdge; (repeat' split) <;> first | rfl | contradiction) hP hS d_Box_edge_47
set_option maxHeartbeats 4000000 in
set_option maxRecDepth 100000 in
theorem c_Box_divided {l : Launch} {s0 : State} {a0 : Array Value} {D : va_G} {cI cL cC : ClassId} (hB : pq_B l s0 a0 D cI cL cC) (q : Int32) (st : Int32) (sz : Nat) : Met l y_Box_divided [.code y_Box_divided b_Box_divided 2 (some .int)] (pq_rm 1 0 0) (va_Pc [.int q, .int st] (pq_Pre classes s0 D [] sz)) (va_Qi (fun r (_ : Unit) => r = (fDivd q st)) (fun _ t9 => va_P D classes [] t9.heap) (va_A [] sz)) 0 0 (va_A [] sz) := by
  refine pq_ofW (Qf := fun A => va_Qi (fun r (_ : Unit) => r = (fDivd q st)) (fun _ t9 => va_P D classes [] t9.heap) A) (by decide) (Nat.le_of_ble_eq_true rfl) ?_
  intro p e s m below meth c A ls hx hb hr hlocks hml hname hown hW0 hSA hsz hA hP hD hS hl
  have hown : s.vm.findClass R_Box = some m.cls := hown
  have hK := hB.2.2.moved hW0.alike
  have hl : lv_has ls 2 [(0, .int q), (1, .int st)] := hl
  refine lv_iload_n hx hb d_Box_divided_0 rfl (lv_at hl 1 rfl) ?_
  refine lv_iconst (v := 1) hx hb d_Box_divided_1 (by decide) ?_
  refine lv_icmp_ge (tgt := 9) hx hb d_Box_divided_2 (by decide) (fun c_1 => ?_) (fun c_1 => ?_)
  · refine lv_iload_n hx hb d_Box_divided_9 rfl (lv_at hl 0 rfl) ?_
    refine lv_iload_n hx hb d_Box_divided_10 rfl (lv_at hl 1 rfl) ?_
    refine lv_iadd hx hb d_Box_divided_11 ?_
    refine lv_iconst (v := 1) hx hb d_Box_divided_12 (by decide) ?_
    refine lv_isub hx hb d_Box_divided_13 ?_
    refine lv_iload_n hx hb d_Box_divided_14 rfl (lv_at hl 1 rfl) ?_
    refine lv_idiv hx hb d_Box_divided_15 (pq_ne1 c_1) ?_
    exact pq_reti hx hb hr hlocks (by unfold fDivd; (repeat' split) <;> first | rfl | contradiction) hP hS d_Box_divided_16
  · refine lv_iload_n hx hb d_Box_divided_5 rfl (lv_at hl 0 rfl) ?_
    refine lv_goto (tgt := 16) hx hb d_Box_divided_6 (by decide) ?_
    exact pq_reti hx hb hr hlocks (by unfold fDivd; (repeat' split) <;> first | rfl | contradiction) hP hS d_Box_divided_16
set_option maxHeartbeats 4000000 in
set_option maxRecDepth 100000 in
theorem c_Box_divide {l : Launch} {s0 : State} {a0 : Array Value} {D : va_G} {cI cL cC : ClassId} (hB : pq_B l s0 a0 D cI cL cC) (b : Nat) (w : Nat) (f : Nat → Int32) (x : Nat → Int32) (dx : Int32) (dy : Int32) (sz : Nat) : Met l y_Box_divide [.code y_Box_divide b_Box_divide 4 none] (pq_rm 2 0 0) (va_Pc [.ref b, .ref w, .int dx, .int dy] (pq_Pre classes s0 D [(b, .inr (0, [.int (f 0), .int (f 1), .int (f 2), .int (f 3)])), (w, .inr (0, [.int (x 0), .int (x 1), .int (x 2), .int (x 3)]))] sz)) (va_Qv (fun (_ : Unit) => True) (fun _ t9 => va_P D classes [(b, .inr (0, [.int ((bDiv x dx dy) 0), .int ((bDiv x dx dy) 1), .int ((bDiv x dx dy) 2), .int ((bDiv x dx dy) 3)])), (w, .inr (0, [.int (x 0), .int (x 1), .int (x 2), .int (x 3)]))] t9.heap) (va_A [(b, .inr (0, [.int (f 0), .int (f 1), .int (f 2), .int (f 3)])), (w, .inr (0, [.int (x 0), .int (x 1), .int (x 2), .int (x 3)]))] sz)) 0 0 (va_A [(b, .inr (0, [.int (f 0), .int (f 1), .int (f 2), .int (f 3)])), (w, .inr (0, [.int (x 0), .int (x 1), .int (x 2), .int (x 3)]))] sz) := by
  refine pq_ofW (Qf := fun A => va_Qv (fun (_ : Unit) => True) (fun _ t9 => va_P D classes [(b, .inr (0, [.int ((bDiv x dx dy) 0), .int ((bDiv x dx dy) 1), .int ((bDiv x dx dy) 2), .int ((bDiv x dx dy) 3)])), (w, .inr (0, [.int (x 0), .int (x 1), .int (x 2), .int (x 3)]))] t9.heap) A) (by decide) (Nat.le_of_ble_eq_true rfl) ?_
  intro p e s m below meth c A ls hx hb hr hlocks hml hname hown hW0 hSA hsz hA hP hD hS hl
  have hown : s.vm.findClass R_Box = some m.cls := hown
  have hK := hB.2.2.moved hW0.alike
  have hl : lv_has ls 4 [(0, .ref b), (1, .ref w), (2, .int dx), (3, .int dy)] := hl
  refine lv_aload_n hx hb d_Box_divide_0 rfl (lv_at hl 0 rfl) ?_
  refine lv_aload_n hx hb d_Box_divide_1 rfl (lv_at hl 1 rfl) ?_
  refine va_get (D := D) (ci := 0) (v := .int (x 0)) (C := R_Box) (T := F_Box) (N := 4) hx hb (uw_Box hB hW0) (fun _ h9 => h9) hown hK hP 1 rfl rfl 0 (by decide) (fl_Box_Box_x0 hB hW0) (fun _ h9 => h9) rfl d_Box_divide_2 ?_
  refine lv_iload_n hx hb d_Box_divide_5 rfl (lv_at hl 2 rfl) ?_
  refine pq_ci (is := []) (wc := []) (w1 := []) (ws' := [(b, .inr (0, [.int (f 0), .int (f 1), .int (f 2), .int (f 3)])), (w, .inr (0, [.int (x 0), .int (x 1), .int (x 2), .int (x 3)]))]) (pq_runS (As := [.int (x 0), .int dx]) (rest := [.ref b]) hx hb hml hown (v_Box_Box_divided hB hW0) (c_Box_divided hB (x 0) dx _) rfl rfl (by decide) (by decide) (pq_pre hW0 (hSA.now hS) hP hD [] (by decide) rfl) hl rfl (Nat.le_of_ble_eq_true rfl) d_Box_divide_6 ⟨Nat.le_of_ble_eq_true rfl, Nat.le_of_ble_eq_true rfl⟩) hP hD hS hA rfl rfl rfl (ad := [b, w]) rfl rfl (fun H locs hP hD hS => ?_)
  refine lv_aload_n hx hb d_Box_divide_9 rfl (lv_at hl 1 rfl) ?_
  refine va_get (D := D) (ci := 0) (v := .int (x 1)) (C := R_Box) (T := F_Box) (N := 4) hx hb (uw_Box hB hW0) (fun _ h9 => h9) hown hK hP 1 rfl rfl 1 (by decide) (fl_Box_Box_y0 hB hW0) (fun _ h9 => h9) rfl d_Box_divide_10 ?_
  refine lv_iload_n hx hb d_Box_divide_13 rfl (lv_at hl 3 rfl) ?_
  refine pq_ci (is := []) (wc := []) (w1 := []) (ws' := [(b, .inr (0, [.int (f 0), .int (f 1), .int (f 2), .int (f 3)])), (w, .inr (0, [.int (x 0), .int (x 1), .int (x 2), .int (x 3)]))]) (pq_runS (As := [.int (x 1), .int dy]) (rest := [.int (fDivd (x 0) dx), .ref b]) hx hb hml hown (v_Box_Box_divided hB hW0) (c_Box_divided hB (x 1) dy _) rfl rfl (by decide) (by decide) (pq_pre hW0 (hSA.now hS) hP hD [] (by decide) rfl) hl rfl (Nat.le_of_ble_eq_true rfl) d_Box_divide_14 ⟨Nat.le_of_ble_eq_true rfl, Nat.le_of_ble_eq_true rfl⟩) hP hD hS hA rfl rfl rfl (ad := [b, w]) rfl rfl (fun H locs hP hD hS => ?_)
  refine lv_aload_n hx hb d_Box_divide_17 rfl (lv_at hl 1 rfl) ?_
  refine va_get (D := D) (ci := 0) (v := .int (x 2)) (C := R_Box) (T := F_Box) (N := 4) hx hb (uw_Box hB hW0) (fun _ h9 => h9) hown hK hP 1 rfl rfl 2 (by decide) (fl_Box_Box_x1 hB hW0) (fun _ h9 => h9) rfl d_Box_divide_18 ?_
  refine lv_iload_n hx hb d_Box_divide_21 rfl (lv_at hl 2 rfl) ?_
  refine pq_ci (is := []) (wc := []) (w1 := []) (ws' := [(b, .inr (0, [.int (f 0), .int (f 1), .int (f 2), .int (f 3)])), (w, .inr (0, [.int (x 0), .int (x 1), .int (x 2), .int (x 3)]))]) (pq_runS (As := [.int (x 2), .int dx]) (rest := [.int (fDivd (x 1) dy), .int (fDivd (x 0) dx), .ref b]) hx hb hml hown (v_Box_Box_divided hB hW0) (c_Box_divided hB (x 2) dx _) rfl rfl (by decide) (by decide) (pq_pre hW0 (hSA.now hS) hP hD [] (by decide) rfl) hl rfl (Nat.le_of_ble_eq_true rfl) d_Box_divide_22 ⟨Nat.le_of_ble_eq_true rfl, Nat.le_of_ble_eq_true rfl⟩) hP hD hS hA rfl rfl rfl (ad := [b, w]) rfl rfl (fun H locs hP hD hS => ?_)
  refine lv_aload_n hx hb d_Box_divide_25 rfl (lv_at hl 1 rfl) ?_
  refine va_get (D := D) (ci := 0) (v := .int (x 3)) (C := R_Box) (T := F_Box) (N := 4) hx hb (uw_Box hB hW0) (fun _ h9 => h9) hown hK hP 1 rfl rfl 3 (by decide) (fl_Box_Box_y1 hB hW0) (fun _ h9 => h9) rfl d_Box_divide_26 ?_
  refine lv_iload_n hx hb d_Box_divide_29 rfl (lv_at hl 3 rfl) ?_
  refine pq_ci (is := []) (wc := []) (w1 := []) (ws' := [(b, .inr (0, [.int (f 0), .int (f 1), .int (f 2), .int (f 3)])), (w, .inr (0, [.int (x 0), .int (x 1), .int (x 2), .int (x 3)]))]) (pq_runS (As := [.int (x 3), .int dy]) (rest := [.int (fDivd (x 2) dx), .int (fDivd (x 1) dy), .int (fDivd (x 0) dx), .ref b]) hx hb hml hown (v_Box_Box_divided hB hW0) (c_Box_divided hB (x 3) dy _) rfl rfl (by decide) (by decide) (pq_pre hW0 (hSA.now hS) hP hD [] (by decide) rfl) hl rfl (Nat.le_of_ble_eq_true rfl) d_Box_divide_30 ⟨Nat.le_of_ble_eq_true rfl, Nat.le_of_ble_eq_true rfl⟩) hP hD hS hA rfl rfl rfl (ad := [b, w]) rfl rfl (fun H locs hP hD hS => ?_)
  refine pq_cv (is := [0]) (wc := [(b, .inr (0, [.int (f 0), .int (f 1), .int (f 2), .int (f 3)]))]) (w1 := [(b, .inr (0, [.int ((fQuad (fDivd (x 0) dx) (fDivd (x 1) dy) (fDivd (x 2) dx) (fDivd (x 3) dy)) 0), .int ((fQuad (fDivd (x 0) dx) (fDivd (x 1) dy) (fDivd (x 2) dx) (fDivd (x 3) dy)) 1), .int ((fQuad (fDivd (x 0) dx) (fDivd (x 1) dy) (fDivd (x 2) dx) (fDivd (x 3) dy)) 2), .int ((fQuad (fDivd (x 0) dx) (fDivd (x 1) dy) (fDivd (x 2) dx) (fDivd (x 3) dy)) 3)]))]) (ws' := [(b, .inr (0, [.int ((fQuad (fDivd (x 0) dx) (fDivd (x 1) dy) (fDivd (x 2) dx) (fDivd (x 3) dy)) 0), .int ((fQuad (fDivd (x 0) dx) (fDivd (x 1) dy) (fDivd (x 2) dx) (fDivd (x 3) dy)) 1), .int ((fQuad (fDivd (x 0) dx) (fDivd (x 1) dy) (fDivd (x 2) dx) (fDivd (x 3) dy)) 2), .int ((fQuad (fDivd (x 0) dx) (fDivd (x 1) dy) (fDivd (x 2) dx) (fDivd (x 3) dy)) 3)])), (w, .inr (0, [.int (x 0), .int (x 1), .int (x 2), .int (x 3)]))]) (pq_runV (As := [.int (fDivd (x 0) dx), .int (fDivd (x 1) dy), .int (fDivd (x 2) dx), .int (fDivd (x 3) dy)]) (rest := []) hx hb hml hown (v_Box_Box_set hB hW0) (c_Box_set hB b f (fDivd (x 0) dx) (fDivd (x 1) dy) (fDivd (x 2) dx) (fDivd (x 3) dy) _) rfl rfl (by decide) (by decide) (pq_pre hW0 (hSA.now hS) hP hD [0] (by decide) rfl) (va_recv hK hP (ci := 0) (q0 := 0) rfl rfl) hl rfl (Nat.le_of_ble_eq_true rfl) d_Box_divide_33 ⟨Nat.le_of_ble_eq_true rfl, Nat.le_of_ble_eq_true rfl⟩) hP hD hS hA rfl rfl rfl (ad := [b, w]) rfl rfl (fun H locs hP hD hS => ?_)
  have hP : va_P D classes [(b, .inr (0, [.int ((bDiv x dx dy) 0), .int ((bDiv x dx dy) 1), .int ((bDiv x dx dy) 2), .int ((bDiv x dx dy) 3)])), (w, .inr (0, [.int (x 0), .int (x 1), .int (x 2), .int (x 3)]))] H := hP
  exact pq_retv hx hb hr hlocks hP hS d_Box_divide_36
set_option maxHeartbeats 4000000 in
set_option maxRecDepth 100000 in
theorem c_Box_scaled {l : Launch} {s0 : State} {a0 : Array Value} {D : va_G} {cI cL cC : ClassId} (hB : pq_B l s0 a0 D cI cL cC) (q : Int32) (nn : Int32) (o : Int32) (sz : Nat) : Met l y_Box_scaled [.code y_Box_scaled b_Box_scaled 7 (some .int)] (pq_rm 1 0 0) (va_Pc [.int q, .int nn, .int o] (pq_Pre classes s0 D [] sz)) (va_Qi (fun r (_ : Unit) => r = (fScal q nn o)) (fun _ t9 => va_P D classes [] t9.heap) (va_A [] sz)) 0 0 (va_A [] sz) := by
  refine pq_ofW (Qf := fun A => va_Qi (fun r (_ : Unit) => r = (fScal q nn o)) (fun _ t9 => va_P D classes [] t9.heap) A) (by decide) (Nat.le_of_ble_eq_true rfl) ?_
  intro p e s m below meth c A ls hx hb hr hlocks hml hname hown hW0 hSA hsz hA hP hD hS hl
  have hown : s.vm.findClass R_Box = some m.cls := hown
  have hK := hB.2.2.moved hW0.alike
  have hl : lv_has ls 7 [(0, .int q), (1, .int nn), (2, .int o)] := hl
  refine lv_lconst (v := 1) hx hb d_Box_scaled_0 (by decide) ?_
  refine lv_iload_n hx hb d_Box_scaled_1 rfl (lv_at hl 1 rfl) ?_
  refine lv_lshl (v := (1 : Int64) <<< (nn.toInt64 &&& 63)) hx hb d_Box_scaled_2 rfl ?_
  refine lv_lstore_n (lv' := [(3, .long ((1 : Int64) <<< (nn.toInt64 &&& 63))), (0, .int q), (1, .int nn), (2, .int o)]) hx hb d_Box_scaled_3 rfl hl (by decide) rfl (fun ls hl => ?_)
  refine lv_iload_n hx hb d_Box_scaled_4 rfl (lv_at hl 3 rfl) ?_
  refine lv_i2l (v := o.toInt64) hx hb d_Box_scaled_5 rfl ?_
  refine lv_lload_n hx hb d_Box_scaled_6 rfl (lv_at hl 0 rfl) ?_
  refine lv_iconst (v := 1) hx hb d_Box_scaled_7 (by decide) ?_
  refine lv_lshr (v := ((1 : Int64) <<< (nn.toInt64 &&& 63)) >>> ((1 : Int32).toInt64 &&& 63)) hx hb d_Box_scaled_8 rfl ?_
  refine lv_lmul hx hb d_Box_scaled_9 ?_
  refine lv_lstore (lv' := [(5, .long (o.toInt64 * (((1 : Int64) <<< (nn.toInt64 &&& 63)) >>> ((1 : Int32).toInt64 &&& 63)))), (3, .long ((1 : Int64) <<< (nn.toInt64 &&& 63))), (0, .int q), (1, .int nn), (2, .int o)]) hx hb d_Box_scaled_10 hl (by decide) rfl (fun ls hl => ?_)
  refine lv_iload_n hx hb d_Box_scaled_12 rfl (lv_at hl 2 rfl) ?_
  refine lv_i2l (v := q.toInt64) hx hb d_Box_scaled_13 rfl ?_
  refine lv_lload hx hb d_Box_scaled_14 (lv_at hl 0 rfl) ?_
  refine lv_lsub hx hb d_Box_scaled_16 ?_
  refine lv_lload_n hx hb d_Box_scaled_17 rfl (lv_at hl 1 rfl) ?_
  refine lv_ladd hx hb d_Box_scaled_18 ?_
  refine lv_lconst (v := 1) hx hb d_Box_scaled_19 (by decide) ?_
  refine lv_lsub hx hb d_Box_scaled_20 ?_
  refine lv_iload_n hx hb d_Box_scaled_21 rfl (lv_at hl 3 rfl) ?_
  refine lv_lshr (v := (((q.toInt64 - (o.toInt64 * (((1 : Int64) <<< (nn.toInt64 &&& 63)) >>> ((1 : Int32).toInt64 &&& 63)))) + ((1 : Int64) <<< (nn.toInt64 &&& 63))) - 1) >>> (nn.toInt64 &&& 63)) hx hb d_Box_scaled_22 rfl ?_
  refine lv_l2i (v := ((((q.toInt64 - (o.toInt64 * (((1 : Int64) <<< (nn.toInt64 &&& 63)) >>> ((1 : Int32).toInt64 &&& 63)))) + ((1 : Int64) <<< (nn.toInt64 &&& 63))) - 1) >>> (nn.toInt64 &&& 63)).toInt32) hx hb d_Box_scaled_23 rfl ?_
  exact pq_reti hx hb hr hlocks (by unfold fScal; (repeat' split) <;> first | rfl | contradiction) hP hS d_Box_scaled_24
set_option maxHeartbeats 4000000 in
set_option maxRecDepth 100000 in
theorem c_Box_scale {l : Launch} {s0 : State} {a0 : Array Value} {D : va_G} {cI cL cC : ClassId} (hB : pq_B l s0 a0 D cI cL cC) (b : Nat) (w : Nat) (f : Nat → Int32) (x : Nat → Int32) (nn : Int32) (ox : Int32) (oy : Int32) (sz : Nat) : Met l y_Box_scale [.code y_Box_scale b_Box_scale 5 none] (pq_rm 2 0 0) (va_Pc [.ref b, .ref w, .int nn, .int ox, .int oy] (pq_Pre classes s0 D [(b, .inr (0, [.int (f 0), .int (f 1), .int (f 2), .int (f 3)])), (w, .inr (0, [.int (x 0), .int (x 1), .int (x 2), .int (x 3)]))] sz)) (va_Qv (fun (_ : Unit) => True) (fun _ t9 => va_P D classes [(b, .inr (0, [.int ((bScal x nn ox oy) 0), .int ((bScal x nn ox oy) 1), .int ((bScal x nn ox oy) 2), .int ((bScal x nn ox oy) 3)])), (w, .inr (0, [.int (x 0), .int (x 1), .int (x 2), .int (x 3)]))] t9.heap) (va_A [(b, .inr (0, [.int (f 0), .int (f 1), .int (f 2), .int (f 3)])), (w, .inr (0, [.int (x 0), .int (x 1), .int (x 2), .int (x 3)]))] sz)) 0 0 (va_A [(b, .inr (0, [.int (f 0), .int (f 1), .int (f 2), .int (f 3)])), (w, .inr (0, [.int (x 0), .int (x 1), .int (x 2), .int (x 3)]))] sz) := by
  refine pq_ofW (Qf := fun A => va_Qv (fun (_ : Unit) => True) (fun _ t9 => va_P D classes [(b, .inr (0, [.int ((bScal x nn ox oy) 0), .int ((bScal x nn ox oy) 1), .int ((bScal x nn ox oy) 2), .int ((bScal x nn ox oy) 3)])), (w, .inr (0, [.int (x 0), .int (x 1), .int (x 2), .int (x 3)]))] t9.heap) A) (by decide) (Nat.le_of_ble_eq_true rfl) ?_
  intro p e s m below meth c A ls hx hb hr hlocks hml hname hown hW0 hSA hsz hA hP hD hS hl
  have hown : s.vm.findClass R_Box = some m.cls := hown
  have hK := hB.2.2.moved hW0.alike
  have hl : lv_has ls 5 [(0, .ref b), (1, .ref w), (2, .int nn), (3, .int ox), (4, .int oy)] := hl
  refine lv_aload_n hx hb d_Box_scale_0 rfl (lv_at hl 0 rfl) ?_
  refine lv_aload_n hx hb d_Box_scale_1 rfl (lv_at hl 1 rfl) ?_
  refine va_get (D := D) (ci := 0) (v := .int (x 0)) (C := R_Box) (T := F_Box) (N := 4) hx hb (uw_Box hB hW0) (fun _ h9 => h9) hown hK hP 1 rfl rfl 0 (by decide) (fl_Box_Box_x0 hB hW0) (fun _ h9 => h9) rfl d_Box_scale_2 ?_
  refine lv_iload_n hx hb d_Box_scale_5 rfl (lv_at hl 2 rfl) ?_
  refine lv_iload_n hx hb d_Box_scale_6 rfl (lv_at hl 3 rfl) ?_
  refine pq_ci (is := []) (wc := []) (w1 := []) (ws' := [(b, .inr (0, [.int (f 0), .int (f 1), .int (f 2), .int (f 3)])), (w, .inr (0, [.int (x 0), .int (x 1), .int (x 2), .int (x 3)]))]) (pq_runS (As := [.int (x 0), .int nn, .int ox]) (rest := [.ref b]) hx hb hml hown (v_Box_Box_scaled hB hW0) (c_Box_scaled hB (x 0) nn ox _) rfl rfl (by decide) (by decide) (pq_pre hW0 (hSA.now hS) hP hD [] (by decide) rfl) hl rfl (Nat.le_of_ble_eq_true rfl) d_Box_scale_7 ⟨Nat.le_of_ble_eq_true rfl, Nat.le_of_ble_eq_true rfl⟩) hP hD hS hA rfl rfl rfl (ad := [b, w]) rfl rfl (fun H locs hP hD hS => ?_)
  refine lv_aload_n hx hb d_Box_scale_10 rfl (lv_at hl 1 rfl) ?_
  refine va_get (D := D) (ci := 0) (v := .int (x 1)) (C := R_Box) (T := F_Box) (N := 4) hx hb (uw_Box hB hW0) (fun _ h9 => h9) hown hK hP 1 rfl rfl 1 (by decide) (fl_Box_Box_y0 hB hW0) (fun _ h9 => h9) rfl d_Box_scale_11 ?_
  refine lv_iload_n hx hb d_Box_scale_14 rfl (lv_at hl 2 rfl) ?_
  refine lv_iload hx hb d_Box_scale_15 (lv_at hl 4 rfl) ?_
  refine pq_ci (is := []) (wc := []) (w1 := []) (ws' := [(b, .inr (0, [.int (f 0), .int (f 1), .int (f 2), .int (f 3)])), (w, .inr (0, [.int (x 0), .int (x 1), .int (x 2), .int (x 3)]))]) (pq_runS (As := [.int (x 1), .int nn, .int oy]) (rest := [.int (fScal (x 0) nn ox), .ref b]) hx hb hml hown (v_Box_Box_scaled hB hW0) (c_Box_scaled hB (x 1) nn oy _) rfl rfl (by decide) (by decide) (pq_pre hW0 (hSA.now hS) hP hD [] (by decide) rfl) hl rfl (Nat.le_of_ble_eq_true rfl) d_Box_scale_17 ⟨Nat.le_of_ble_eq_true rfl, Nat.le_of_ble_eq_true rfl⟩) hP hD hS hA rfl rfl rfl (ad := [b, w]) rfl rfl (fun H locs hP hD hS => ?_)
  refine lv_aload_n hx hb d_Box_scale_20 rfl (lv_at hl 1 rfl) ?_
  refine va_get (D := D) (ci := 0) (v := .int (x 2)) (C := R_Box) (T := F_Box) (N := 4) hx hb (uw_Box hB hW0) (fun _ h9 => h9) hown hK hP 1 rfl rfl 2 (by decide) (fl_Box_Box_x1 hB hW0) (fun _ h9 => h9) rfl d_Box_scale_21 ?_
  refine lv_iload_n hx hb d_Box_scale_24 rfl (lv_at hl 2 rfl) ?_
  refine lv_iload_n hx hb d_Box_scale_25 rfl (lv_at hl 3 rfl) ?_
  refine pq_ci (is := []) (wc := []) (w1 := []) (ws' := [(b, .inr (0, [.int (f 0), .int (f 1), .int (f 2), .int (f 3)])), (w, .inr (0, [.int (x 0), .int (x 1), .int (x 2), .int (x 3)]))]) (pq_runS (As := [.int (x 2), .int nn, .int ox]) (rest := [.int (fScal (x 1) nn oy), .int (fScal (x 0) nn ox), .ref b]) hx hb hml hown (v_Box_Box_scaled hB hW0) (c_Box_scaled hB (x 2) nn ox _) rfl rfl (by decide) (by decide) (pq_pre hW0 (hSA.now hS) hP hD [] (by decide) rfl) hl rfl (Nat.le_of_ble_eq_true rfl) d_Box_scale_26 ⟨Nat.le_of_ble_eq_true rfl, Nat.le_of_ble_eq_true rfl⟩) hP hD hS hA rfl rfl rfl (ad := [b, w]) rfl rfl (fun H locs hP hD hS => ?_)
  refine lv_aload_n hx hb d_Box_scale_29 rfl (lv_at hl 1 rfl) ?_
  refine va_get (D := D) (ci := 0) (v := .int (x 3)) (C := R_Box) (T := F_Box) (N := 4) hx hb (uw_Box hB hW0) (fun _ h9 => h9) hown hK hP 1 rfl rfl 3 (by decide) (fl_Box_Box_y1 hB hW0) (fun _ h9 => h9) rfl d_Box_scale_30 ?_
  refine lv_iload_n hx hb d_Box_scale_33 rfl (lv_at hl 2 rfl) ?_
  refine lv_iload hx hb d_Box_scale_34 (lv_at hl 4 rfl) ?_
  refine pq_ci (is := []) (wc := []) (w1 := []) (ws' := [(b, .inr (0, [.int (f 0), .int (f 1), .int (f 2), .int (f 3)])), (w, .inr (0, [.int (x 0), .int (x 1), .int (x 2), .int (x 3)]))]) (pq_runS (As := [.int (x 3), .int nn, .int oy]) (rest := [.int (fScal (x 2) nn ox), .int (fScal (x 1) nn oy), .int (fScal (x 0) nn ox), .ref b]) hx hb hml hown (v_Box_Box_scaled hB hW0) (c_Box_scaled hB (x 3) nn oy _) rfl rfl (by decide) (by decide) (pq_pre hW0 (hSA.now hS) hP hD [] (by decide) rfl) hl rfl (Nat.le_of_ble_eq_true rfl) d_Box_scale_36 ⟨Nat.le_of_ble_eq_true rfl, Nat.le_of_ble_eq_true rfl⟩) hP hD hS hA rfl rfl rfl (ad := [b, w]) rfl rfl (fun H locs hP hD hS => ?_)
  refine pq_cv (is := [0]) (wc := [(b, .inr (0, [.int (f 0), .int (f 1), .int (f 2), .int (f 3)]))]) (w1 := [(b, .inr (0, [.int ((fQuad (fScal (x 0) nn ox) (fScal (x 1) nn oy) (fScal (x 2) nn ox) (fScal (x 3) nn oy)) 0), .int ((fQuad (fScal (x 0) nn ox) (fScal (x 1) nn oy) (fScal (x 2) nn ox) (fScal (x 3) nn oy)) 1), .int ((fQuad (fScal (x 0) nn ox) (fScal (x 1) nn oy) (fScal (x 2) nn ox) (fScal (x 3) nn oy)) 2), .int ((fQuad (fScal (x 0) nn ox) (fScal (x 1) nn oy) (fScal (x 2) nn ox) (fScal (x 3) nn oy)) 3)]))]) (ws' := [(b, .inr (0, [.int ((fQuad (fScal (x 0) nn ox) (fScal (x 1) nn oy) (fScal (x 2) nn ox) (fScal (x 3) nn oy)) 0), .int ((fQuad (fScal (x 0) nn ox) (fScal (x 1) nn oy) (fScal (x 2) nn ox) (fScal (x 3) nn oy)) 1), .int ((fQuad (fScal (x 0) nn ox) (fScal (x 1) nn oy) (fScal (x 2) nn ox) (fScal (x 3) nn oy)) 2), .int ((fQuad (fScal (x 0) nn ox) (fScal (x 1) nn oy) (fScal (x 2) nn ox) (fScal (x 3) nn oy)) 3)])), (w, .inr (0, [.int (x 0), .int (x 1), .int (x 2), .int (x 3)]))]) (pq_runV (As := [.int (fScal (x 0) nn ox), .int (fScal (x 1) nn oy), .int (fScal (x 2) nn ox), .int (fScal (x 3) nn oy)]) (rest := []) hx hb hml hown (v_Box_Box_set hB hW0) (c_Box_set hB b f (fScal (x 0) nn ox) (fScal (x 1) nn oy) (fScal (x 2) nn ox) (fScal (x 3) nn oy) _) rfl rfl (by decide) (by decide) (pq_pre hW0 (hSA.now hS) hP hD [0] (by decide) rfl) (va_recv hK hP (ci := 0) (q0 := 0) rfl rfl) hl rfl (Nat.le_of_ble_eq_true rfl) d_Box_scale_39 ⟨Nat.le_of_ble_eq_true rfl, Nat.le_of_ble_eq_true rfl⟩) hP hD hS hA rfl rfl rfl (ad := [b, w]) rfl rfl (fun H locs hP hD hS => ?_)
  have hP : va_P D classes [(b, .inr (0, [.int ((bScal x nn ox oy) 0), .int ((bScal x nn ox oy) 1), .int ((bScal x nn ox oy) 2), .int ((bScal x nn ox oy) 3)])), (w, .inr (0, [.int (x 0), .int (x 1), .int (x 2), .int (x 3)]))] H := hP
  exact pq_retv hx hb hr hlocks hP hS d_Box_scale_42
set_option maxHeartbeats 4000000 in
set_option maxRecDepth 100000 in
theorem c_Box_cut {l : Launch} {s0 : State} {a0 : Array Value} {D : va_G} {cI cL cC : ClassId} (hB : pq_B l s0 a0 D cI cL cC) (b : Nat) (w : Nat) (f : Nat → Int32) (x : Nat → Int32) (le : Int32) (to : Int32) (wd : Int32) (ht : Int32) (sz : Nat) : Met l y_Box_cut [.code y_Box_cut b_Box_cut 6 none] (pq_rm 2 0 0) (va_Pc [.ref b, .ref w, .int le, .int to, .int wd, .int ht] (pq_Pre classes s0 D [(b, .inr (0, [.int (f 0), .int (f 1), .int (f 2), .int (f 3)])), (w, .inr (0, [.int (x 0), .int (x 1), .int (x 2), .int (x 3)]))] sz)) (va_Qv (fun (_ : Unit) => True) (fun _ t9 => va_P D classes [(b, .inr (0, [.int ((bCut x le to wd ht) 0), .int ((bCut x le to wd ht) 1), .int ((bCut x le to wd ht) 2), .int ((bCut x le to wd ht) 3)])), (w, .inr (0, [.int (x 0), .int (x 1), .int (x 2), .int (x 3)]))] t9.heap) (va_A [(b, .inr (0, [.int (f 0), .int (f 1), .int (f 2), .int (f 3)])), (w, .inr (0, [.int (x 0), .int (x 1), .int (x 2), .int (x 3)]))] sz)) 0 0 (va_A [(b, .inr (0, [.int (f 0), .int (f 1), .int (f 2), .int (f 3)])), (w, .inr (0, [.int (x 0), .int (x 1), .int (x 2), .int (x 3)]))] sz) := by
  refine pq_ofW (Qf := fun A => va_Qv (fun (_ : Unit) => True) (fun _ t9 => va_P D classes [(b, .inr (0, [.int ((bCut x le to wd ht) 0), .int ((bCut x le to wd ht) 1), .int ((bCut x le to wd ht) 2), .int ((bCut x le to wd ht) 3)])), (w, .inr (0, [.int (x 0), .int (x 1), .int (x 2), .int (x 3)]))] t9.heap) A) (by decide) (Nat.le_of_ble_eq_true rfl) ?_
  intro p e s m below meth c A ls hx hb hr hlocks hml hname hown hW0 hSA hsz hA hP hD hS hl
  have hown : s.vm.findClass R_Box = some m.cls := hown
  have hK := hB.2.2.moved hW0.alike
  have hl : lv_has ls 6 [(0, .ref b), (1, .ref w), (2, .int le), (3, .int to), (4, .int wd), (5, .int ht)] := hl
  refine lv_aload_n hx hb d_Box_cut_0 rfl (lv_at hl 0 rfl) ?_
  refine lv_aload_n hx hb d_Box_cut_1 rfl (lv_at hl 1 rfl) ?_
  refine va_get (D := D) (ci := 0) (v := .int (x 0)) (C := R_Box) (T := F_Box) (N := 4) hx hb (uw_Box hB hW0) (fun _ h9 => h9) hown hK hP 1 rfl rfl 0 (by decide) (fl_Box_Box_x0 hB hW0) (fun _ h9 => h9) rfl d_Box_cut_2 ?_
  refine lv_iload_n hx hb d_Box_cut_5 rfl (lv_at hl 2 rfl) ?_
  refine pq_mmax hx hb hml hl hown (mm_Box_max hB hW0) (Nat.le_of_ble_eq_true rfl) (Nat.le_of_ble_eq_true rfl) (Nat.le_of_ble_eq_true rfl) (Nat.le_of_ble_eq_true rfl) d_Box_cut_6 ?_
  refine lv_aload_n hx hb d_Box_cut_9 rfl (lv_at hl 1 rfl) ?_
  refine va_get (D := D) (ci := 0) (v := .int (x 1)) (C := R_Box) (T := F_Box) (N := 4) hx hb (uw_Box hB hW0) (fun _ h9 => h9) hown hK hP 1 rfl rfl 1 (by decide) (fl_Box_Box_y0 hB hW0) (fun _ h9 => h9) rfl d_Box_cut_10 ?_
  refine lv_iload_n hx hb d_Box_cut_13 rfl (lv_at hl 3 rfl) ?_
  refine pq_mmax hx hb hml hl hown (mm_Box_max hB hW0) (Nat.le_of_ble_eq_true rfl) (Nat.le_of_ble_eq_true rfl) (Nat.le_of_ble_eq_true rfl) (Nat.le_of_ble_eq_true rfl) d_Box_cut_14 ?_
  refine lv_aload_n hx hb d_Box_cut_17 rfl (lv_at hl 1 rfl) ?_
  refine va_get (D := D) (ci := 0) (v := .int (x 2)) (C := R_Box) (T := F_Box) (N := 4) hx hb (uw_Box hB hW0) (fun _ h9 => h9) hown hK hP 1 rfl rfl 2 (by decide) (fl_Box_Box_x1 hB hW0) (fun _ h9 => h9) rfl d_Box_cut_18 ?_
  refine lv_iload_n hx hb d_Box_cut_21 rfl (lv_at hl 2 rfl) ?_
  refine lv_iload hx hb d_Box_cut_22 (lv_at hl 4 rfl) ?_
  refine lv_iadd hx hb d_Box_cut_24 ?_
  refine pq_mmin hx hb hml hl hown (mm_Box_min hB hW0) (Nat.le_of_ble_eq_true rfl) (Nat.le_of_ble_eq_true rfl) (Nat.le_of_ble_eq_true rfl) (Nat.le_of_ble_eq_true rfl) d_Box_cut_25 ?_
  refine lv_aload_n hx hb d_Box_cut_28 rfl (lv_at hl 1 rfl) ?_
  refine va_get (D := D) (ci := 0) (v := .int (x 3)) (C := R_Box) (T := F_Box) (N := 4) hx hb (uw_Box hB hW0) (fun _ h9 => h9) hown hK hP 1 rfl rfl 3 (by decide) (fl_Box_Box_y1 hB hW0) (fun _ h9 => h9) rfl d_Box_cut_29 ?_
  refine lv_iload_n hx hb d_Box_cut_32 rfl (lv_at hl 3 rfl) ?_
  refine lv_iload hx hb d_Box_cut_33 (lv_at hl 5 rfl) ?_
  refine lv_iadd hx hb d_Box_cut_35 ?_
  refine pq_mmin hx hb hml hl hown (mm_Box_min hB hW0) (Nat.le_of_ble_eq_true rfl) (Nat.le_of_ble_eq_true rfl) (Nat.le_of_ble_eq_true rfl) (Nat.le_of_ble_eq_true rfl) d_Box_cut_36 ?_
  refine pq_cv (is := [0]) (wc := [(b, .inr (0, [.int (f 0), .int (f 1), .int (f 2), .int (f 3)]))]) (w1 := [(b, .inr (0, [.int ((fQuad (pq_max (x 0) le) (pq_max (x 1) to) (pq_min (x 2) (le + wd)) (pq_min (x 3) (to + ht))) 0), .int ((fQuad (pq_max (x 0) le) (pq_max (x 1) to) (pq_min (x 2) (le + wd)) (pq_min (x 3) (to + ht))) 1), .int ((fQuad (pq_max (x 0) le) (pq_max (x 1) to) (pq_min (x 2) (le + wd)) (pq_min (x 3) (to + ht))) 2), .int ((fQuad (pq_max (x 0) le) (pq_max (x 1) to) (pq_min (x 2) (le + wd)) (pq_min (x 3) (to + ht))) 3)]))]) (ws' := [(b, .inr (0, [.int ((fQuad (pq_max (x 0) le) (pq_max (x 1) to) (pq_min (x 2) (le + wd)) (pq_min (x 3) (to + ht))) 0), .int ((fQuad (pq_max (x 0) le) (pq_max (x 1) to) (pq_min (x 2) (le + wd)) (pq_min (x 3) (to + ht))) 1), .int ((fQuad (pq_max (x 0) le) (pq_max (x 1) to) (pq_min (x 2) (le + wd)) (pq_min (x 3) (to + ht))) 2), .int ((fQuad (pq_max (x 0) le) (pq_max (x 1) to) (pq_min (x 2) (le + wd)) (pq_min (x 3) (to + ht))) 3)])), (w, .inr (0, [.int (x 0), .int (x 1), .int (x 2), .int (x 3)]))]) (pq_runV (As := [.int (pq_max (x 0) le), .int (pq_max (x 1) to), .int (pq_min (x 2) (le + wd)), .int (pq_min (x 3) (to + ht))]) (rest := []) hx hb hml hown (v_Box_Box_set hB hW0) (c_Box_set hB b f (pq_max (x 0) le) (pq_max (x 1) to) (pq_min (x 2) (le + wd)) (pq_min (x 3) (to + ht)) _) rfl rfl (by decide) (by decide) (pq_pre hW0 (hSA.now hS) hP hD [0] (by decide) rfl) (va_recv hK hP (ci := 0) (q0 := 0) rfl rfl) hl rfl (Nat.le_of_ble_eq_true rfl) d_Box_cut_39 ⟨Nat.le_of_ble_eq_true rfl, Nat.le_of_ble_eq_true rfl⟩) hP hD hS hA rfl rfl rfl (ad := [b, w]) rfl rfl (fun H locs hP hD hS => ?_)
  have hP : va_P D classes [(b, .inr (0, [.int ((bCut x le to wd ht) 0), .int ((bCut x le to wd ht) 1), .int ((bCut x le to wd ht) 2), .int ((bCut x le to wd ht) 3)])), (w, .inr (0, [.int (x 0), .int (x 1), .int (x 2), .int (x 3)]))] H := hP
  exact pq_retv hx hb hr hlocks hP hS d_Box_cut_42
set_option maxHeartbeats 4000000 in
set_option maxRecDepth 100000 in
theorem c_Grid_init {l : Launch} {s0 : State} {a0 : Array Value} {D : va_G} {cI cL cC : ClassId} (hB : pq_B l s0 a0 D cI cL cC) (g : Nat) (f : Nat → Int32) (sz : Nat) : Met l y_Grid_init [.code y_Grid_init b_Grid_init 1 none] (pq_rm 1 0 0) (va_Pc [.ref g] (pq_Pre classes s0 D [(g, .inr (1, [.int (f 0), .int (f 1), .int (f 2), .int (f 3), .int (f 4), .int (f 5)]))] sz)) (va_Qv (fun (_ : Unit) => True) (fun _ t9 => va_P D classes [(g, .inr (1, [.int ((fSix 0 0 1 1 0 0) 0), .int ((fSix 0 0 1 1 0 0) 1), .int ((fSix 0 0 1 1 0 0) 2), .int ((fSix 0 0 1 1 0 0) 3), .int ((fSix 0 0 1 1 0 0) 4), .int ((fSix 0 0 1 1 0 0) 5)]))] t9.heap) (va_A [(g, .inr (1, [.int (f 0), .int (f 1), .int (f 2), .int (f 3), .int (f 4), .int (f 5)]))] sz)) 0 0 (va_A [(g, .inr (1, [.int (f 0), .int (f 1), .int (f 2), .int (f 3), .int (f 4), .int (f 5)]))] sz) := by
  refine pq_ofW (Qf := fun A => va_Qv (fun (_ : Unit) => True) (fun _ t9 => va_P D classes [(g, .inr (1, [.int ((fSix 0 0 1 1 0 0) 0), .int ((fSix 0 0 1 1 0 0) 1), .int ((fSix 0 0 1 1 0 0) 2), .int ((fSix 0 0 1 1 0 0) 3), .int ((fSix 0 0 1 1 0 0) 4), .int ((fSix 0 0 1 1 0 0) 5)]))] t9.heap) A) (by decide) (Nat.le_of_ble_eq_true rfl) ?_
  intro p e s m below meth c A ls hx hb hr hlocks hml hname hown hW0 hSA hsz hA hP hD hS hl
  have hown : s.vm.findClass R_Grid = some m.cls := hown
  have hK := hB.2.2.moved hW0.alike
  have hl : lv_has ls 1 [(0, .ref g)] := hl
  refine lv_aload_n hx hb d_Grid_init_0 rfl (lv_at hl 0 rfl) ?_
  refine W.objInit hx hb hown (ml_Grid_objinit hB hW0) (wn_objinit hB hW0) (wc_objinit hB hW0) rfl (by rw [hml]; exact hl.1) rfl d_Grid_init_1 (Nat.le_of_ble_eq_true rfl) (Nat.le_of_ble_eq_true rfl) ?_
  refine W.eq (g2 := F0 m 4 ls []) rfl ?_
  refine lv_aload_n hx hb d_Grid_init_4 rfl (lv_at hl 0 rfl) ?_
  refine lv_iconst (v := 0) hx hb d_Grid_init_5 (by decide) ?_
  refine va_put (D := D) (ci := 1) (v := .int 0) (ty := t_Grid 0) (C := R_Grid) (T := F_Grid) (N := 6) hx hb (uw_Grid hB hW0) (fun _ h9 => h9) t_Grid t_Grid_ok n_Grid hown hK hP hD hS 0 rfl rfl 0 (by decide) (fl_Grid_Grid_left hB hW0) (fun _ h9 => h9) rfl (t_Grid_ok 0 (by decide)) rfl rfl (Nat.le_of_ble_eq_true rfl) d_Grid_init_6 (fun H locs hP hD hS => ?_)
  have hP : va_P D classes [(g, .inr (1, [.int 0, .int (f 1), .int (f 2), .int (f 3), .int (f 4), .int (f 5)]))] H := hP
  have hD : va_D A [(g, .inr (1, [.int 0, .int (f 1), .int (f 2), .int (f 3), .int (f 4), .int (f 5)]))] := hD
  refine lv_aload_n hx hb d_Grid_init_9 rfl (lv_at hl 0 rfl) ?_
  refine lv_iconst (v := 0) hx hb d_Grid_init_10 (by decide) ?_
  refine va_put (D := D) (ci := 1) (v := .int 0) (ty := t_Grid 1) (C := R_Grid) (T := F_Grid) (N := 6) hx hb (uw_Grid hB hW0) (fun _ h9 => h9) t_Grid t_Grid_ok n_Grid hown hK hP hD hS 0 rfl rfl 1 (by decide) (fl_Grid_Grid_top hB hW0) (fun _ h9 => h9) rfl (t_Grid_ok 1 (by decide)) rfl rfl (Nat.le_of_ble_eq_true rfl) d_Grid_init_11 (fun H locs hP hD hS => ?_)
  have hP : va_P D classes [(g, .inr (1, [.int 0, .int 0, .int (f 2), .int (f 3), .int (f 4), .int (f 5)]))] H := hP
  have hD : va_D A [(g, .inr (1, [.int 0, .int 0, .int (f 2), .int (f 3), .int (f 4), .int (f 5)]))] := hD
  refine lv_aload_n hx hb d_Grid_init_14 rfl (lv_at hl 0 rfl) ?_
  refine lv_iconst (v := 1) hx hb d_Grid_init_15 (by decide) ?_
  refine va_put (D := D) (ci := 1) (v := .int 1) (ty := t_Grid 2) (C := R_Grid) (T := F_Grid) (N := 6) hx hb (uw_Grid hB hW0) (fun _ h9 => h9) t_Grid t_Grid_ok n_Grid hown hK hP hD hS 0 rfl rfl 2 (by decide) (fl_Grid_Grid_width hB hW0) (fun _ h9 => h9) rfl (t_Grid_ok 2 (by decide)) rfl rfl (Nat.le_of_ble_eq_true rfl) d_Grid_init_16 (fun H locs hP hD hS => ?_)
  have hP : va_P D classes [(g, .inr (1, [.int 0, .int 0, .int 1, .int (f 3), .int (f 4), .int (f 5)]))] H := hP
  have hD : va_D A [(g, .inr (1, [.int 0, .int 0, .int 1, .int (f 3), .int (f 4), .int (f 5)]))] := hD
  refine lv_aload_n hx hb d_Grid_init_19 rfl (lv_at hl 0 rfl) ?_
  refine lv_iconst (v := 1) hx hb d_Grid_init_20 (by decide) ?_
  refine va_put (D := D) (ci := 1) (v := .int 1) (ty := t_Grid 3) (C := R_Grid) (T := F_Grid) (N := 6) hx hb (uw_Grid hB hW0) (fun _ h9 => h9) t_Grid t_Grid_ok n_Grid hown hK hP hD hS 0 rfl rfl 3 (by decide) (fl_Grid_Grid_height hB hW0) (fun _ h9 => h9) rfl (t_Grid_ok 3 (by decide)) rfl rfl (Nat.le_of_ble_eq_true rfl) d_Grid_init_21 (fun H locs hP hD hS => ?_)
  have hP : va_P D classes [(g, .inr (1, [.int 0, .int 0, .int 1, .int 1, .int (f 4), .int (f 5)]))] H := hP
  have hD : va_D A [(g, .inr (1, [.int 0, .int 0, .int 1, .int 1, .int (f 4), .int (f 5)]))] := hD
  refine lv_aload_n hx hb d_Grid_init_24 rfl (lv_at hl 0 rfl) ?_
  refine lv_iconst (v := 0) hx hb d_Grid_init_25 (by decide) ?_
  refine va_put (D := D) (ci := 1) (v := .int 0) (ty := t_Grid 4) (C := R_Grid) (T := F_Grid) (N := 6) hx hb (uw_Grid hB hW0) (fun _ h9 => h9) t_Grid t_Grid_ok n_Grid hown hK hP hD hS 0 rfl rfl 4 (by decide) (fl_Grid_Grid_columns hB hW0) (fun _ h9 => h9) rfl (t_Grid_ok 4 (by decide)) rfl rfl (Nat.le_of_ble_eq_true rfl) d_Grid_init_26 (fun H locs hP hD hS => ?_)
  have hP : va_P D classes [(g, .inr (1, [.int 0, .int 0, .int 1, .int 1, .int 0, .int (f 5)]))] H := hP
  have hD : va_D A [(g, .inr (1, [.int 0, .int 0, .int 1, .int 1, .int 0, .int (f 5)]))] := hD
  refine lv_aload_n hx hb d_Grid_init_29 rfl (lv_at hl 0 rfl) ?_
  refine lv_iconst (v := 0) hx hb d_Grid_init_30 (by decide) ?_
  refine va_put (D := D) (ci := 1) (v := .int 0) (ty := t_Grid 5) (C := R_Grid) (T := F_Grid) (N := 6) hx hb (uw_Grid hB hW0) (fun _ h9 => h9) t_Grid t_Grid_ok n_Grid hown hK hP hD hS 0 rfl rfl 5 (by decide) (fl_Grid_Grid_rows hB hW0) (fun _ h9 => h9) rfl (t_Grid_ok 5 (by decide)) rfl rfl (Nat.le_of_ble_eq_true rfl) d_Grid_init_31 (fun H locs hP hD hS => ?_)
  have hP : va_P D classes [(g, .inr (1, [.int 0, .int 0, .int 1, .int 1, .int 0, .int 0]))] H := hP
  have hD : va_D A [(g, .inr (1, [.int 0, .int 0, .int 1, .int 1, .int 0, .int 0]))] := hD
  have hP : va_P D classes [(g, .inr (1, [.int ((fSix 0 0 1 1 0 0) 0), .int ((fSix 0 0 1 1 0 0) 1), .int ((fSix 0 0 1 1 0 0) 2), .int ((fSix 0 0 1 1 0 0) 3), .int ((fSix 0 0 1 1 0 0) 4), .int ((fSix 0 0 1 1 0 0) 5)]))] H := hP
  exact pq_retv hx hb hr hlocks hP hS d_Grid_init_34
set_option maxHeartbeats 4000000 in
set_option maxRecDepth 100000 in
theorem c_Grid_countAlong {l : Launch} {s0 : State} {a0 : Array Value} {D : va_G} {cI cL cC : ClassId} (hB : pq_B l s0 a0 D cI cL cC) (st : Int32) (se : Int32) (en : Int32) (sz : Nat) : Met l y_Grid_countAlong [.code y_Grid_countAlong b_Grid_countAlong 3 (some .int)] (pq_rm 1 0 0) (va_Pc [.int st, .int se, .int en] (pq_Pre classes s0 D [] sz)) (va_Qi (fun r (_ : Unit) => r = (fCount st se en)) (fun _ t9 => va_P D classes [] t9.heap) (va_A [] sz)) 0 0 (va_A [] sz) := by
  refine pq_ofW (Qf := fun A => va_Qi (fun r (_ : Unit) => r = (fCount st se en)) (fun _ t9 => va_P D classes [] t9.heap) A) (by decide) (Nat.le_of_ble_eq_true rfl) ?_
  intro p e s m below meth c A ls hx hb hr hlocks hml hname hown hW0 hSA hsz hA hP hD hS hl
  have hown : s.vm.findClass R_Grid = some m.cls := hown
  have hK := hB.2.2.moved hW0.alike
  have hl : lv_has ls 3 [(0, .int st), (1, .int se), (2, .int en)] := hl
  refine lv_iload_n hx hb d_Grid_countAlong_0 rfl (lv_at hl 1 rfl) ?_
  refine lv_iconst (v := 1) hx hb d_Grid_countAlong_1 (by decide) ?_
  refine lv_icmp_ge (tgt := 9) hx hb d_Grid_countAlong_2 (by decide) (fun c_1 => ?_) (fun c_1 => ?_)
  · refine lv_iload_n hx hb d_Grid_countAlong_9 rfl (lv_at hl 2 rfl) ?_
    refine lv_iload_n hx hb d_Grid_countAlong_10 rfl (lv_at hl 0 rfl) ?_
    refine lv_isub hx hb d_Grid_countAlong_11 ?_
    refine lv_iload_n hx hb d_Grid_countAlong_12 rfl (lv_at hl 1 rfl) ?_
    refine lv_iadd hx hb d_Grid_countAlong_13 ?_
    refine lv_iconst (v := 1) hx hb d_Grid_countAlong_14 (by decide) ?_
    refine lv_isub hx hb d_Grid_countAlong_15 ?_
    refine lv_iload_n hx hb d_Grid_countAlong_16 rfl (lv_at hl 1 rfl) ?_
    refine lv_idiv hx hb d_Grid_countAlong_17 (pq_ne1 c_1) ?_
    exact pq_reti hx hb hr hlocks (by unfold fCount; (repeat' split) <;> first | rfl | contradiction) hP hS d_Grid_countAlong_18
  · refine lv_iconst (v := 0) hx hb d_Grid_countAlong_5 (by decide) ?_
    refine lv_goto (tgt := 18) hx hb d_Grid_countAlong_6 (by decide) ?_
    exact pq_reti hx hb hr hlocks (by unfold fCount; (repeat' split) <;> first | rfl | contradiction) hP hS d_Grid_countAlong_18
set_option maxHeartbeats 4000000 in
set_option maxRecDepth 100000 in
theorem c_Grid_leftOf {l : Launch} {s0 : State} {a0 : Array Value} {D : va_G} {cI cL cC : ClassId} (hB : pq_B l s0 a0 D cI cL cC) (g : Nat) (g6 : Nat → Int32) (j : Int32) (sz : Nat) : Met l y_Grid_leftOf [.code y_Grid_leftOf b_Grid_leftOf 2 (some .int)] (pq_rm 1 0 0) (va_Pc [.ref g, .int j] (pq_Pre classes s0 D [(g, .inr (1, [.int (g6 0), .int (g6 1), .int (g6 2), .int (g6 3), .int (g6 4), .int (g6 5)]))] sz)) (va_Qi (fun r (_ : Unit) => r = (fLeft g6 j)) (fun _ t9 => va_P D classes [(g, .inr (1, [.int (g6 0), .int (g6 1), .int (g6 2), .int (g6 3), .int (g6 4), .int (g6 5)]))] t9.heap) (va_A [(g, .inr (1, [.int (g6 0), .int (g6 1), .int (g6 2), .int (g6 3), .int (g6 4), .int (g6 5)]))] sz)) 0 0 (va_A [(g, .inr (1, [.int (g6 0), .int (g6 1), .int (g6 2), .int (g6 3), .int (g6 4), .int (g6 5)]))] sz) := by
  refine pq_ofW (Qf := fun A => va_Qi (fun r (_ : Unit) => r = (fLeft g6 j)) (fun _ t9 => va_P D classes [(g, .inr (1, [.int (g6 0), .int (g6 1), .int (g6 2), .int (g6 3), .int (g6 4), .int (g6 5)]))] t9.heap) A) (by decide) (Nat.le_of_ble_eq_true rfl) ?_
  intro p e s m below meth c A ls hx hb hr hlocks hml hname hown hW0 hSA hsz hA hP hD hS hl
  have hown : s.vm.findClass R_Grid = some m.cls := hown
  have hK := hB.2.2.moved hW0.alike
  have hl : lv_has ls 2 [(0, .ref g), (1, .int j)] := hl
  refine lv_aload_n hx hb d_Grid_leftOf_0 rfl (lv_at hl 0 rfl) ?_
  refine va_get (D := D) (ci := 1) (v := .int (g6 4)) (C := R_Grid) (T := F_Grid) (N := 6) hx hb (uw_Grid hB hW0) (fun _ h9 => h9) hown hK hP 0 rfl rfl 4 (by decide) (fl_Grid_Grid_columns hB hW0) (fun _ h9 => h9) rfl d_Grid_leftOf_1 ?_
  refine lv_iconst (v := 1) hx hb d_Grid_leftOf_4 (by decide) ?_
  refine lv_icmp_ge (tgt := 15) hx hb d_Grid_leftOf_5 (by decide) (fun c_1 => ?_) (fun c_1 => ?_)
  · refine lv_aload_n hx hb d_Grid_leftOf_15 rfl (lv_at hl 0 rfl) ?_
    refine va_get (D := D) (ci := 1) (v := .int (g6 0)) (C := R_Grid) (T := F_Grid) (N := 6) hx hb (uw_Grid hB hW0) (fun _ h9 => h9) hown hK hP 0 rfl rfl 0 (by decide) (fl_Grid_Grid_left hB hW0) (fun _ h9 => h9) rfl d_Grid_leftOf_16 ?_
    refine lv_iload_n hx hb d_Grid_leftOf_19 rfl (lv_at hl 1 rfl) ?_
    refine lv_aload_n hx hb d_Grid_leftOf_20 rfl (lv_at hl 0 rfl) ?_
    refine va_get (D := D) (ci := 1) (v := .int (g6 4)) (C := R_Grid) (T := F_Grid) (N := 6) hx hb (uw_Grid hB hW0) (fun _ h9 => h9) hown hK hP 0 rfl rfl 4 (by decide) (fl_Grid_Grid_columns hB hW0) (fun _ h9 => h9) rfl d_Grid_leftOf_21 ?_
    refine lv_irem hx hb d_Grid_leftOf_24 (pq_ne1 c_1) ?_
    refine lv_aload_n hx hb d_Grid_leftOf_25 rfl (lv_at hl 0 rfl) ?_
    refine va_get (D := D) (ci := 1) (v := .int (g6 2)) (C := R_Grid) (T := F_Grid) (N := 6) hx hb (uw_Grid hB hW0) (fun _ h9 => h9) hown hK hP 0 rfl rfl 2 (by decide) (fl_Grid_Grid_width hB hW0) (fun _ h9 => h9) rfl d_Grid_leftOf_26 ?_
    refine lv_imul hx hb d_Grid_leftOf_29 ?_
    refine lv_iadd hx hb d_Grid_leftOf_30 ?_
    exact pq_reti hx hb hr hlocks (by unfold fLeft; (repeat' split) <;> first | rfl | contradiction) hP hS d_Grid_leftOf_31
  · refine lv_aload_n hx hb d_Grid_leftOf_8 rfl (lv_at hl 0 rfl) ?_
    refine va_get (D := D) (ci := 1) (v := .int (g6 0)) (C := R_Grid) (T := F_Grid) (N := 6) hx hb (uw_Grid hB hW0) (fun _ h9 => h9) hown hK hP 0 rfl rfl 0 (by decide) (fl_Grid_Grid_left hB hW0) (fun _ h9 => h9) rfl d_Grid_leftOf_9 ?_
    refine lv_goto (tgt := 31) hx hb d_Grid_leftOf_12 (by decide) ?_
    exact pq_reti hx hb hr hlocks (by unfold fLeft; (repeat' split) <;> first | rfl | contradiction) hP hS d_Grid_leftOf_31
set_option maxHeartbeats 4000000 in
set_option maxRecDepth 100000 in
theorem c_Grid_topOf {l : Launch} {s0 : State} {a0 : Array Value} {D : va_G} {cI cL cC : ClassId} (hB : pq_B l s0 a0 D cI cL cC) (g : Nat) (g6 : Nat → Int32) (j : Int32) (sz : Nat) : Met l y_Grid_topOf [.code y_Grid_topOf b_Grid_topOf 2 (some .int)] (pq_rm 1 0 0) (va_Pc [.ref g, .int j] (pq_Pre classes s0 D [(g, .inr (1, [.int (g6 0), .int (g6 1), .int (g6 2), .int (g6 3), .int (g6 4), .int (g6 5)]))] sz)) (va_Qi (fun r (_ : Unit) => r = (fTop g6 j)) (fun _ t9 => va_P D classes [(g, .inr (1, [.int (g6 0), .int (g6 1), .int (g6 2), .int (g6 3), .int (g6 4), .int (g6 5)]))] t9.heap) (va_A [(g, .inr (1, [.int (g6 0), .int (g6 1), .int (g6 2), .int (g6 3), .int (g6 4), .int (g6 5)]))] sz)) 0 0 (va_A [(g, .inr (1, [.int (g6 0), .int (g6 1), .int (g6 2), .int (g6 3), .int (g6 4), .int (g6 5)]))] sz) := by
  refine pq_ofW (Qf := fun A => va_Qi (fun r (_ : Unit) => r = (fTop g6 j)) (fun _ t9 => va_P D classes [(g, .inr (1, [.int (g6 0), .int (g6 1), .int (g6 2), .int (g6 3), .int (g6 4), .int (g6 5)]))] t9.heap) A) (by decide) (Nat.le_of_ble_eq_true rfl) ?_
  intro p e s m below meth c A ls hx hb hr hlocks hml hname hown hW0 hSA hsz hA hP hD hS hl
  have hown : s.vm.findClass R_Grid = some m.cls := hown
  have hK := hB.2.2.moved hW0.alike
  have hl : lv_has ls 2 [(0, .ref g), (1, .int j)] := hl
  refine lv_aload_n hx hb d_Grid_topOf_0 rfl (lv_at hl 0 rfl) ?_
  refine va_get (D := D) (ci := 1) (v := .int (g6 4)) (C := R_Grid) (T := F_Grid) (N := 6) hx hb (uw_Grid hB hW0) (fun _ h9 => h9) hown hK hP 0 rfl rfl 4 (by decide) (fl_Grid_Grid_columns hB hW0) (fun _ h9 => h9) rfl d_Grid_topOf_1 ?_
  refine lv_iconst (v := 1) hx hb d_Grid_topOf_4 (by decide) ?_
  refine lv_icmp_ge (tgt := 15) hx hb d_Grid_topOf_5 (by decide) (fun c_1 => ?_) (fun c_1 => ?_)
  · refine lv_aload_n hx hb d_Grid_topOf_15 rfl (lv_at hl 0 rfl) ?_
    refine va_get (D := D) (ci := 1) (v := .int (g6 1)) (C := R_Grid) (T := F_Grid) (N := 6) hx hb (uw_Grid hB hW0) (fun _ h9 => h9) hown hK hP 0 rfl rfl 1 (by decide) (fl_Grid_Grid_top hB hW0) (fun _ h9 => h9) rfl d_Grid_topOf_16 ?_
    refine lv_iload_n hx hb d_Grid_topOf_19 rfl (lv_at hl 1 rfl) ?_
    refine lv_aload_n hx hb d_Grid_topOf_20 rfl (lv_at hl 0 rfl) ?_
    refine va_get (D := D) (ci := 1) (v := .int (g6 4)) (C := R_Grid) (T := F_Grid) (N := 6) hx hb (uw_Grid hB hW0) (fun _ h9 => h9) hown hK hP 0 rfl rfl 4 (by decide) (fl_Grid_Grid_columns hB hW0) (fun _ h9 => h9) rfl d_Grid_topOf_21 ?_
    refine lv_idiv hx hb d_Grid_topOf_24 (pq_ne1 c_1) ?_
    refine lv_aload_n hx hb d_Grid_topOf_25 rfl (lv_at hl 0 rfl) ?_
    refine va_get (D := D) (ci := 1) (v := .int (g6 3)) (C := R_Grid) (T := F_Grid) (N := 6) hx hb (uw_Grid hB hW0) (fun _ h9 => h9) hown hK hP 0 rfl rfl 3 (by decide) (fl_Grid_Grid_height hB hW0) (fun _ h9 => h9) rfl d_Grid_topOf_26 ?_
    refine lv_imul hx hb d_Grid_topOf_29 ?_
    refine lv_iadd hx hb d_Grid_topOf_30 ?_
    exact pq_reti hx hb hr hlocks (by unfold fTop; (repeat' split) <;> first | rfl | contradiction) hP hS d_Grid_topOf_31
  · refine lv_aload_n hx hb d_Grid_topOf_8 rfl (lv_at hl 0 rfl) ?_
    refine va_get (D := D) (ci := 1) (v := .int (g6 1)) (C := R_Grid) (T := F_Grid) (N := 6) hx hb (uw_Grid hB hW0) (fun _ h9 => h9) hown hK hP 0 rfl rfl 1 (by decide) (fl_Grid_Grid_top hB hW0) (fun _ h9 => h9) rfl d_Grid_topOf_9 ?_
    refine lv_goto (tgt := 31) hx hb d_Grid_topOf_12 (by decide) ?_
    exact pq_reti hx hb hr hlocks (by unfold fTop; (repeat' split) <;> first | rfl | contradiction) hP hS d_Grid_topOf_31
set_option maxHeartbeats 4000000 in
set_option maxRecDepth 100000 in
theorem c_Grid_numberAt {l : Launch} {s0 : State} {a0 : Array Value} {D : va_G} {cI cL cC : ClassId} (hB : pq_B l s0 a0 D cI cL cC) (g : Nat) (g6 : Nat → Int32) (x : Int32) (y : Int32) (sz : Nat) : Met l y_Grid_numberAt [.code y_Grid_numberAt b_Grid_numberAt 3 (some .int)] (pq_rm 1 0 0) (va_Pc [.ref g, .int x, .int y] (pq_Pre classes s0 D [(g, .inr (1, [.int (g6 0), .int (g6 1), .int (g6 2), .int (g6 3), .int (g6 4), .int (g6 5)]))] sz)) (va_Qi (fun r (_ : Unit) => r = (fNum g6 x y)) (fun _ t9 => va_P D classes [(g, .inr (1, [.int (g6 0), .int (g6 1), .int (g6 2), .int (g6 3), .int (g6 4), .int (g6 5)]))] t9.heap) (va_A [(g, .inr (1, [.int (g6 0), .int (g6 1), .int (g6 2), .int (g6 3), .int (g6 4), .int (g6 5)]))] sz)) 0 0 (va_A [(g, .inr (1, [.int (g6 0), .int (g6 1), .int (g6 2), .int (g6 3), .int (g6 4), .int (g6 5)]))] sz) := by
  refine pq_ofW (Qf := fun A => va_Qi (fun r (_ : Unit) => r = (fNum g6 x y)) (fun _ t9 => va_P D classes [(g, .inr (1, [.int (g6 0), .int (g6 1), .int (g6 2), .int (g6 3), .int (g6 4), .int (g6 5)]))] t9.heap) A) (by decide) (Nat.le_of_ble_eq_true rfl) ?_
  intro p e s m below meth c A ls hx hb hr hlocks hml hname hown hW0 hSA hsz hA hP hD hS hl
  have hown : s.vm.findClass R_Grid = some m.cls := hown
  have hK := hB.2.2.moved hW0.alike
  have hl : lv_has ls 3 [(0, .ref g), (1, .int x), (2, .int y)] := hl
  refine lv_aload_n hx hb d_Grid_numberAt_0 rfl (lv_at hl 0 rfl) ?_
  refine va_get (D := D) (ci := 1) (v := .int (g6 2)) (C := R_Grid) (T := F_Grid) (N := 6) hx hb (uw_Grid hB hW0) (fun _ h9 => h9) hown hK hP 0 rfl rfl 2 (by decide) (fl_Grid_Grid_width hB hW0) (fun _ h9 => h9) rfl d_Grid_numberAt_1 ?_
  refine lv_iconst (v := 1) hx hb d_Grid_numberAt_4 (by decide) ?_
  refine lv_icmp_lt (tgt := 16) hx hb d_Grid_numberAt_5 (by decide) (fun c_1 => ?_) (fun c_1 => ?_)
  · refine lv_iconst (v := 0) hx hb d_Grid_numberAt_16 (by decide) ?_
    exact pq_reti hx hb hr hlocks (by unfold fNum; (repeat' split) <;> first | rfl | contradiction) hP hS d_Grid_numberAt_17
  · refine lv_aload_n hx hb d_Grid_numberAt_8 rfl (lv_at hl 0 rfl) ?_
    refine va_get (D := D) (ci := 1) (v := .int (g6 3)) (C := R_Grid) (T := F_Grid) (N := 6) hx hb (uw_Grid hB hW0) (fun _ h9 => h9) hown hK hP 0 rfl rfl 3 (by decide) (fl_Grid_Grid_height hB hW0) (fun _ h9 => h9) rfl d_Grid_numberAt_9 ?_
    refine lv_iconst (v := 1) hx hb d_Grid_numberAt_12 (by decide) ?_
    refine lv_icmp_ge (tgt := 18) hx hb d_Grid_numberAt_13 (by decide) (fun c_2 => ?_) (fun c_2 => ?_)
    · refine lv_iload_n hx hb d_Grid_numberAt_18 rfl (lv_at hl 2 rfl) ?_
      refine lv_aload_n hx hb d_Grid_numberAt_19 rfl (lv_at hl 0 rfl) ?_
      refine va_get (D := D) (ci := 1) (v := .int (g6 1)) (C := R_Grid) (T := F_Grid) (N := 6) hx hb (uw_Grid hB hW0) (fun _ h9 => h9) hown hK hP 0 rfl rfl 1 (by decide) (fl_Grid_Grid_top hB hW0) (fun _ h9 => h9) rfl d_Grid_numberAt_20 ?_
      refine lv_isub hx hb d_Grid_numberAt_23 ?_
      refine lv_aload_n hx hb d_Grid_numberAt_24 rfl (lv_at hl 0 rfl) ?_
      refine va_get (D := D) (ci := 1) (v := .int (g6 3)) (C := R_Grid) (T := F_Grid) (N := 6) hx hb (uw_Grid hB hW0) (fun _ h9 => h9) hown hK hP 0 rfl rfl 3 (by decide) (fl_Grid_Grid_height hB hW0) (fun _ h9 => h9) rfl d_Grid_numberAt_25 ?_
      refine lv_idiv hx hb d_Grid_numberAt_28 (pq_ne1 c_2) ?_
      refine lv_aload_n hx hb d_Grid_numberAt_29 rfl (lv_at hl 0 rfl) ?_
      refine va_get (D := D) (ci := 1) (v := .int (g6 4)) (C := R_Grid) (T := F_Grid) (N := 6) hx hb (uw_Grid hB hW0) (fun _ h9 => h9) hown hK hP 0 rfl rfl 4 (by decide) (fl_Grid_Grid_columns hB hW0) (fun _ h9 => h9) rfl d_Grid_numberAt_30 ?_
      refine lv_imul hx hb d_Grid_numberAt_33 ?_
      refine lv_iload_n hx hb d_Grid_numberAt_34 rfl (lv_at hl 1 rfl) ?_
      refine lv_aload_n hx hb d_Grid_numberAt_35 rfl (lv_at hl 0 rfl) ?_
      refine va_get (D := D) (ci := 1) (v := .int (g6 0)) (C := R_Grid) (T := F_Grid) (N := 6) hx hb (uw_Grid hB hW0) (fun _ h9 => h9) hown hK hP 0 rfl rfl 0 (by decide) (fl_Grid_Grid_left hB hW0) (fun _ h9 => h9) rfl d_Grid_numberAt_36 ?_
      refine lv_isub hx hb d_Grid_numberAt_39 ?_
      refine lv_aload_n hx hb d_Grid_numberAt_40 rfl (lv_at hl 0 rfl) ?_
      refine va_get (D := D) (ci := 1) (v := .int (g6 2)) (C := R_Grid) (T := F_Grid) (N := 6) hx hb (uw_Grid hB hW0) (fun _ h9 => h9) hown hK hP 0 rfl rfl 2 (by decide) (fl_Grid_Grid_width hB hW0) (fun _ h9 => h9) rfl d_Grid_numberAt_41 ?_
      refine lv_idiv hx hb d_Grid_numberAt_44 (pq_nlt1 c_1) ?_
      refine lv_iadd hx hb d_Grid_numberAt_45 ?_
      exact pq_reti hx hb hr hlocks (by unfold fNum; (repeat' split) <;> first | rfl | contradiction) hP hS d_Grid_numberAt_46
    · refine lv_iconst (v := 0) hx hb d_Grid_numberAt_16 (by decide) ?_
      exact pq_reti hx hb hr hlocks (by unfold fNum; (repeat' split) <;> first | rfl | contradiction) hP hS d_Grid_numberAt_17
set_option maxHeartbeats 4000000 in
set_option maxRecDepth 100000 in
theorem c_Grid_count {l : Launch} {s0 : State} {a0 : Array Value} {D : va_G} {cI cL cC : ClassId} (hB : pq_B l s0 a0 D cI cL cC) (g : Nat) (g6 : Nat → Int32) (sz : Nat) : Met l y_Grid_count [.code y_Grid_count b_Grid_count 1 (some .int)] (pq_rm 1 0 0) (va_Pc [.ref g] (pq_Pre classes s0 D [(g, .inr (1, [.int (g6 0), .int (g6 1), .int (g6 2), .int (g6 3), .int (g6 4), .int (g6 5)]))] sz)) (va_Qi (fun r (_ : Unit) => r = ((g6 4) * (g6 5))) (fun _ t9 => va_P D classes [(g, .inr (1, [.int (g6 0), .int (g6 1), .int (g6 2), .int (g6 3), .int (g6 4), .int (g6 5)]))] t9.heap) (va_A [(g, .inr (1, [.int (g6 0), .int (g6 1), .int (g6 2), .int (g6 3), .int (g6 4), .int (g6 5)]))] sz)) 0 0 (va_A [(g, .inr (1, [.int (g6 0), .int (g6 1), .int (g6 2), .int (g6 3), .int (g6 4), .int (g6 5)]))] sz) := by
  refine pq_ofW (Qf := fun A => va_Qi (fun r (_ : Unit) => r = ((g6 4) * (g6 5))) (fun _ t9 => va_P D classes [(g, .inr (1, [.int (g6 0), .int (g6 1), .int (g6 2), .int (g6 3), .int (g6 4), .int (g6 5)]))] t9.heap) A) (by decide) (Nat.le_of_ble_eq_true rfl) ?_
  intro p e s m below meth c A ls hx hb hr hlocks hml hname hown hW0 hSA hsz hA hP hD hS hl
  have hown : s.vm.findClass R_Grid = some m.cls := hown
  have hK := hB.2.2.moved hW0.alike
  have hl : lv_has ls 1 [(0, .ref g)] := hl
  refine lv_aload_n hx hb d_Grid_count_0 rfl (lv_at hl 0 rfl) ?_
  refine va_get (D := D) (ci := 1) (v := .int (g6 4)) (C := R_Grid) (T := F_Grid) (N := 6) hx hb (uw_Grid hB hW0) (fun _ h9 => h9) hown hK hP 0 rfl rfl 4 (by decide) (fl_Grid_Grid_columns hB hW0) (fun _ h9 => h9) rfl d_Grid_count_1 ?_
  refine lv_aload_n hx hb d_Grid_count_4 rfl (lv_at hl 0 rfl) ?_
  refine va_get (D := D) (ci := 1) (v := .int (g6 5)) (C := R_Grid) (T := F_Grid) (N := 6) hx hb (uw_Grid hB hW0) (fun _ h9 => h9) hown hK hP 0 rfl rfl 5 (by decide) (fl_Grid_Grid_rows hB hW0) (fun _ h9 => h9) rfl d_Grid_count_5 ?_
  refine lv_imul hx hb d_Grid_count_8 ?_
  exact pq_reti hx hb hr hlocks rfl hP hS d_Grid_count_9
set_option maxHeartbeats 4000000 in
set_option maxRecDepth 100000 in
theorem c_Grid_has {l : Launch} {s0 : State} {a0 : Array Value} {D : va_G} {cI cL cC : ClassId} (hB : pq_B l s0 a0 D cI cL cC) (g : Nat) (g6 : Nat → Int32) (j : Int32) (sz : Nat) : Met l y_Grid_has [.code y_Grid_has b_Grid_has 2 (some .boolean)] (pq_rm 2 0 0) (va_Pc [.ref g, .int j] (pq_Pre classes s0 D [(g, .inr (1, [.int (g6 0), .int (g6 1), .int (g6 2), .int (g6 3), .int (g6 4), .int (g6 5)]))] sz)) (va_Qi (fun r (_ : Unit) => r = (fGHas g6 j)) (fun _ t9 => va_P D classes [(g, .inr (1, [.int (g6 0), .int (g6 1), .int (g6 2), .int (g6 3), .int (g6 4), .int (g6 5)]))] t9.heap) (va_A [(g, .inr (1, [.int (g6 0), .int (g6 1), .int (g6 2), .int (g6 3), .int (g6 4), .int (g6 5)]))] sz)) 0 0 (va_A [(g, .inr (1, [.int (g6 0), .int (g6 1), .int (g6 2), .int (g6 3), .int (g6 4), .int (g6 5)]))] sz) := by
  refine pq_ofW (Qf := fun A => va_Qi (fun r (_ : Unit) => r = (fGHas g6 j)) (fun _ t9 => va_P D classes [(g, .inr (1, [.int (g6 0), .int (g6 1), .int (g6 2), .int (g6 3), .int (g6 4), .int (g6 5)]))] t9.heap) A) (by decide) (Nat.le_of_ble_eq_true rfl) ?_
  intro p e s m below meth c A ls hx hb hr hlocks hml hname hown hW0 hSA hsz hA hP hD hS hl
  have hown : s.vm.findClass R_Grid = some m.cls := hown
  have hK := hB.2.2.moved hW0.alike
  have hl : lv_has ls 2 [(0, .ref g), (1, .int j)] := hl
  refine lv_iload_n hx hb d_Grid_has_0 rfl (lv_at hl 1 rfl) ?_
  refine lv_if_lt (tgt := 16) hx hb d_Grid_has_1 (by decide) (fun c_1 => ?_) (fun c_1 => ?_)
  · refine lv_iconst (v := 0) hx hb d_Grid_has_16 (by decide) ?_
    exact pq_retz hx hb hr hlocks rfl (by unfold fGHas; (repeat' split) <;> first | rfl | contradiction) hP hS d_Grid_has_17
  · refine lv_iload_n hx hb d_Grid_has_4 rfl (lv_at hl 1 rfl) ?_
    refine lv_aload_n hx hb d_Grid_has_5 rfl (lv_at hl 0 rfl) ?_
    refine pq_ci (is := [0]) (wc := [(g, .inr (1, [.int (g6 0), .int (g6 1), .int (g6 2), .int (g6 3), .int (g6 4), .int (g6 5)]))]) (w1 := [(g, .inr (1, [.int (g6 0), .int (g6 1), .int (g6 2), .int (g6 3), .int (g6 4), .int (g6 5)]))]) (ws' := [(g, .inr (1, [.int (g6 0), .int (g6 1), .int (g6 2), .int (g6 3), .int (g6 4), .int (g6 5)]))]) (pq_runV (As := []) (rest := [.int j]) hx hb hml hown (v_Grid_Grid_count hB hW0) (c_Grid_count hB g g6 _) rfl rfl (by decide) (by decide) (pq_pre hW0 (hSA.now hS) hP hD [0] (by decide) rfl) (va_recv hK hP (ci := 1) (q0 := 0) rfl rfl) hl rfl (Nat.le_of_ble_eq_true rfl) d_Grid_has_6 ⟨Nat.le_of_ble_eq_true rfl, Nat.le_of_ble_eq_true rfl⟩) hP hD hS hA rfl rfl rfl (ad := [g]) rfl rfl (fun H locs hP hD hS => ?_)
    refine lv_icmp_ge (tgt := 16) hx hb d_Grid_has_9 (by decide) (fun c_2 => ?_) (fun c_2 => ?_)
    · refine lv_iconst (v := 0) hx hb d_Grid_has_16 (by decide) ?_
      exact pq_retz hx hb hr hlocks rfl (by unfold fGHas; (repeat' split) <;> first | rfl | contradiction) hP hS d_Grid_has_17
    · refine lv_iconst (v := 1) hx hb d_Grid_has_12 (by decide) ?_
      refine lv_goto (tgt := 17) hx hb d_Grid_has_13 (by decide) ?_
      exact pq_retz hx hb hr hlocks rfl (by unfold fGHas; (repeat' split) <;> first | rfl | contradiction) hP hS d_Grid_has_17
set_option maxHeartbeats 4000000 in
set_option maxRecDepth 100000 in
theorem c_Grid_lay {l : Launch} {s0 : State} {a0 : Array Value} {D : va_G} {cI cL cC : ClassId} (hB : pq_B l s0 a0 D cI cL cC) (g : Nat) (b : Nat) (f : Nat → Int32) (x : Nat → Int32) (px : Int32) (py : Int32) (cw : Int32) (ch : Int32) (sz : Nat) : Met l y_Grid_lay [.code y_Grid_lay b_Grid_lay 6 none] (pq_rm 2 0 0) (va_Pc [.ref g, .int px, .int py, .int cw, .int ch, .ref b] (pq_Pre classes s0 D [(g, .inr (1, [.int (f 0), .int (f 1), .int (f 2), .int (f 3), .int (f 4), .int (f 5)])), (b, .inr (0, [.int (x 0), .int (x 1), .int (x 2), .int (x 3)]))] sz)) (va_Qv (fun (_ : Unit) => True) (fun _ t9 => va_P D classes [(g, .inr (1, [.int ((gLay px py cw ch x) 0), .int ((gLay px py cw ch x) 1), .int ((gLay px py cw ch x) 2), .int ((gLay px py cw ch x) 3), .int ((gLay px py cw ch x) 4), .int ((gLay px py cw ch x) 5)])), (b, .inr (0, [.int (x 0), .int (x 1), .int (x 2), .int (x 3)]))] t9.heap) (va_A [(g, .inr (1, [.int (f 0), .int (f 1), .int (f 2), .int (f 3), .int (f 4), .int (f 5)])), (b, .inr (0, [.int (x 0), .int (x 1), .int (x 2), .int (x 3)]))] sz)) 0 0 (va_A [(g, .inr (1, [.int (f 0), .int (f 1), .int (f 2), .int (f 3), .int (f 4), .int (f 5)])), (b, .inr (0, [.int (x 0), .int (x 1), .int (x 2), .int (x 3)]))] sz) := by
  refine pq_ofW (Qf := fun A => va_Qv (fun (_ : Unit) => True) (fun _ t9 => va_P D classes [(g, .inr (1, [.int ((gLay px py cw ch x) 0), .int ((gLay px py cw ch x) 1), .int ((gLay px py cw ch x) 2), .int ((gLay px py cw ch x) 3), .int ((gLay px py cw ch x) 4), .int ((gLay px py cw ch x) 5)])), (b, .inr (0, [.int (x 0), .int (x 1), .int (x 2), .int (x 3)]))] t9.heap) A) (by decide) (Nat.le_of_ble_eq_true rfl) ?_
  intro p e s m below meth c A ls hx hb hr hlocks hml hname hown hW0 hSA hsz hA hP hD hS hl
  have hown : s.vm.findClass R_Grid = some m.cls := hown
  have hK := hB.2.2.moved hW0.alike
  have hl : lv_has ls 6 [(0, .ref g), (1, .int px), (2, .int py), (3, .int cw), (4, .int ch), (5, .ref b)] := hl
  refine lv_aload_n hx hb d_Grid_lay_0 rfl (lv_at hl 0 rfl) ?_
  refine lv_iload_n hx hb d_Grid_lay_1 rfl (lv_at hl 1 rfl) ?_
  refine va_put (D := D) (ci := 1) (v := .int px) (ty := t_Grid 0) (C := R_Grid) (T := F_Grid) (N := 6) hx hb (uw_Grid hB hW0) (fun _ h9 => h9) t_Grid t_Grid_ok n_Grid hown hK hP hD hS 0 rfl rfl 0 (by decide) (fl_Grid_Grid_left hB hW0) (fun _ h9 => h9) rfl (t_Grid_ok 0 (by decide)) rfl rfl (Nat.le_of_ble_eq_true rfl) d_Grid_lay_2 (fun H locs hP hD hS => ?_)
  have hP : va_P D classes [(g, .inr (1, [.int px, .int (f 1), .int (f 2), .int (f 3), .int (f 4), .int (f 5)])), (b, .inr (0, [.int (x 0), .int (x 1), .int (x 2), .int (x 3)]))] H := hP
  have hD : va_D A [(g, .inr (1, [.int px, .int (f 1), .int (f 2), .int (f 3), .int (f 4), .int (f 5)])), (b, .inr (0, [.int (x 0), .int (x 1), .int (x 2), .int (x 3)]))] := hD
  refine lv_aload_n hx hb d_Grid_lay_5 rfl (lv_at hl 0 rfl) ?_
  refine lv_iload_n hx hb d_Grid_lay_6 rfl (lv_at hl 2 rfl) ?_
  refine va_put (D := D) (ci := 1) (v := .int py) (ty := t_Grid 1) (C := R_Grid) (T := F_Grid) (N := 6) hx hb (uw_Grid hB hW0) (fun _ h9 => h9) t_Grid t_Grid_ok n_Grid hown hK hP hD hS 0 rfl rfl 1 (by decide) (fl_Grid_Grid_top hB hW0) (fun _ h9 => h9) rfl (t_Grid_ok 1 (by decide)) rfl rfl (Nat.le_of_ble_eq_true rfl) d_Grid_lay_7 (fun H locs hP hD hS => ?_)
  have hP : va_P D classes [(g, .inr (1, [.int px, .int py, .int (f 2), .int (f 3), .int (f 4), .int (f 5)])), (b, .inr (0, [.int (x 0), .int (x 1), .int (x 2), .int (x 3)]))] H := hP
  have hD : va_D A [(g, .inr (1, [.int px, .int py, .int (f 2), .int (f 3), .int (f 4), .int (f 5)])), (b, .inr (0, [.int (x 0), .int (x 1), .int (x 2), .int (x 3)]))] := hD
  refine lv_aload_n hx hb d_Grid_lay_10 rfl (lv_at hl 0 rfl) ?_
  refine lv_iload_n hx hb d_Grid_lay_11 rfl (lv_at hl 3 rfl) ?_
  refine va_put (D := D) (ci := 1) (v := .int cw) (ty := t_Grid 2) (C := R_Grid) (T := F_Grid) (N := 6) hx hb (uw_Grid hB hW0) (fun _ h9 => h9) t_Grid t_Grid_ok n_Grid hown hK hP hD hS 0 rfl rfl 2 (by decide) (fl_Grid_Grid_width hB hW0) (fun _ h9 => h9) rfl (t_Grid_ok 2 (by decide)) rfl rfl (Nat.le_of_ble_eq_true rfl) d_Grid_lay_12 (fun H locs hP hD hS => ?_)
  have hP : va_P D classes [(g, .inr (1, [.int px, .int py, .int cw, .int (f 3), .int (f 4), .int (f 5)])), (b, .inr (0, [.int (x 0), .int (x 1), .int (x 2), .int (x 3)]))] H := hP
  have hD : va_D A [(g, .inr (1, [.int px, .int py, .int cw, .int (f 3), .int (f 4), .int (f 5)])), (b, .inr (0, [.int (x 0), .int (x 1), .int (x 2), .int (x 3)]))] := hD
  refine lv_aload_n hx hb d_Grid_lay_15 rfl (lv_at hl 0 rfl) ?_
  refine lv_iload hx hb d_Grid_lay_16 (lv_at hl 4 rfl) ?_
  refine va_put (D := D) (ci := 1) (v := .int ch) (ty := t_Grid 3) (C := R_Grid) (T := F_Grid) (N := 6) hx hb (uw_Grid hB hW0) (fun _ h9 => h9) t_Grid t_Grid_ok n_Grid hown hK hP hD hS 0 rfl rfl 3 (by decide) (fl_Grid_Grid_height hB hW0) (fun _ h9 => h9) rfl (t_Grid_ok 3 (by decide)) rfl rfl (Nat.le_of_ble_eq_true rfl) d_Grid_lay_18 (fun H locs hP hD hS => ?_)
  have hP : va_P D classes [(g, .inr (1, [.int px, .int py, .int cw, .int ch, .int (f 4), .int (f 5)])), (b, .inr (0, [.int (x 0), .int (x 1), .int (x 2), .int (x 3)]))] H := hP
  have hD : va_D A [(g, .inr (1, [.int px, .int py, .int cw, .int ch, .int (f 4), .int (f 5)])), (b, .inr (0, [.int (x 0), .int (x 1), .int (x 2), .int (x 3)]))] := hD
  refine lv_aload_n hx hb d_Grid_lay_21 rfl (lv_at hl 0 rfl) ?_
  refine lv_aload hx hb d_Grid_lay_22 (lv_at hl 5 rfl) ?_
  refine pq_ci (is := [1]) (wc := [(b, .inr (0, [.int (x 0), .int (x 1), .int (x 2), .int (x 3)]))]) (w1 := [(b, .inr (0, [.int (x 0), .int (x 1), .int (x 2), .int (x 3)]))]) (ws' := [(g, .inr (1, [.int px, .int py, .int cw, .int ch, .int (f 4), .int (f 5)])), (b, .inr (0, [.int (x 0), .int (x 1), .int (x 2), .int (x 3)]))]) (pq_runV (As := []) (rest := [.ref g]) hx hb hml hown (v_Grid_Box_isEmpty hB hW0) (c_Box_isEmpty hB b x _) rfl rfl (by decide) (by decide) (pq_pre hW0 (hSA.now hS) hP hD [1] (by decide) rfl) (va_recv hK hP (ci := 0) (q0 := 1) rfl rfl) hl rfl (Nat.le_of_ble_eq_true rfl) d_Grid_lay_24 ⟨Nat.le_of_ble_eq_true rfl, Nat.le_of_ble_eq_true rfl⟩) hP hD hS hA rfl rfl rfl (ad := [g, b]) rfl rfl (fun H locs hP hD hS => ?_)
  refine lv_if_eq (tgt := 34) hx hb d_Grid_lay_27 (by decide) (fun c_1 => ?_) (fun c_1 => ?_)
  · refine lv_iload_n hx hb d_Grid_lay_34 rfl (lv_at hl 1 rfl) ?_
    refine lv_iload_n hx hb d_Grid_lay_35 rfl (lv_at hl 3 rfl) ?_
    refine lv_aload hx hb d_Grid_lay_36 (lv_at hl 5 rfl) ?_
    refine va_get (D := D) (ci := 0) (v := .int (x 2)) (C := R_Box) (T := F_Box) (N := 4) hx hb (uw_Box hB hW0) (fun _ h9 => h9) hown hK hP 1 rfl rfl 2 (by decide) (fl_Grid_Box_x1 hB hW0) (fun _ h9 => h9) rfl d_Grid_lay_38 ?_
    refine pq_ci (is := []) (wc := []) (w1 := []) (ws' := [(g, .inr (1, [.int px, .int py, .int cw, .int ch, .int (f 4), .int (f 5)])), (b, .inr (0, [.int (x 0), .int (x 1), .int (x 2), .int (x 3)]))]) (pq_runS (As := [.int px, .int cw, .int (x 2)]) (rest := [.ref g]) hx hb hml hown (v_Grid_Grid_countAlong hB hW0) (c_Grid_countAlong hB px cw (x 2) _) rfl rfl (by decide) (by decide) (pq_pre hW0 (hSA.now hS) hP hD [] (by decide) rfl) hl rfl (Nat.le_of_ble_eq_true rfl) d_Grid_lay_41 ⟨Nat.le_of_ble_eq_true rfl, Nat.le_of_ble_eq_true rfl⟩) hP hD hS hA rfl rfl rfl (ad := [g, b]) rfl rfl (fun H locs hP hD hS => ?_)
    refine pq_topi (v := fLay px cw x (x 2)) (by unfold fLay; (repeat' split) <;> first | rfl | contradiction) ?_
    refine va_put (D := D) (ci := 1) (v := .int (fLay px cw x (x 2))) (ty := t_Grid 4) (C := R_Grid) (T := F_Grid) (N := 6) hx hb (uw_Grid hB hW0) (fun _ h9 => h9) t_Grid t_Grid_ok n_Grid hown hK hP hD hS 0 rfl rfl 4 (by decide) (fl_Grid_Grid_columns hB hW0) (fun _ h9 => h9) rfl (t_Grid_ok 4 (by decide)) rfl rfl (Nat.le_of_ble_eq_true rfl) d_Grid_lay_44 (fun H locs hP hD hS => ?_)
    have hP : va_P D classes [(g, .inr (1, [.int px, .int py, .int cw, .int ch, .int (fLay px cw x (x 2)), .int (f 5)])), (b, .inr (0, [.int (x 0), .int (x 1), .int (x 2), .int (x 3)]))] H := hP
    have hD : va_D A [(g, .inr (1, [.int px, .int py, .int cw, .int ch, .int (fLay px cw x (x 2)), .int (f 5)])), (b, .inr (0, [.int (x 0), .int (x 1), .int (x 2), .int (x 3)]))] := hD
    refine lv_aload_n hx hb d_Grid_lay_47 rfl (lv_at hl 0 rfl) ?_
    refine lv_aload hx hb d_Grid_lay_48 (lv_at hl 5 rfl) ?_
    refine pq_ci (is := [1]) (wc := [(b, .inr (0, [.int (x 0), .int (x 1), .int (x 2), .int (x 3)]))]) (w1 := [(b, .inr (0, [.int (x 0), .int (x 1), .int (x 2), .int (x 3)]))]) (ws' := [(g, .inr (1, [.int px, .int py, .int cw, .int ch, .int (fLay px cw x (x 2)), .int (f 5)])), (b, .inr (0, [.int (x 0), .int (x 1), .int (x 2), .int (x 3)]))]) (pq_runV (As := []) (rest := [.ref g]) hx hb hml hown (v_Grid_Box_isEmpty hB hW0) (c_Box_isEmpty hB b x _) rfl rfl (by decide) (by decide) (pq_pre hW0 (hSA.now hS) hP hD [1] (by decide) rfl) (va_recv hK hP (ci := 0) (q0 := 1) rfl rfl) hl rfl (Nat.le_of_ble_eq_true rfl) d_Grid_lay_50 ⟨Nat.le_of_ble_eq_true rfl, Nat.le_of_ble_eq_true rfl⟩) hP hD hS hA rfl rfl rfl (ad := [g, b]) rfl rfl (fun H locs hP hD hS => ?_)
    refine lv_if_eq (tgt := 60) hx hb d_Grid_lay_53 (by decide) (fun _ => ?_) (fun c9 => absurd c_1 c9)
    refine lv_iload_n hx hb d_Grid_lay_60 rfl (lv_at hl 2 rfl) ?_
    refine lv_iload hx hb d_Grid_lay_61 (lv_at hl 4 rfl) ?_
    refine lv_aload hx hb d_Grid_lay_63 (lv_at hl 5 rfl) ?_
    refine va_get (D := D) (ci := 0) (v := .int (x 3)) (C := R_Box) (T := F_Box) (N := 4) hx hb (uw_Box hB hW0) (fun _ h9 => h9) hown hK hP 1 rfl rfl 3 (by decide) (fl_Grid_Box_y1 hB hW0) (fun _ h9 => h9) rfl d_Grid_lay_65 ?_
    refine pq_ci (is := []) (wc := []) (w1 := []) (ws' := [(g, .inr (1, [.int px, .int py, .int cw, .int ch, .int (fLay px cw x (x 2)), .int (f 5)])), (b, .inr (0, [.int (x 0), .int (x 1), .int (x 2), .int (x 3)]))]) (pq_runS (As := [.int py, .int ch, .int (x 3)]) (rest := [.ref g]) hx hb hml hown (v_Grid_Grid_countAlong hB hW0) (c_Grid_countAlong hB py ch (x 3) _) rfl rfl (by decide) (by decide) (pq_pre hW0 (hSA.now hS) hP hD [] (by decide) rfl) hl rfl (Nat.le_of_ble_eq_true rfl) d_Grid_lay_68 ⟨Nat.le_of_ble_eq_true rfl, Nat.le_of_ble_eq_true rfl⟩) hP hD hS hA rfl rfl rfl (ad := [g, b]) rfl rfl (fun H locs hP hD hS => ?_)
    refine pq_topi (v := fLay py ch x (x 3)) (by unfold fLay; (repeat' split) <;> first | rfl | contradiction) ?_
    refine va_put (D := D) (ci := 1) (v := .int (fLay py ch x (x 3))) (ty := t_Grid 5) (C := R_Grid) (T := F_Grid) (N := 6) hx hb (uw_Grid hB hW0) (fun _ h9 => h9) t_Grid t_Grid_ok n_Grid hown hK hP hD hS 0 rfl rfl 5 (by decide) (fl_Grid_Grid_rows hB hW0) (fun _ h9 => h9) rfl (t_Grid_ok 5 (by decide)) rfl rfl (Nat.le_of_ble_eq_true rfl) d_Grid_lay_71 (fun H locs hP hD hS => ?_)
    have hP : va_P D classes [(g, .inr (1, [.int px, .int py, .int cw, .int ch, .int (fLay px cw x (x 2)), .int (fLay py ch x (x 3))])), (b, .inr (0, [.int (x 0), .int (x 1), .int (x 2), .int (x 3)]))] H := hP
    have hD : va_D A [(g, .inr (1, [.int px, .int py, .int cw, .int ch, .int (fLay px cw x (x 2)), .int (fLay py ch x (x 3))])), (b, .inr (0, [.int (x 0), .int (x 1), .int (x 2), .int (x 3)]))] := hD
    have hP : va_P D classes [(g, .inr (1, [.int ((gLay px py cw ch x) 0), .int ((gLay px py cw ch x) 1), .int ((gLay px py cw ch x) 2), .int ((gLay px py cw ch x) 3), .int ((gLay px py cw ch x) 4), .int ((gLay px py cw ch x) 5)])), (b, .inr (0, [.int (x 0), .int (x 1), .int (x 2), .int (x 3)]))] H := hP
    exact pq_retv hx hb hr hlocks hP hS d_Grid_lay_74
  · refine lv_iconst (v := 0) hx hb d_Grid_lay_30 (by decide) ?_
    refine lv_goto (tgt := 44) hx hb d_Grid_lay_31 (by decide) ?_
    refine pq_topi (v := fLay px cw x (x 2)) (by unfold fLay; (repeat' split) <;> first | rfl | contradiction) ?_
    refine va_put (D := D) (ci := 1) (v := .int (fLay px cw x (x 2))) (ty := t_Grid 4) (C := R_Grid) (T := F_Grid) (N := 6) hx hb (uw_Grid hB hW0) (fun _ h9 => h9) t_Grid t_Grid_ok n_Grid hown hK hP hD hS 0 rfl rfl 4 (by decide) (fl_Grid_Grid_columns hB hW0) (fun _ h9 => h9) rfl (t_Grid_ok 4 (by decide)) rfl rfl (Nat.le_of_ble_eq_true rfl) d_Grid_lay_44 (fun H locs hP hD hS => ?_)
    have hP : va_P D classes [(g, .inr (1, [.int px, .int py, .int cw, .int ch, .int (fLay px cw x (x 2)), .int (f 5)])), (b, .inr (0, [.int (x 0), .int (x 1), .int (x 2), .int (x 3)]))] H := hP
    have hD : va_D A [(g, .inr (1, [.int px, .int py, .int cw, .int ch, .int (fLay px cw x (x 2)), .int (f 5)])), (b, .inr (0, [.int (x 0), .int (x 1), .int (x 2), .int (x 3)]))] := hD
    refine lv_aload_n hx hb d_Grid_lay_47 rfl (lv_at hl 0 rfl) ?_
    refine lv_aload hx hb d_Grid_lay_48 (lv_at hl 5 rfl) ?_
    refine pq_ci (is := [1]) (wc := [(b, .inr (0, [.int (x 0), .int (x 1), .int (x 2), .int (x 3)]))]) (w1 := [(b, .inr (0, [.int (x 0), .int (x 1), .int (x 2), .int (x 3)]))]) (ws' := [(g, .inr (1, [.int px, .int py, .int cw, .int ch, .int (fLay px cw x (x 2)), .int (f 5)])), (b, .inr (0, [.int (x 0), .int (x 1), .int (x 2), .int (x 3)]))]) (pq_runV (As := []) (rest := [.ref g]) hx hb hml hown (v_Grid_Box_isEmpty hB hW0) (c_Box_isEmpty hB b x _) rfl rfl (by decide) (by decide) (pq_pre hW0 (hSA.now hS) hP hD [1] (by decide) rfl) (va_recv hK hP (ci := 0) (q0 := 1) rfl rfl) hl rfl (Nat.le_of_ble_eq_true rfl) d_Grid_lay_50 ⟨Nat.le_of_ble_eq_true rfl, Nat.le_of_ble_eq_true rfl⟩) hP hD hS hA rfl rfl rfl (ad := [g, b]) rfl rfl (fun H locs hP hD hS => ?_)
    refine lv_if_eq (tgt := 60) hx hb d_Grid_lay_53 (by decide) (fun c9 => absurd c9 c_1) (fun _ => ?_)
    refine lv_iconst (v := 0) hx hb d_Grid_lay_56 (by decide) ?_
    refine lv_goto (tgt := 71) hx hb d_Grid_lay_57 (by decide) ?_
    refine pq_topi (v := fLay py ch x (x 3)) (by unfold fLay; (repeat' split) <;> first | rfl | contradiction) ?_
    refine va_put (D := D) (ci := 1) (v := .int (fLay py ch x (x 3))) (ty := t_Grid 5) (C := R_Grid) (T := F_Grid) (N := 6) hx hb (uw_Grid hB hW0) (fun _ h9 => h9) t_Grid t_Grid_ok n_Grid hown hK hP hD hS 0 rfl rfl 5 (by decide) (fl_Grid_Grid_rows hB hW0) (fun _ h9 => h9) rfl (t_Grid_ok 5 (by decide)) rfl rfl (Nat.le_of_ble_eq_true rfl) d_Grid_lay_71 (fun H locs hP hD hS => ?_)
    have hP : va_P D classes [(g, .inr (1, [.int px, .int py, .int cw, .int ch, .int (fLay px cw x (x 2)), .int (fLay py ch x (x 3))])), (b, .inr (0, [.int (x 0), .int (x 1), .int (x 2), .int (x 3)]))] H := hP
    have hD : va_D A [(g, .inr (1, [.int px, .int py, .int cw, .int ch, .int (fLay px cw x (x 2)), .int (fLay py ch x (x 3))])), (b, .inr (0, [.int (x 0), .int (x 1), .int (x 2), .int (x 3)]))] := hD
    have hP : va_P D classes [(g, .inr (1, [.int ((gLay px py cw ch x) 0), .int ((gLay px py cw ch x) 1), .int ((gLay px py cw ch x) 2), .int ((gLay px py cw ch x) 3), .int ((gLay px py cw ch x) 4), .int ((gLay px py cw ch x) 5)])), (b, .inr (0, [.int (x 0), .int (x 1), .int (x 2), .int (x 3)]))] H := hP
    exact pq_retv hx hb hr hlocks hP hS d_Grid_lay_74
set_option maxHeartbeats 4000000 in
set_option maxRecDepth 100000 in
theorem c_Grid_layPowers {l : Launch} {s0 : State} {a0 : Array Value} {D : va_G} {cI cL cC : ClassId} (hB : pq_B l s0 a0 D cI cL cC) (g : Nat) (b : Nat) (f : Nat → Int32) (x : Nat → Int32) (wp : Int32) (hp : Int32) (sz : Nat) : Met l y_Grid_layPowers [.code y_Grid_layPowers b_Grid_layPowers 4 none] (pq_rm 3 0 0) (va_Pc [.ref g, .ref b, .int wp, .int hp] (pq_Pre classes s0 D [(g, .inr (1, [.int (f 0), .int (f 1), .int (f 2), .int (f 3), .int (f 4), .int (f 5)])), (b, .inr (0, [.int (x 0), .int (x 1), .int (x 2), .int (x 3)]))] sz)) (va_Qv (fun (_ : Unit) => True) (fun _ t9 => va_P D classes [(g, .inr (1, [.int ((gPow x wp hp) 0), .int ((gPow x wp hp) 1), .int ((gPow x wp hp) 2), .int ((gPow x wp hp) 3), .int ((gPow x wp hp) 4), .int ((gPow x wp hp) 5)])), (b, .inr (0, [.int (x 0), .int (x 1), .int (x 2), .int (x 3)]))] t9.heap) (va_A [(g, .inr (1, [.int (f 0), .int (f 1), .int (f 2), .int (f 3), .int (f 4), .int (f 5)])), (b, .inr (0, [.int (x 0), .int (x 1), .int (x 2), .int (x 3)]))] sz)) 0 0 (va_A [(g, .inr (1, [.int (f 0), .int (f 1), .int (f 2), .int (f 3), .int (f 4), .int (f 5)])), (b, .inr (0, [.int (x 0), .int (x 1), .int (x 2), .int (x 3)]))] sz) := by
  refine pq_ofW (Qf := fun A => va_Qv (fun (_ : Unit) => True) (fun _ t9 => va_P D classes [(g, .inr (1, [.int ((gPow x wp hp) 0), .int ((gPow x wp hp) 1), .int ((gPow x wp hp) 2), .int ((gPow x wp hp) 3), .int ((gPow x wp hp) 4), .int ((gPow x wp hp) 5)])), (b, .inr (0, [.int (x 0), .int (x 1), .int (x 2), .int (x 3)]))] t9.heap) A) (by decide) (Nat.le_of_ble_eq_true rfl) ?_
  intro p e s m below meth c A ls hx hb hr hlocks hml hname hown hW0 hSA hsz hA hP hD hS hl
  have hown : s.vm.findClass R_Grid = some m.cls := hown
  have hK := hB.2.2.moved hW0.alike
  have hl : lv_has ls 4 [(0, .ref g), (1, .ref b), (2, .int wp), (3, .int hp)] := hl
  refine lv_aload_n hx hb d_Grid_layPowers_0 rfl (lv_at hl 0 rfl) ?_
  refine lv_aload_n hx hb d_Grid_layPowers_1 rfl (lv_at hl 1 rfl) ?_
  refine va_get (D := D) (ci := 0) (v := .int (x 0)) (C := R_Box) (T := F_Box) (N := 4) hx hb (uw_Box hB hW0) (fun _ h9 => h9) hown hK hP 1 rfl rfl 0 (by decide) (fl_Grid_Box_x0 hB hW0) (fun _ h9 => h9) rfl d_Grid_layPowers_2 ?_
  refine lv_iload_n hx hb d_Grid_layPowers_5 rfl (lv_at hl 2 rfl) ?_
  refine lv_ishr hx hb d_Grid_layPowers_6 ?_
  refine lv_iload_n hx hb d_Grid_layPowers_7 rfl (lv_at hl 2 rfl) ?_
  refine lv_ishl hx hb d_Grid_layPowers_8 ?_
  refine lv_aload_n hx hb d_Grid_layPowers_9 rfl (lv_at hl 1 rfl) ?_
  refine va_get (D := D) (ci := 0) (v := .int (x 1)) (C := R_Box) (T := F_Box) (N := 4) hx hb (uw_Box hB hW0) (fun _ h9 => h9) hown hK hP 1 rfl rfl 1 (by decide) (fl_Grid_Box_y0 hB hW0) (fun _ h9 => h9) rfl d_Grid_layPowers_10 ?_
  refine lv_iload_n hx hb d_Grid_layPowers_13 rfl (lv_at hl 3 rfl) ?_
  refine lv_ishr hx hb d_Grid_layPowers_14 ?_
  refine lv_iload_n hx hb d_Grid_layPowers_15 rfl (lv_at hl 3 rfl) ?_
  refine lv_ishl hx hb d_Grid_layPowers_16 ?_
  refine lv_iconst (v := 1) hx hb d_Grid_layPowers_17 (by decide) ?_
  refine lv_iload_n hx hb d_Grid_layPowers_18 rfl (lv_at hl 2 rfl) ?_
  refine lv_ishl hx hb d_Grid_layPowers_19 ?_
  refine lv_iconst (v := 1) hx hb d_Grid_layPowers_20 (by decide) ?_
  refine lv_iload_n hx hb d_Grid_layPowers_21 rfl (lv_at hl 3 rfl) ?_
  refine lv_ishl hx hb d_Grid_layPowers_22 ?_
  refine lv_aload_n hx hb d_Grid_layPowers_23 rfl (lv_at hl 1 rfl) ?_
  refine pq_cv (is := [0, 1]) (wc := [(g, .inr (1, [.int (f 0), .int (f 1), .int (f 2), .int (f 3), .int (f 4), .int (f 5)])), (b, .inr (0, [.int (x 0), .int (x 1), .int (x 2), .int (x 3)]))]) (w1 := [(g, .inr (1, [.int ((gLay (((x 0) >>> (wp &&& 31)) <<< (wp &&& 31)) (((x 1) >>> (hp &&& 31)) <<< (hp &&& 31)) (1 <<< (wp &&& 31)) (1 <<< (hp &&& 31)) x) 0), .int ((gLay (((x 0) >>> (wp &&& 31)) <<< (wp &&& 31)) (((x 1) >>> (hp &&& 31)) <<< (hp &&& 31)) (1 <<< (wp &&& 31)) (1 <<< (hp &&& 31)) x) 1), .int ((gLay (((x 0) >>> (wp &&& 31)) <<< (wp &&& 31)) (((x 1) >>> (hp &&& 31)) <<< (hp &&& 31)) (1 <<< (wp &&& 31)) (1 <<< (hp &&& 31)) x) 2), .int ((gLay (((x 0) >>> (wp &&& 31)) <<< (wp &&& 31)) (((x 1) >>> (hp &&& 31)) <<< (hp &&& 31)) (1 <<< (wp &&& 31)) (1 <<< (hp &&& 31)) x) 3), .int ((gLay (((x 0) >>> (wp &&& 31)) <<< (wp &&& 31)) (((x 1) >>> (hp &&& 31)) <<< (hp &&& 31)) (1 <<< (wp &&& 31)) (1 <<< (hp &&& 31)) x) 4), .int ((gLay (((x 0) >>> (wp &&& 31)) <<< (wp &&& 31)) (((x 1) >>> (hp &&& 31)) <<< (hp &&& 31)) (1 <<< (wp &&& 31)) (1 <<< (hp &&& 31)) x) 5)])), (b, .inr (0, [.int (x 0), .int (x 1), .int (x 2), .int (x 3)]))]) (ws' := [(g, .inr (1, [.int ((gLay (((x 0) >>> (wp &&& 31)) <<< (wp &&& 31)) (((x 1) >>> (hp &&& 31)) <<< (hp &&& 31)) (1 <<< (wp &&& 31)) (1 <<< (hp &&& 31)) x) 0), .int ((gLay (((x 0) >>> (wp &&& 31)) <<< (wp &&& 31)) (((x 1) >>> (hp &&& 31)) <<< (hp &&& 31)) (1 <<< (wp &&& 31)) (1 <<< (hp &&& 31)) x) 1), .int ((gLay (((x 0) >>> (wp &&& 31)) <<< (wp &&& 31)) (((x 1) >>> (hp &&& 31)) <<< (hp &&& 31)) (1 <<< (wp &&& 31)) (1 <<< (hp &&& 31)) x) 2), .int ((gLay (((x 0) >>> (wp &&& 31)) <<< (wp &&& 31)) (((x 1) >>> (hp &&& 31)) <<< (hp &&& 31)) (1 <<< (wp &&& 31)) (1 <<< (hp &&& 31)) x) 3), .int ((gLay (((x 0) >>> (wp &&& 31)) <<< (wp &&& 31)) (((x 1) >>> (hp &&& 31)) <<< (hp &&& 31)) (1 <<< (wp &&& 31)) (1 <<< (hp &&& 31)) x) 4), .int ((gLay (((x 0) >>> (wp &&& 31)) <<< (wp &&& 31)) (((x 1) >>> (hp &&& 31)) <<< (hp &&& 31)) (1 <<< (wp &&& 31)) (1 <<< (hp &&& 31)) x) 5)])), (b, .inr (0, [.int (x 0), .int (x 1), .int (x 2), .int (x 3)]))]) (pq_runV (As := [.int (((x 0) >>> (wp &&& 31)) <<< (wp &&& 31)), .int (((x 1) >>> (hp &&& 31)) <<< (hp &&& 31)), .int (1 <<< (wp &&& 31)), .int (1 <<< (hp &&& 31)), .ref b]) (rest := []) hx hb hml hown (v_Grid_Grid_lay hB hW0) (c_Grid_lay hB g b f x (((x 0) >>> (wp &&& 31)) <<< (wp &&& 31)) (((x 1) >>> (hp &&& 31)) <<< (hp &&& 31)) (1 <<< (wp &&& 31)) (1 <<< (hp &&& 31)) _) rfl rfl (by decide) (by decide) (pq_pre hW0 (hSA.now hS) hP hD [0, 1] (by decide) rfl) (va_recv hK hP (ci := 1) (q0 := 0) rfl rfl) hl rfl (Nat.le_of_ble_eq_true rfl) d_Grid_layPowers_24 ⟨Nat.le_of_ble_eq_true rfl, Nat.le_of_ble_eq_true rfl⟩) hP hD hS hA rfl rfl rfl (ad := [g, b]) rfl rfl (fun H locs hP hD hS => ?_)
  have hP : va_P D classes [(g, .inr (1, [.int ((gPow x wp hp) 0), .int ((gPow x wp hp) 1), .int ((gPow x wp hp) 2), .int ((gPow x wp hp) 3), .int ((gPow x wp hp) 4), .int ((gPow x wp hp) 5)])), (b, .inr (0, [.int (x 0), .int (x 1), .int (x 2), .int (x 3)]))] H := hP
  exact pq_retv hx hb hr hlocks hP hS d_Grid_layPowers_27
set_option maxHeartbeats 4000000 in
set_option maxRecDepth 100000 in
theorem c_Box_takeCell {l : Launch} {s0 : State} {a0 : Array Value} {D : va_G} {cI cL cC : ClassId} (hB : pq_B l s0 a0 D cI cL cC) (b : Nat) (w : Nat) (g : Nat) (f : Nat → Int32) (x : Nat → Int32) (g6 : Nat → Int32) (j : Int32) (sz : Nat) : Met l y_Box_takeCell [.code y_Box_takeCell b_Box_takeCell 4 none] (pq_rm 3 0 0) (va_Pc [.ref b, .ref w, .ref g, .int j] (pq_Pre classes s0 D [(b, .inr (0, [.int (f 0), .int (f 1), .int (f 2), .int (f 3)])), (w, .inr (0, [.int (x 0), .int (x 1), .int (x 2), .int (x 3)])), (g, .inr (1, [.int (g6 0), .int (g6 1), .int (g6 2), .int (g6 3), .int (g6 4), .int (g6 5)]))] sz)) (va_Qv (fun (_ : Unit) => True) (fun _ t9 => va_P D classes [(b, .inr (0, [.int ((bTake x g6 j) 0), .int ((bTake x g6 j) 1), .int ((bTake x g6 j) 2), .int ((bTake x g6 j) 3)])), (w, .inr (0, [.int (x 0), .int (x 1), .int (x 2), .int (x 3)])), (g, .inr (1, [.int (g6 0), .int (g6 1), .int (g6 2), .int (g6 3), .int (g6 4), .int (g6 5)]))] t9.heap) (va_A [(b, .inr (0, [.int (f 0), .int (f 1), .int (f 2), .int (f 3)])), (w, .inr (0, [.int (x 0), .int (x 1), .int (x 2), .int (x 3)])), (g, .inr (1, [.int (g6 0), .int (g6 1), .int (g6 2), .int (g6 3), .int (g6 4), .int (g6 5)]))] sz)) 0 0 (va_A [(b, .inr (0, [.int (f 0), .int (f 1), .int (f 2), .int (f 3)])), (w, .inr (0, [.int (x 0), .int (x 1), .int (x 2), .int (x 3)])), (g, .inr (1, [.int (g6 0), .int (g6 1), .int (g6 2), .int (g6 3), .int (g6 4), .int (g6 5)]))] sz) := by
  refine pq_ofW (Qf := fun A => va_Qv (fun (_ : Unit) => True) (fun _ t9 => va_P D classes [(b, .inr (0, [.int ((bTake x g6 j) 0), .int ((bTake x g6 j) 1), .int ((bTake x g6 j) 2), .int ((bTake x g6 j) 3)])), (w, .inr (0, [.int (x 0), .int (x 1), .int (x 2), .int (x 3)])), (g, .inr (1, [.int (g6 0), .int (g6 1), .int (g6 2), .int (g6 3), .int (g6 4), .int (g6 5)]))] t9.heap) A) (by decide) (Nat.le_of_ble_eq_true rfl) ?_
  intro p e s m below meth c A ls hx hb hr hlocks hml hname hown hW0 hSA hsz hA hP hD hS hl
  have hown : s.vm.findClass R_Box = some m.cls := hown
  have hK := hB.2.2.moved hW0.alike
  have hl : lv_has ls 4 [(0, .ref b), (1, .ref w), (2, .ref g), (3, .int j)] := hl
  refine lv_aload_n hx hb d_Box_takeCell_0 rfl (lv_at hl 0 rfl) ?_
  refine lv_aload_n hx hb d_Box_takeCell_1 rfl (lv_at hl 1 rfl) ?_
  refine lv_aload_n hx hb d_Box_takeCell_2 rfl (lv_at hl 2 rfl) ?_
  refine lv_iload_n hx hb d_Box_takeCell_3 rfl (lv_at hl 3 rfl) ?_
  refine pq_ci (is := [2]) (wc := [(g, .inr (1, [.int (g6 0), .int (g6 1), .int (g6 2), .int (g6 3), .int (g6 4), .int (g6 5)]))]) (w1 := [(g, .inr (1, [.int (g6 0), .int (g6 1), .int (g6 2), .int (g6 3), .int (g6 4), .int (g6 5)]))]) (ws' := [(b, .inr (0, [.int (f 0), .int (f 1), .int (f 2), .int (f 3)])), (w, .inr (0, [.int (x 0), .int (x 1), .int (x 2), .int (x 3)])), (g, .inr (1, [.int (g6 0), .int (g6 1), .int (g6 2), .int (g6 3), .int (g6 4), .int (g6 5)]))]) (pq_runV (As := [.int j]) (rest := [.ref w, .ref b]) hx hb hml hown (v_Box_Grid_leftOf hB hW0) (c_Grid_leftOf hB g g6 j _) rfl rfl (by decide) (by decide) (pq_pre hW0 (hSA.now hS) hP hD [2] (by decide) rfl) (va_recv hK hP (ci := 1) (q0 := 2) rfl rfl) hl rfl (Nat.le_of_ble_eq_true rfl) d_Box_takeCell_4 ⟨Nat.le_of_ble_eq_true rfl, Nat.le_of_ble_eq_true rfl⟩) hP hD hS hA rfl rfl rfl (ad := [b, w, g]) rfl rfl (fun H locs hP hD hS => ?_)
  refine lv_aload_n hx hb d_Box_takeCell_7 rfl (lv_at hl 2 rfl) ?_
  refine lv_iload_n hx hb d_Box_takeCell_8 rfl (lv_at hl 3 rfl) ?_
  refine pq_ci (is := [2]) (wc := [(g, .inr (1, [.int (g6 0), .int (g6 1), .int (g6 2), .int (g6 3), .int (g6 4), .int (g6 5)]))]) (w1 := [(g, .inr (1, [.int (g6 0), .int (g6 1), .int (g6 2), .int (g6 3), .int (g6 4), .int (g6 5)]))]) (ws' := [(b, .inr (0, [.int (f 0), .int (f 1), .int (f 2), .int (f 3)])), (w, .inr (0, [.int (x 0), .int (x 1), .int (x 2), .int (x 3)])), (g, .inr (1, [.int (g6 0), .int (g6 1), .int (g6 2), .int (g6 3), .int (g6 4), .int (g6 5)]))]) (pq_runV (As := [.int j]) (rest := [.int (fLeft g6 j), .ref w, .ref b]) hx hb hml hown (v_Box_Grid_topOf hB hW0) (c_Grid_topOf hB g g6 j _) rfl rfl (by decide) (by decide) (pq_pre hW0 (hSA.now hS) hP hD [2] (by decide) rfl) (va_recv hK hP (ci := 1) (q0 := 2) rfl rfl) hl rfl (Nat.le_of_ble_eq_true rfl) d_Box_takeCell_9 ⟨Nat.le_of_ble_eq_true rfl, Nat.le_of_ble_eq_true rfl⟩) hP hD hS hA rfl rfl rfl (ad := [b, w, g]) rfl rfl (fun H locs hP hD hS => ?_)
  refine lv_aload_n hx hb d_Box_takeCell_12 rfl (lv_at hl 2 rfl) ?_
  refine va_get (D := D) (ci := 1) (v := .int (g6 2)) (C := R_Grid) (T := F_Grid) (N := 6) hx hb (uw_Grid hB hW0) (fun _ h9 => h9) hown hK hP 2 rfl rfl 2 (by decide) (fl_Box_Grid_width hB hW0) (fun _ h9 => h9) rfl d_Box_takeCell_13 ?_
  refine lv_aload_n hx hb d_Box_takeCell_16 rfl (lv_at hl 2 rfl) ?_
  refine va_get (D := D) (ci := 1) (v := .int (g6 3)) (C := R_Grid) (T := F_Grid) (N := 6) hx hb (uw_Grid hB hW0) (fun _ h9 => h9) hown hK hP 2 rfl rfl 3 (by decide) (fl_Box_Grid_height hB hW0) (fun _ h9 => h9) rfl d_Box_takeCell_17 ?_
  refine pq_cv (is := [0, 1]) (wc := [(b, .inr (0, [.int (f 0), .int (f 1), .int (f 2), .int (f 3)])), (w, .inr (0, [.int (x 0), .int (x 1), .int (x 2), .int (x 3)]))]) (w1 := [(b, .inr (0, [.int ((bCut x (fLeft g6 j) (fTop g6 j) (g6 2) (g6 3)) 0), .int ((bCut x (fLeft g6 j) (fTop g6 j) (g6 2) (g6 3)) 1), .int ((bCut x (fLeft g6 j) (fTop g6 j) (g6 2) (g6 3)) 2), .int ((bCut x (fLeft g6 j) (fTop g6 j) (g6 2) (g6 3)) 3)])), (w, .inr (0, [.int (x 0), .int (x 1), .int (x 2), .int (x 3)]))]) (ws' := [(b, .inr (0, [.int ((bCut x (fLeft g6 j) (fTop g6 j) (g6 2) (g6 3)) 0), .int ((bCut x (fLeft g6 j) (fTop g6 j) (g6 2) (g6 3)) 1), .int ((bCut x (fLeft g6 j) (fTop g6 j) (g6 2) (g6 3)) 2), .int ((bCut x (fLeft g6 j) (fTop g6 j) (g6 2) (g6 3)) 3)])), (w, .inr (0, [.int (x 0), .int (x 1), .int (x 2), .int (x 3)])), (g, .inr (1, [.int (g6 0), .int (g6 1), .int (g6 2), .int (g6 3), .int (g6 4), .int (g6 5)]))]) (pq_runV (As := [.ref w, .int (fLeft g6 j), .int (fTop g6 j), .int (g6 2), .int (g6 3)]) (rest := []) hx hb hml hown (v_Box_Box_cut hB hW0) (c_Box_cut hB b w f x (fLeft g6 j) (fTop g6 j) (g6 2) (g6 3) _) rfl rfl (by decide) (by decide) (pq_pre hW0 (hSA.now hS) hP hD [0, 1] (by decide) rfl) (va_recv hK hP (ci := 0) (q0 := 0) rfl rfl) hl rfl (Nat.le_of_ble_eq_true rfl) d_Box_takeCell_20 ⟨Nat.le_of_ble_eq_true rfl, Nat.le_of_ble_eq_true rfl⟩) hP hD hS hA rfl rfl rfl (ad := [b, w, g]) rfl rfl (fun H locs hP hD hS => ?_)
  have hP : va_P D classes [(b, .inr (0, [.int ((bTake x g6 j) 0), .int ((bTake x g6 j) 1), .int ((bTake x g6 j) 2), .int ((bTake x g6 j) 3)])), (w, .inr (0, [.int (x 0), .int (x 1), .int (x 2), .int (x 3)])), (g, .inr (1, [.int (g6 0), .int (g6 1), .int (g6 2), .int (g6 3), .int (g6 4), .int (g6 5)]))] H := hP
  exact pq_retv hx hb hr hlocks hP hS d_Box_takeCell_23
