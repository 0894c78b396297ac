set_option maxHeartbeats 4000000 in
set_option maxRecDepth 100000 in
theorem c_Canvas_isWithin {l : Launch} {s0 : State} {a0 : Array Value} {D : va_G} {cI cL cC : ClassId} (hB : pq_B l s0 a0 D cI cL cC) (v : Int32) (lo : Int32) (hi : Int32) (sz : Nat) : Met l y_Canvas_isWithin [.code y_Canvas_isWithin b_Canvas_isWithin 3 (some .boolean)] (pq_rm 1 0 0) (va_Pc [.int v, .int lo, .int hi] (pq_Pre classes s0 D [] sz)) (va_Qi (fun r (_ : Unit) => r = (fWithin v lo hi)) (fun _ t9 => va_P D classes [] t9.heap) (va_A [] sz)) 0 0 (va_A [] sz) := by
  refine pq_ofW (Qf := fun A => va_Qi (fun r (_ : Unit) => r = (fWithin v lo hi)) (fun _ t9 => va_P D classes [] t9.heap) A) (by decide) (Nat.le_of_ble_eq_true rfl) ?_
  intro p e s m below meth c A ls hx hb hr hlocks hml hname hown hW0 hSA hsz hA hP hD hS hl
  have hown : s.vm.findClass R_Canvas = some m.cls := hown
  have hK := hB.2.2.moved hW0.alike
  have hl : lv_has ls 3 [(0, .int v), (1, .int lo), (2, .int hi)] := hl
  refine lv_iload_n hx hb d_Canvas_isWithin_0 rfl (lv_at hl 0 rfl) ?_
  refine lv_iload_n hx hb d_Canvas_isWithin_1 rfl (lv_at hl 1 rfl) ?_
  refine lv_icmp_lt (tgt := 14) hx hb d_Canvas_isWithin_2 (by decide) (fun c_1 => ?_) (fun c_1 => ?_)
  · refine lv_iconst (v := 0) hx hb d_Canvas_isWithin_14 (by decide) ?_
    exact pq_retz hx hb hr hlocks rfl (by unfold fWithin; (repeat' split) <;> first | rfl | contradiction) hP hS d_Canvas_isWithin_15
  · refine lv_iload_n hx hb d_Canvas_isWithin_5 rfl (lv_at hl 0 rfl) ?_
    refine lv_iload_n hx hb d_Canvas_isWithin_6 rfl (lv_at hl 2 rfl) ?_
    refine lv_icmp_gt (tgt := 14) hx hb d_Canvas_isWithin_7 (by decide) (fun c_2 => ?_) (fun c_2 => ?_)
    · refine lv_iconst (v := 0) hx hb d_Canvas_isWithin_14 (by decide) ?_
      exact pq_retz hx hb hr hlocks rfl (by unfold fWithin; (repeat' split) <;> first | rfl | contradiction) hP hS d_Canvas_isWithin_15
    · refine lv_iconst (v := 1) hx hb d_Canvas_isWithin_10 (by decide) ?_
      refine lv_goto (tgt := 15) hx hb d_Canvas_isWithin_11 (by decide) ?_
      exact pq_retz hx hb hr hlocks rfl (by unfold fWithin; (repeat' split) <;> first | rfl | contradiction) hP hS d_Canvas_isWithin_15
set_option maxHeartbeats 4000000 in
set_option maxRecDepth 100000 in
theorem c_Canvas_isBlockExponent {l : Launch} {s0 : State} {a0 : Array Value} {D : va_G} {cI cL cC : ClassId} (hB : pq_B l s0 a0 D cI cL cC) (v : Int32) (sz : Nat) : Met l y_Canvas_isBlockExponent [.code y_Canvas_isBlockExponent b_Canvas_isBlockExponent 1 (some .boolean)] (pq_rm 2 0 0) (va_Pc [.int v] (pq_Pre classes s0 D [] sz)) (va_Qi (fun r (_ : Unit) => r = (fWithin v 2 10)) (fun _ t9 => va_P D classes [] t9.heap) (va_A [] sz)) 0 0 (va_A [] sz) := by
  refine pq_ofW (Qf := fun A => va_Qi (fun r (_ : Unit) => r = (fWithin v 2 10)) (fun _ t9 => va_P D classes [] t9.heap) A) (by decide) (Nat.le_of_ble_eq_true rfl) ?_
  intro p e s m below meth c A ls hx hb hr hlocks hml hname hown hW0 hSA hsz hA hP hD hS hl
  have hown : s.vm.findClass R_Canvas = some m.cls := hown
  have hK := hB.2.2.moved hW0.alike
  have hl : lv_has ls 1 [(0, .int v)] := hl
  refine lv_iload_n hx hb d_Canvas_isBlockExponent_0 rfl (lv_at hl 0 rfl) ?_
  refine lv_iconst (v := 2) hx hb d_Canvas_isBlockExponent_1 (by decide) ?_
  refine lv_bipush (v := 10) hx hb d_Canvas_isBlockExponent_2 (by decide) ?_
  refine pq_ci (is := []) (wc := []) (w1 := []) (ws' := []) (pq_runS (As := [.int v, .int 2, .int 10]) (rest := []) hx hb hml hown (v_Canvas_Canvas_isWithin hB hW0) (c_Canvas_isWithin hB v 2 10 _) rfl rfl (by decide) (by decide) (pq_pre hW0 (hSA.now hS) hP hD [] (by decide) rfl) hl rfl (Nat.le_of_ble_eq_true rfl) d_Canvas_isBlockExponent_4 ⟨Nat.le_of_ble_eq_true rfl, Nat.le_of_ble_eq_true rfl⟩) hP hD hS hA rfl rfl rfl (ad := []) rfl rfl (fun H locs hP hD hS => ?_)
  exact pq_retz hx hb hr hlocks (fWithin_nar _ _ _) rfl hP hS d_Canvas_isBlockExponent_7
set_option maxHeartbeats 4000000 in
set_option maxRecDepth 100000 in
theorem c_Canvas_isFirstTile {l : Launch} {s0 : State} {a0 : Array Value} {D : va_G} {cI cL cC : ClassId} (hB : pq_B l s0 a0 D cI cL cC) (st : Int32) (se : Int32) (f : Int32) (sz : Nat) : Met l y_Canvas_isFirstTile [.code y_Canvas_isFirstTile b_Canvas_isFirstTile 3 (some .boolean)] (pq_rm 2 0 0) (va_Pc [.int st, .int se, .int f] (pq_Pre classes s0 D [] sz)) (va_Qi (fun r (_ : Unit) => r = (fFirst st se f)) (fun _ t9 => va_P D classes [] t9.heap) (va_A [] sz)) 0 0 (va_A [] sz) := by
  refine pq_ofW (Qf := fun A => va_Qi (fun r (_ : Unit) => r = (fFirst st se f)) (fun _ t9 => va_P D classes [] t9.heap) A) (by decide) (Nat.le_of_ble_eq_true rfl) ?_
  intro p e s m below meth c A ls hx hb hr hlocks hml hname hown hW0 hSA hsz hA hP hD hS hl
  have hown : s.vm.findClass R_Canvas = some m.cls := hown
  have hK := hB.2.2.moved hW0.alike
  have hl : lv_has ls 3 [(0, .int st), (1, .int se), (2, .int f)] := hl
  refine lv_iload_n hx hb d_Canvas_isFirstTile_0 rfl (lv_at hl 0 rfl) ?_
  refine lv_iconst (v := 0) hx hb d_Canvas_isFirstTile_1 (by decide) ?_
  refine lv_iload_n hx hb d_Canvas_isFirstTile_2 rfl (lv_at hl 2 rfl) ?_
  refine pq_ci (is := []) (wc := []) (w1 := []) (ws' := []) (pq_runS (As := [.int st, .int 0, .int f]) (rest := []) hx hb hml hown (v_Canvas_Canvas_isWithin hB hW0) (c_Canvas_isWithin hB st 0 f _) rfl rfl (by decide) (by decide) (pq_pre hW0 (hSA.now hS) hP hD [] (by decide) rfl) hl rfl (Nat.le_of_ble_eq_true rfl) d_Canvas_isFirstTile_3 ⟨Nat.le_of_ble_eq_true rfl, Nat.le_of_ble_eq_true rfl⟩) hP hD hS hA rfl rfl rfl (ad := []) rfl rfl (fun H locs hP hD hS => ?_)
  refine lv_if_eq (tgt := 20) hx hb d_Canvas_isFirstTile_6 (by decide) (fun c_1 => ?_) (fun c_1 => ?_)
  · refine lv_iconst (v := 0) hx hb d_Canvas_isFirstTile_20 (by decide) ?_
    exact pq_retz hx hb hr hlocks rfl (by unfold fFirst; (repeat' split) <;> first | rfl | contradiction) hP hS d_Canvas_isFirstTile_21
  · refine lv_iload_n hx hb d_Canvas_isFirstTile_9 rfl (lv_at hl 0 rfl) ?_
    refine lv_iload_n hx hb d_Canvas_isFirstTile_10 rfl (lv_at hl 1 rfl) ?_
    refine lv_iadd hx hb d_Canvas_isFirstTile_11 ?_
    refine lv_iload_n hx hb d_Canvas_isFirstTile_12 rfl (lv_at hl 2 rfl) ?_
    refine lv_icmp_le (tgt := 20) hx hb d_Canvas_isFirstTile_13 (by decide) (fun c_2 => ?_) (fun c_2 => ?_)
    · refine lv_iconst (v := 0) hx hb d_Canvas_isFirstTile_20 (by decide) ?_
      exact pq_retz hx hb hr hlocks rfl (by unfold fFirst; (repeat' split) <;> first | rfl | contradiction) hP hS d_Canvas_isFirstTile_21
    · refine lv_iconst (v := 1) hx hb d_Canvas_isFirstTile_16 (by decide) ?_
      refine lv_goto (tgt := 21) hx hb d_Canvas_isFirstTile_17 (by decide) ?_
      exact pq_retz hx hb hr hlocks rfl (by unfold fFirst; (repeat' split) <;> first | rfl | contradiction) hP hS d_Canvas_isFirstTile_21
set_option maxHeartbeats 4000000 in
set_option maxRecDepth 100000 in
theorem c_Canvas_firstBand {l : Launch} {s0 : State} {a0 : Array Value} {D : va_G} {cI cL cC : ClassId} (hB : pq_B l s0 a0 D cI cL cC) (q : Int32) (sz : Nat) : Met l y_Canvas_firstBand [.code y_Canvas_firstBand b_Canvas_firstBand 1 (some .int)] (pq_rm 1 0 0) (va_Pc [.int q] (pq_Pre classes s0 D [] sz)) (va_Qi (fun r (_ : Unit) => r = (fHalv q)) (fun _ t9 => va_P D classes [] t9.heap) (va_A [] sz)) 0 0 (va_A [] sz) := by
  refine pq_ofW (Qf := fun A => va_Qi (fun r (_ : Unit) => r = (fHalv q)) (fun _ t9 => va_P D classes [] t9.heap) A) (by decide) (Nat.le_of_ble_eq_true rfl) ?_
  intro p e s m below meth c A ls hx hb hr hlocks hml hname hown hW0 hSA hsz hA hP hD hS hl
  have hown : s.vm.findClass R_Canvas = some m.cls := hown
  have hK := hB.2.2.moved hW0.alike
  have hl : lv_has ls 1 [(0, .int q)] := hl
  refine lv_iload_n hx hb d_Canvas_firstBand_0 rfl (lv_at hl 0 rfl) ?_
  refine lv_if_ne (tgt := 8) hx hb d_Canvas_firstBand_1 (by decide) (fun c_1 => ?_) (fun c_1 => ?_)
  · refine lv_iconst (v := 1) hx hb d_Canvas_firstBand_8 (by decide) ?_
    exact pq_reti hx hb hr hlocks (by unfold fHalv; (repeat' split) <;> first | rfl | contradiction) hP hS d_Canvas_firstBand_9
  · refine lv_iconst (v := 0) hx hb d_Canvas_firstBand_4 (by decide) ?_
    refine lv_goto (tgt := 9) hx hb d_Canvas_firstBand_5 (by decide) ?_
    exact pq_reti hx hb hr hlocks (by unfold fHalv; (repeat' split) <;> first | rfl | contradiction) hP hS d_Canvas_firstBand_9
set_option maxHeartbeats 4000000 in
set_option maxRecDepth 100000 in
theorem c_Canvas_lastBand {l : Launch} {s0 : State} {a0 : Array Value} {D : va_G} {cI cL cC : ClassId} (hB : pq_B l s0 a0 D cI cL cC) (q : Int32) (sz : Nat) : Met l y_Canvas_lastBand [.code y_Canvas_lastBand b_Canvas_lastBand 1 (some .int)] (pq_rm 1 0 0) (va_Pc [.int q] (pq_Pre classes s0 D [] sz)) (va_Qi (fun r (_ : Unit) => r = (fLast q)) (fun _ t9 => va_P D classes [] t9.heap) (va_A [] sz)) 0 0 (va_A [] sz) := by
  refine pq_ofW (Qf := fun A => va_Qi (fun r (_ : Unit) => r = (fLast q)) (fun _ t9 => va_P D classes [] t9.heap) A) (by decide) (Nat.le_of_ble_eq_true rfl) ?_
  intro p e s m below meth c A ls hx hb hr hlocks hml hname hown hW0 hSA hsz hA hP hD hS hl
  have hown : s.vm.findClass R_Canvas = some m.cls := hown
  have hK := hB.2.2.moved hW0.alike
  have hl : lv_has ls 1 [(0, .int q)] := hl
  refine lv_iload_n hx hb d_Canvas_lastBand_0 rfl (lv_at hl 0 rfl) ?_
  refine lv_if_ne (tgt := 8) hx hb d_Canvas_lastBand_1 (by decide) (fun c_1 => ?_) (fun c_1 => ?_)
  · refine lv_iconst (v := 3) hx hb d_Canvas_lastBand_8 (by decide) ?_
    exact pq_reti hx hb hr hlocks (by unfold fLast; (repeat' split) <;> first | rfl | contradiction) hP hS d_Canvas_lastBand_9
  · refine lv_iconst (v := 0) hx hb d_Canvas_lastBand_4 (by decide) ?_
    refine lv_goto (tgt := 9) hx hb d_Canvas_lastBand_5 (by decide) ?_
    exact pq_reti hx hb hr hlocks (by unfold fLast; (repeat' split) <;> first | rfl | contradiction) hP hS d_Canvas_lastBand_9
set_option maxHeartbeats 4000000 in
set_option maxRecDepth 100000 in
theorem c_Canvas_halvingsOfBand {l : Launch} {s0 : State} {a0 : Array Value} {D : va_G} {cI cL cC : ClassId} (hB : pq_B l s0 a0 D cI cL cC) (q : Int32) (sz : Nat) : Met l y_Canvas_halvingsOfBand [.code y_Canvas_halvingsOfBand b_Canvas_halvingsOfBand 1 (some .int)] (pq_rm 1 0 0) (va_Pc [.int q] (pq_Pre classes s0 D [] sz)) (va_Qi (fun r (_ : Unit) => r = (fHalv q)) (fun _ t9 => va_P D classes [] t9.heap) (va_A [] sz)) 0 0 (va_A [] sz) := by
  refine pq_ofW (Qf := fun A => va_Qi (fun r (_ : Unit) => r = (fHalv q)) (fun _ t9 => va_P D classes [] t9.heap) A) (by decide) (Nat.le_of_ble_eq_true rfl) ?_
  intro p e s m below meth c A ls hx hb hr hlocks hml hname hown hW0 hSA hsz hA hP hD hS hl
  have hown : s.vm.findClass R_Canvas = some m.cls := hown
  have hK := hB.2.2.moved hW0.alike
  have hl : lv_has ls 1 [(0, .int q)] := hl
  refine lv_iload_n hx hb d_Canvas_halvingsOfBand_0 rfl (lv_at hl 0 rfl) ?_
  refine lv_if_ne (tgt := 8) hx hb d_Canvas_halvingsOfBand_1 (by decide) (fun c_1 => ?_) (fun c_1 => ?_)
  · refine lv_iconst (v := 1) hx hb d_Canvas_halvingsOfBand_8 (by decide) ?_
    exact pq_reti hx hb hr hlocks (by unfold fHalv; (repeat' split) <;> first | rfl | contradiction) hP hS d_Canvas_halvingsOfBand_9
  · refine lv_iconst (v := 0) hx hb d_Canvas_halvingsOfBand_4 (by decide) ?_
    refine lv_goto (tgt := 9) hx hb d_Canvas_halvingsOfBand_5 (by decide) ?_
    exact pq_reti hx hb hr hlocks (by unfold fHalv; (repeat' split) <;> first | rfl | contradiction) hP hS d_Canvas_halvingsOfBand_9
set_option maxHeartbeats 4000000 in
set_option maxRecDepth 100000 in
theorem c_Canvas_edgeOrCount {l : Launch} {s0 : State} {a0 : Array Value} {D : va_G} {cI cL cC : ClassId} (hB : pq_B l s0 a0 D cI cL cC) (b : Nat) (g : Nat) (x : Nat → Int32) (g6 : Nat → Int32) (q : Int32) (sz : Nat) : Met l y_Canvas_edgeOrCount [.code y_Canvas_edgeOrCount b_Canvas_edgeOrCount 3 (some .int)] (pq_rm 2 0 0) (va_Pc [.ref b, .ref g, .int q] (pq_Pre classes s0 D [(b, .inr (0, [.int (x 0), .int (x 1), .int (x 2), .int (x 3)])), (g, .inr (1, [.int (g6 0), .int (g6 1), .int (g6 2), .int (g6 3), .int (g6 4), .int (g6 5)]))] sz)) (va_Qi (fun r (_ : Unit) => r = (fEoc x g6 q)) (fun _ t9 => va_P D classes [(b, .inr (0, [.int (x 0), .int (x 1), .int (x 2), .int (x 3)])), (g, .inr (1, [.int (g6 0), .int (g6 1), .int (g6 2), .int (g6 3), .int (g6 4), .int (g6 5)]))] t9.heap) (va_A [(b, .inr (0, [.int (x 0), .int (x 1), .int (x 2), .int (x 3)])), (g, .inr (1, [.int (g6 0), .int (g6 1), .int (g6 2), .int (g6 3), .int (g6 4), .int (g6 5)]))] sz)) 0 0 (va_A [(b, .inr (0, [.int (x 0), .int (x 1), .int (x 2), .int (x 3)])), (g, .inr (1, [.int (g6 0), .int (g6 1), .int (g6 2), .int (g6 3), .int (g6 4), .int (g6 5)]))] sz) := by
  refine pq_ofW (Qf := fun A => va_Qi (fun r (_ : Unit) => r = (fEoc x g6 q)) (fun _ t9 => va_P D classes [(b, .inr (0, [.int (x 0), .int (x 1), .int (x 2), .int (x 3)])), (g, .inr (1, [.int (g6 0), .int (g6 1), .int (g6 2), .int (g6 3), .int (g6 4), .int (g6 5)]))] t9.heap) A) (by decide) (Nat.le_of_ble_eq_true rfl) ?_
  intro p e s m below meth c A ls hx hb hr hlocks hml hname hown hW0 hSA hsz hA hP hD hS hl
  have hown : s.vm.findClass R_Canvas = some m.cls := hown
  have hK := hB.2.2.moved hW0.alike
  have hl : lv_has ls 3 [(0, .ref b), (1, .ref g), (2, .int q)] := hl
  refine lv_iload_n hx hb d_Canvas_edgeOrCount_0 rfl (lv_at hl 2 rfl) ?_
  refine lv_iconst (v := 3) hx hb d_Canvas_edgeOrCount_1 (by decide) ?_
  refine lv_icmp_gt (tgt := 11) hx hb d_Canvas_edgeOrCount_2 (by decide) (fun c_1 => ?_) (fun c_1 => ?_)
  · refine lv_iload_n hx hb d_Canvas_edgeOrCount_11 rfl (lv_at hl 2 rfl) ?_
    refine lv_iconst (v := 4) hx hb d_Canvas_edgeOrCount_12 (by decide) ?_
    refine lv_icmp_ne (tgt := 23) hx hb d_Canvas_edgeOrCount_13 (by decide) (fun c_2 => ?_) (fun c_2 => ?_)
    · refine lv_aload_n hx hb d_Canvas_edgeOrCount_23 rfl (lv_at hl 1 rfl) ?_
      refine va_get (D := D) (ci := 1) (v := .int (g6 5)) (C := R_Grid) (T := F_Grid) (N := 6) hx hb (uw_Grid hB hW0) (fun _ h9 => h9) hown hK hP 1 rfl rfl 5 (by decide) (fl_Canvas_Grid_rows hB hW0) (fun _ h9 => h9) rfl d_Canvas_edgeOrCount_24 ?_
      exact pq_reti hx hb hr hlocks (by unfold fEoc; (repeat' split) <;> first | rfl | contradiction) hP hS d_Canvas_edgeOrCount_27
    · refine lv_aload_n hx hb d_Canvas_edgeOrCount_16 rfl (lv_at hl 1 rfl) ?_
      refine va_get (D := D) (ci := 1) (v := .int (g6 4)) (C := R_Grid) (T := F_Grid) (N := 6) hx hb (uw_Grid hB hW0) (fun _ h9 => h9) hown hK hP 1 rfl rfl 4 (by decide) (fl_Canvas_Grid_columns hB hW0) (fun _ h9 => h9) rfl d_Canvas_edgeOrCount_17 ?_
      refine lv_goto (tgt := 27) hx hb d_Canvas_edgeOrCount_20 (by decide) ?_
      exact pq_reti hx hb hr hlocks (by unfold fEoc; (repeat' split) <;> first | rfl | contradiction) hP hS d_Canvas_edgeOrCount_27
  · refine lv_aload_n hx hb d_Canvas_edgeOrCount_5 rfl (lv_at hl 0 rfl) ?_
    refine lv_iload_n hx hb d_Canvas_edgeOrCount_6 rfl (lv_at hl 2 rfl) ?_
    refine pq_ci (is := [0]) (wc := [(b, .inr (0, [.int (x 0), .int (x 1), .int (x 2), .int (x 3)]))]) (w1 := [(b, .inr (0, [.int (x 0), .int (x 1), .int (x 2), .int (x 3)]))]) (ws' := [(b, .inr (0, [.int (x 0), .int (x 1), .int (x 2), .int (x 3)])), (g, .inr (1, [.int (g6 0), .int (g6 1), .int (g6 2), .int (g6 3), .int (g6 4), .int (g6 5)]))]) (pq_runV (As := [.int q]) (rest := []) hx hb hml hown (v_Canvas_Box_edge hB hW0) (c_Box_edge hB b x q _) rfl rfl (by decide) (by decide) (pq_pre hW0 (hSA.now hS) hP hD [0] (by decide) rfl) (va_recv hK hP (ci := 0) (q0 := 0) rfl rfl) hl rfl (Nat.le_of_ble_eq_true rfl) d_Canvas_edgeOrCount_7 ⟨Nat.le_of_ble_eq_true rfl, Nat.le_of_ble_eq_true rfl⟩) hP hD hS hA rfl rfl rfl (ad := [b, g]) rfl rfl (fun H locs hP hD hS => ?_)
    exact pq_reti hx hb hr hlocks (by unfold fEoc; (repeat' split) <;> first | rfl | contradiction) hP hS d_Canvas_edgeOrCount_10
set_option maxHeartbeats 4000000 in
set_option maxRecDepth 100000 in
theorem c_Comp_blockWidthAt {l : Launch} {s0 : State} {a0 : Array Value} {D : va_G} {cI cL cC : ClassId} (hB : pq_B l s0 a0 D cI cL cC) (k : Nat) (pa : Nat) (qa : Nat) (dx : Int32) (dy : Int32) (lv : Int32) (bw : Int32) (bh : Int32) (pf : Nat → Int32) (qf : Nat → Int32) (q : Int32) (sz : Nat) (hq : vp_in q 33) : Met l y_Comp_blockWidthAt [.code y_Comp_blockWidthAt b_Comp_blockWidthAt 2 (some .int)] (pq_rm 2 0 0) (va_Pc [.ref k, .int q] (pq_Pre classes s0 D [(k, .inr (2, [.int dx, .int dy, .int lv, .int bw, .int bh, .ref pa, .ref qa])), (pa, .inl (cI, 33, .inl pf)), (qa, .inl (cI, 33, .inl qf))] sz)) (va_Qi (fun r (_ : Unit) => r = (fBW bw pf q)) (fun _ t9 => va_P D classes [(k, .inr (2, [.int dx, .int dy, .int lv, .int bw, .int bh, .ref pa, .ref qa])), (pa, .inl (cI, 33, .inl pf)), (qa, .inl (cI, 33, .inl qf))] t9.heap) (va_A [(k, .inr (2, [.int dx, .int dy, .int lv, .int bw, .int bh, .ref pa, .ref qa])), (pa, .inl (cI, 33, .inl pf)), (qa, .inl (cI, 33, .inl qf))] sz)) 0 0 (va_A [(k, .inr (2, [.int dx, .int dy, .int lv, .int bw, .int bh, .ref pa, .ref qa])), (pa, .inl (cI, 33, .inl pf)), (qa, .inl (cI, 33, .inl qf))] sz) := by
  refine pq_ofW (Qf := fun A => va_Qi (fun r (_ : Unit) => r = (fBW bw pf q)) (fun _ t9 => va_P D classes [(k, .inr (2, [.int dx, .int dy, .int lv, .int bw, .int bh, .ref pa, .ref qa])), (pa, .inl (cI, 33, .inl pf)), (qa, .inl (cI, 33, .inl qf))] t9.heap) A) (by decide) (Nat.le_of_ble_eq_true rfl) ?_
  intro p e s m below meth c A ls hx hb hr hlocks hml hname hown hW0 hSA hsz hA hP hD hS hl
  have hown : s.vm.findClass R_Comp = some m.cls := hown
  have hK := hB.2.2.moved hW0.alike
  have hl : lv_has ls 2 [(0, .ref k), (1, .int q)] := hl
  refine lv_aload_n hx hb d_Comp_blockWidthAt_0 rfl (lv_at hl 0 rfl) ?_
  refine va_get (D := D) (ci := 2) (v := .int bw) (C := R_Comp) (T := F_Comp) (N := 7) hx hb (uw_Comp hB hW0) (fun _ h9 => h9) hown hK hP 0 rfl rfl 3 (by decide) (fl_Comp_Comp_blockW hB hW0) (fun _ h9 => h9) rfl d_Comp_blockWidthAt_1 ?_
  refine lv_aload_n hx hb d_Comp_blockWidthAt_4 rfl (lv_at hl 0 rfl) ?_
  refine va_get (D := D) (ci := 2) (v := .ref pa) (C := R_Comp) (T := F_Comp) (N := 7) hx hb (uw_Comp hB hW0) (fun _ h9 => h9) hown hK hP 0 rfl rfl 5 (by decide) (fl_Comp_Comp_precinctW hB hW0) (fun _ h9 => h9) rfl d_Comp_blockWidthAt_5 ?_
  refine lv_iload_n hx hb d_Comp_blockWidthAt_8 rfl (lv_at hl 1 rfl) ?_
  refine va_iald hx hb hK hP 1 0 rfl rfl hq d_Comp_blockWidthAt_9 ?_
  refine lv_iload_n hx hb d_Comp_blockWidthAt_10 rfl (lv_at hl 1 rfl) ?_
  refine pq_ci (is := []) (wc := []) (w1 := []) (ws' := [(k, .inr (2, [.int dx, .int dy, .int lv, .int bw, .int bh, .ref pa, .ref qa])), (pa, .inl (cI, 33, .inl pf)), (qa, .inl (cI, 33, .inl qf))]) (pq_runSN (As := [.int q]) (rest := [.int (pf q.toNatClampNeg), .int bw]) hx hb hml hown (v_Comp_Canvas_halvingsOfBand hB hW0) (c_Canvas_halvingsOfBand hB q _) rfl rfl (by decide) (by decide) (pq_pre hW0 (hSA.now hS) hP hD [] (by decide) rfl) hl rfl (Nat.le_of_ble_eq_true rfl) d_Comp_blockWidthAt_11 ⟨Nat.le_of_ble_eq_true rfl, Nat.le_of_ble_eq_true rfl⟩) hP hD hS hA rfl rfl rfl (ad := [k, pa, qa]) rfl rfl (fun H locs hP hD hS => ?_)
  refine lv_isub hx hb d_Comp_blockWidthAt_14 ?_
  refine pq_mmin hx hb hml hl hown (mm_Comp_min hB hW0) (Nat.le_of_ble_eq_true rfl) (Nat.le_of_ble_eq_true rfl) (Nat.le_of_ble_eq_true rfl) (Nat.le_of_ble_eq_true rfl) d_Comp_blockWidthAt_15 ?_
  exact pq_reti hx hb hr hlocks (by unfold fBW; (repeat' split) <;> first | rfl | contradiction) hP hS d_Comp_blockWidthAt_18
set_option maxHeartbeats 4000000 in
set_option maxRecDepth 100000 in
theorem c_Comp_blockHeightAt {l : Launch} {s0 : State} {a0 : Array Value} {D : va_G} {cI cL cC : ClassId} (hB : pq_B l s0 a0 D cI cL cC) (k : Nat) (pa : Nat) (qa : Nat) (dx : Int32) (dy : Int32) (lv : Int32) (bw : Int32) (bh : Int32) (pf : Nat → Int32) (qf : Nat → Int32) (q : Int32) (sz : Nat) (hq : vp_in q 33) : Met l y_Comp_blockHeightAt [.code y_Comp_blockHeightAt b_Comp_blockHeightAt 2 (some .int)] (pq_rm 2 0 0) (va_Pc [.ref k, .int q] (pq_Pre classes s0 D [(k, .inr (2, [.int dx, .int dy, .int lv, .int bw, .int bh, .ref pa, .ref qa])), (pa, .inl (cI, 33, .inl pf)), (qa, .inl (cI, 33, .inl qf))] sz)) (va_Qi (fun r (_ : Unit) => r = (fBW bh qf q)) (fun _ t9 => va_P D classes [(k, .inr (2, [.int dx, .int dy, .int lv, .int bw, .int bh, .ref pa, .ref qa])), (pa, .inl (cI, 33, .inl pf)), (qa, .inl (cI, 33, .inl qf))] t9.heap) (va_A [(k, .inr (2, [.int dx, .int dy, .int lv, .int bw, .int bh, .ref pa, .ref qa])), (pa, .inl (cI, 33, .inl pf)), (qa, .inl (cI, 33, .inl qf))] sz)) 0 0 (va_A [(k, .inr (2, [.int dx, .int dy, .int lv, .int bw, .int bh, .ref pa, .ref qa])), (pa, .inl (cI, 33, .inl pf)), (qa, .inl (cI, 33, .inl qf))] sz) := by
  refine pq_ofW (Qf := fun A => va_Qi (fun r (_ : Unit) => r = (fBW bh qf q)) (fun _ t9 => va_P D classes [(k, .inr (2, [.int dx, .int dy, .int lv, .int bw, .int bh, .ref pa, .ref qa])), (pa, .inl (cI, 33, .inl pf)), (qa, .inl (cI, 33, .inl qf))] t9.heap) A) (by decide) (Nat.le_of_ble_eq_true rfl) ?_
  intro p e s m below meth c A ls hx hb hr hlocks hml hname hown hW0 hSA hsz hA hP hD hS hl
  have hown : s.vm.findClass R_Comp = some m.cls := hown
  have hK := hB.2.2.moved hW0.alike
  have hl : lv_has ls 2 [(0, .ref k), (1, .int q)] := hl
  refine lv_aload_n hx hb d_Comp_blockHeightAt_0 rfl (lv_at hl 0 rfl) ?_
  refine va_get (D := D) (ci := 2) (v := .int bh) (C := R_Comp) (T := F_Comp) (N := 7) hx hb (uw_Comp hB hW0) (fun _ h9 => h9) hown hK hP 0 rfl rfl 4 (by decide) (fl_Comp_Comp_blockH hB hW0) (fun _ h9 => h9) rfl d_Comp_blockHeightAt_1 ?_
  refine lv_aload_n hx hb d_Comp_blockHeightAt_4 rfl (lv_at hl 0 rfl) ?_
  refine va_get (D := D) (ci := 2) (v := .ref qa) (C := R_Comp) (T := F_Comp) (N := 7) hx hb (uw_Comp hB hW0) (fun _ h9 => h9) hown hK hP 0 rfl rfl 6 (by decide) (fl_Comp_Comp_precinctH hB hW0) (fun _ h9 => h9) rfl d_Comp_blockHeightAt_5 ?_
  refine lv_iload_n hx hb d_Comp_blockHeightAt_8 rfl (lv_at hl 1 rfl) ?_
  refine va_iald hx hb hK hP 2 0 rfl rfl hq d_Comp_blockHeightAt_9 ?_
  refine lv_iload_n hx hb d_Comp_blockHeightAt_10 rfl (lv_at hl 1 rfl) ?_
  refine pq_ci (is := []) (wc := []) (w1 := []) (ws' := [(k, .inr (2, [.int dx, .int dy, .int lv, .int bw, .int bh, .ref pa, .ref qa])), (pa, .inl (cI, 33, .inl pf)), (qa, .inl (cI, 33, .inl qf))]) (pq_runSN (As := [.int q]) (rest := [.int (qf q.toNatClampNeg), .int bh]) hx hb hml hown (v_Comp_Canvas_halvingsOfBand hB hW0) (c_Canvas_halvingsOfBand hB q _) rfl rfl (by decide) (by decide) (pq_pre hW0 (hSA.now hS) hP hD [] (by decide) rfl) hl rfl (Nat.le_of_ble_eq_true rfl) d_Comp_blockHeightAt_11 ⟨Nat.le_of_ble_eq_true rfl, Nat.le_of_ble_eq_true rfl⟩) hP hD hS hA rfl rfl rfl (ad := [k, pa, qa]) rfl rfl (fun H locs hP hD hS => ?_)
  refine lv_isub hx hb d_Comp_blockHeightAt_14 ?_
  refine pq_mmin hx hb hml hl hown (mm_Comp_min hB hW0) (Nat.le_of_ble_eq_true rfl) (Nat.le_of_ble_eq_true rfl) (Nat.le_of_ble_eq_true rfl) (Nat.le_of_ble_eq_true rfl) d_Comp_blockHeightAt_15 ?_
  exact pq_reti hx hb hr hlocks (by unfold fBW; (repeat' split) <;> first | rfl | contradiction) hP hS d_Comp_blockHeightAt_18
