theorem lw_head {i L : Nat} (hL : L ≤ 4096) (hiL : i ≤ L) (h : ¬ Int32.ofNat L - 8 < nI i) : i + 8 ≤ L := by
  by_cases h8 : 8 ≤ L
  · have e : Int32.ofNat L - 8 = nI (L - 8) := pk_sub (a := L) (b := 8) h8
    rw [e, nI_ltI (by omega) (by omega)] at h
    omega
  · exfalso
    apply h
    have k : ∀ L : Nat, L < 8 → Int32.ofNat L - 8 < 0 := by decide
    have k1 := k L (by omega)
    rw [mb_lt] at k1 ⊢
    rw [nI_toInt (by omega)]
    rw [t_0] at k1
    omega
theorem lw_inc (i : Nat) : nI i + Int32.ofInt 8 = nI (i + 8) := by
  rw [show Int32.ofInt 8 = nI 8 by decide, nI_add]
set_option maxHeartbeats 4000000 in
set_option maxRecDepth 100000 in
theorem law_loop {l : Launch} {s0 : State} {a0 : Array Value} {D : va_G} {cI cL cC : ClassId} (hB : pq_B l s0 a0 D cI cL cC) (hX : pq_BX s0) (hN : pq_BN s0) {b L : Nat} {xs : Nat → Int32} {p : Program} {e : Env} {s : State} {m : MethodId} {below : List Frame} {meth : Method} {c : Code} {A : Nat → Prop} {Q : State → Prop} (hx : p.tables.exec = Jvm.exec) (hb : c.code = code) (hml : c.maxLocals = 7) (hown : s.vm.findClass R_Law = some m.cls) (hW0 : s0.WarmedH s.vm) (hSA : pq_StA s0 s A) (hA : ∀ q : Nat, s.heap.size ≤ q → A q) (hXs : va_X b L xs s s.heap) (hbl : b < s.heap.size) (hbA : ¬ A b) (hL : L ≤ 4096) (cv mo oa : Nat)
    (done : ∀ (c9 s9 : Nat) (H : Heap) (locs : List Loc) (ls : Array Slot), c9 ≤ 13000 → s9 ≤ 302000 → va_S A s.heap H locs → W p l e room_1 s m #[Value.ref b] below meth c H locs c9 s9 Q (F0 m 1376 ls [])) :
    ∀ (d i cells slots : Nat) (H : Heap) (locs : List Loc) (ls : Array Slot), L - i < d → i ≤ L → cells ≤ 3 * i + 100 → slots ≤ 73 * i + 2000 → LwS D cI cL cC A s.heap b cv mo oa i H locs ls → W p l e room_1 s m #[Value.ref b] below meth c H locs cells slots Q (F0 m 23 ls []) := by
  intro d
  induction d with
  | zero =>
    intro i cells slots H locs ls h
    omega
  | succ d ih =>
    intro i cells slots H locs ls hd hiL hcs hss hLS
    have hLS0 := hLS
    obtain ⟨pic, tg, ca, n, tb, pb, lb, bb, cb, sb, pg, bg, cf, x, g6, u, a1, a2, a3, a4, a5, a6, a7, th, pk, nc, pp, gg, ee, f1, f2, f3, f4, f5, f6, f7, of, cs, hRel, hCI, hP, hD, hS, hl⟩ := hLS0
    refine lv_iload hx hb d_law_23 (lv_at hl 4 rfl) ?_
    refine lv_aload_n hx hb d_law_25 rfl (lv_at hl 0 rfl) ?_
    refine va_slen hx hb hXs hbl hbA hS d_law_26 ?_
    refine lv_bipush (v := 8) hx hb d_law_27 (by decide) ?_
    refine lv_isub hx hb d_law_29 ?_
    refine lv_icmp_gt (tgt := 1376) hx hb d_law_30 (by decide) (fun hgt => ?_) (fun hle => ?_)
    · exact done cells slots H locs ls (by omega) (by omega) hS
    · have hi : i + 8 ≤ L := lw_head hL hiL hle
      have hc9 : cells + 3 ≤ room_1.cells := by
        show cells + 3 ≤ 601024
        omega
      have hs9 : slots + 73 ≤ room_1.slots := by
        show slots + 73 ≤ 7293034
        omega
      have kk : ∀ (c9 s9 : Nat) (H : Heap) (locs : List Loc) (ls : Array Slot), c9 ≤ cells + 3 → s9 ≤ slots + 73 → LwS D cI cL cC A s.heap b cv mo oa i H locs ls → W p l e room_1 s m #[Value.ref b] below meth c H locs c9 s9 Q (F0 m 1370 ls []) := by
        intro c9 s9 H locs ls h1 h2 hLS
        obtain ⟨pic, tg, ca, n, tb, pb, lb, bb, cb, sb, pg, bg, cf, x, g6, u, a1, a2, a3, a4, a5, a6, a7, th, pk, nc, pp, gg, ee, f1, f2, f3, f4, f5, f6, f7, of, cs, hRel, hCI, hP, hD, hS, hl⟩ := hLS
        refine lv_iinc (v := nI (i + 8)) (lv' := [(4, .int (nI (i + 8))), (0, .ref b), (1, .ref cv), (2, .ref mo), (3, .ref oa)]) (k := 4) hx hb d_law_1370 hl rfl (lw_inc i) (by decide) rfl (fun ls hl => ?_)
        refine lv_goto (tgt := 23) hx hb d_law_1373 (by decide) ?_
        exact ih (i + 8) c9 s9 H locs ls (by omega) (by omega) (by omega) (by omega) ⟨pic, tg, ca, n, tb, pb, lb, bb, cb, sb, pg, bg, cf, x, g6, u, a1, a2, a3, a4, a5, a6, a7, th, pk, nc, pp, gg, ee, f1, f2, f3, f4, f5, f6, f7, of, cs, hRel, hCI, hP, hD, hS, lv_sub hl [1, 2, 3, 4, 0] rfl⟩
      refine lv_aload_n hx hb d_law_33 rfl (lv_at hl 0 rfl) ?_
      refine lv_iload hx hb d_law_34 (lv_at hl 4 rfl) ?_
      refine va_sld hx hb hXs hbl hbA hS (vp_in_nI (by omega) (by omega)) d_law_36 ?_
      refine lv_bipush (v := 15) hx hb d_law_37 (by decide) ?_
      refine lv_iand hx hb d_law_39 ?_
      obtain ⟨j, hj, ej⟩ := pk_andE (xs (nI i).toNatClampNeg) (m := 15) 4 (by decide)
      refine pq_topi ej ?_
      have hj : j < 16 := hj
      rcases (show j = 0 ∨ j = 1 ∨ j = 2 ∨ j = 3 ∨ j = 4 ∨ j = 5 ∨ j = 6 ∨ j = 7 ∨ j = 8 ∨ j = 9 ∨ j = 10 ∨ j = 11 ∨ j = 12 ∨ j = 13 ∨ 14 ≤ j by omega) with rfl | rfl | rfl | rfl | rfl | rfl | rfl | rfl | rfl | rfl | rfl | rfl | rfl | rfl | h14
      · exact lv_tableIn (tgt := 112) (off := 72) hx hb d_law_40 (by decide) (by decide) rfl (by decide) (op_area hB hX hN hx hb hml hown hW0 hSA hA hXs hbl hbA hi hL hc9 hs9 cv mo oa kk H locs ls hLS)
      · exact lv_tableIn (tgt := 184) (off := 144) hx hb d_law_40 (by decide) (by decide) rfl (by decide) (op_tiles hB hX hN hx hb hml hown hW0 hSA hA hXs hbl hbA hi hL hc9 hs9 cv mo oa kk H locs ls hLS)
      · exact lv_tableIn (tgt := 276) (off := 236) hx hb d_law_40 (by decide) (by decide) rfl (by decide) (op_component hB hX hN hx hb hml hown hW0 hSA hA hXs hbl hbA hi hL hc9 hs9 cv mo oa kk H locs ls hLS)
      · exact lv_tableIn (tgt := 344) (off := 304) hx hb d_law_40 (by decide) (by decide) rfl (by decide) (op_coding hB hX hN hx hb hml hown hW0 hSA hA hXs hbl hbA hi hL hc9 hs9 cv mo oa kk H locs ls hLS)
      · exact lv_tableIn (tgt := 416) (off := 376) hx hb d_law_40 (by decide) (by decide) rfl (by decide) (op_precincts hB hX hN hx hb hml hown hW0 hSA hA hXs hbl hbA hi hL hc9 hs9 cv mo oa kk H locs ls hLS)
      · exact lv_tableIn (tgt := 488) (off := 448) hx hb d_law_40 (by decide) (by decide) rfl (by decide) (op_tile hB hX hN hx hb hml hown hW0 hSA hA hXs hbl hbA hi hL hc9 hs9 cv mo oa kk H locs ls hLS)
      · exact lv_tableIn (tgt := 556) (off := 516) hx hb d_law_40 (by decide) (by decide) rfl (by decide) (op_part hB hX hN hx hb hml hown hW0 hSA hA hXs hbl hbA hi hL hc9 hs9 cv mo oa kk H locs ls hLS)
      · exact lv_tableIn (tgt := 636) (off := 596) hx hb d_law_40 (by decide) (by decide) rfl (by decide) (op_level hB hX hN hx hb hml hown hW0 hSA hA hXs hbl hbA hi hL hc9 hs9 cv mo oa kk H locs ls hLS)
      · exact lv_tableIn (tgt := 728) (off := 688) hx hb d_law_40 (by decide) (by decide) rfl (by decide) (op_band hB hX hN hx hb hml hown hW0 hSA hA hXs hbl hbA hi hL hc9 hs9 cv mo oa kk H locs ls hLS)
      · exact lv_tableIn (tgt := 832) (off := 792) hx hb d_law_40 (by decide) (by decide) rfl (by decide) (op_precinct hB hX hN hx hb hml hown hW0 hSA hA hXs hbl hbA hi hL hc9 hs9 cv mo oa kk H locs ls hLS)
      · exact lv_tableIn (tgt := 936) (off := 896) hx hb d_law_40 (by decide) (by decide) rfl (by decide) (op_share hB hX hN hx hb hml hown hW0 hSA hA hXs hbl hbA hi hL hc9 hs9 cv mo oa kk H locs ls hLS)
      · exact lv_tableIn (tgt := 1054) (off := 1014) hx hb d_law_40 (by decide) (by decide) rfl (by decide) (op_block hB hX hN hx hb hml hown hW0 hSA hA hXs hbl hbA hi hL hc9 hs9 cv mo oa kk H locs ls hLS)
      · exact lv_tableIn (tgt := 1186) (off := 1146) hx hb d_law_40 (by decide) (by decide) rfl (by decide) (op_where hB hX hN hx hb hml hown hW0 hSA hA hXs hbl hbA hi hL hc9 hs9 cv mo oa kk H locs ls hLS)
      · exact lv_tableIn (tgt := 1266) (off := 1226) hx hb d_law_40 (by decide) (by decide) rfl (by decide) (op_coefficient hB hX hN hx hb hml hown hW0 hSA hA hXs hbl hbA hi hL hc9 hs9 cv mo oa kk H locs ls hLS)
      · exact lv_tableOut (tgt := 1370) hx hb d_law_40 (Or.inr (by rw [nI_toInt (by omega)]; omega)) (by decide) (kk cells slots H locs ls (by omega) (by omega) hLS)
