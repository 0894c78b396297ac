set_option maxHeartbeats 4000000 in
set_option maxRecDepth 100000 in
theorem op_area {l : Launch} {s0 : State} {a0 : Array Value} {D : va_G} {cI cL cC : ClassId} (hB : pq_B l s0 a0 D cI cL cC) (hX : pq_BX s0) (hN : pq_BN s0) {b L i : Nat} {xs : Nat → Int32} {p : Program} {e : Env} {s : State} {m : MethodId} {below : List Frame} {meth : Method} {c : Code} {A : Nat → Prop} {Q : State → Prop} {cells slots : Nat} (hx : p.tables.exec = Jvm.exec) (hb : c.code = code) (hml : c.maxLocals = 7) (hown : s.vm.findClass R_Law = some m.cls) (hW0 : s0.WarmedH s.vm) (hSA : pq_StA s0 s A) (hA : ∀ q : Nat, s.heap.size ≤ q → A q) (hXs : va_X b L xs s s.heap) (hbl : b < s.heap.size) (hbA : ¬ A b) (hi : i + 8 ≤ L) (hL : L ≤ 4096) (hc9 : cells + 3 ≤ room_1.cells) (hs9 : slots + 73 ≤ room_1.slots) (cv mo oa : Nat)
    (kk : ∀ (c9 s9 : Nat) (H : Heap) (locs : List Loc) (ls : Array Slot), c9 ≤ cells + 3 → s9 ≤ slots + 73 → LwS D cI cL cC A s.heap b cv mo oa i H locs ls → W p l e room_1 s m #[Value.ref b] below meth c H locs c9 s9 Q (F0 m 1370 ls [])) :
    ∀ (H : Heap) (locs : List Loc) (ls : Array Slot), LwS D cI cL cC A s.heap b cv mo oa i H locs ls → W p l e room_1 s m #[Value.ref b] below meth c H locs cells slots Q (F0 m 112 ls []) := by
  intro H locs ls hLS
  obtain ⟨pic, tg, ca, n, tb, pb, lb, bb, cb, sb, pg, bg, cf, x, g6, u, a1, a2, a3, a4, a5, a6, a7, th, pk, nc, pp, gg, ee, f1, f2, f3, f4, f5, f6, f7, of, cs, hRel, hCI, hP, hD, hS, hl⟩ := hLS
  have hI := mI_of hRel hCI
  have hcn : nc = n := hCI.2.1
  obtain ⟨z1, hz1⟩ : ∃ z : Int32, xs (nI i + 1).toNatClampNeg = z := ⟨_, rfl⟩
  obtain ⟨z2, hz2⟩ : ∃ z : Int32, xs (nI i + 2).toNatClampNeg = z := ⟨_, rfl⟩
  obtain ⟨z3, hz3⟩ : ∃ z : Int32, xs (nI i + 3).toNatClampNeg = z := ⟨_, rfl⟩
  obtain ⟨z4, hz4⟩ : ∃ z : Int32, xs (nI i + 4).toNatClampNeg = z := ⟨_, rfl⟩
  have h01 : xArea z1 z2 z3 z4 = 0 ∨ xArea z1 z2 z3 z4 = 1 := by unfold xArea; (repeat' split) <;> simp
  rcases h01 with h | h
  · exact arm_area_0 hB hX hN cv pic tg ca n tb pb lb bb cb sb pg bg cf x g6 u mo a1 a2 a3 a4 a5 a6 a7 th pk nc pp gg ee f1 f2 f3 f4 f5 f6 f7 oa of z1 z2 z3 z4 h hI ((M_area z1 z2 z3 z4).symm.trans h) (crP cI cs) hx hb hml hown hW0 hSA hA hXs hbl hbA hi hL hc9 hs9 hz1 hz2 hz3 hz4 (fun u9 e9 o9 H locs ls hP hD hS hl => kk _ _ H locs ls (by omega) (by omega) ⟨pic, tg, ca, n, tb, pb, lb, bb, cb, sb, pg, bg, cf, fQuad z1 z2 z3 z4, gLay 0 0 z3 z4 (fQuad z1 z2 z3 z4), u9, a1, a2, a3, a4, a5, a6, a7, 0, 1, nc, fQuad z1 z2 z3 z4, fSix 0 0 z3 z4 1 1, e9, f1, f2, f3, f4, f5, f6, f7, o9, cs, (R_area h), hCI, hP, hD, hS, hl⟩) H locs ls hP hD hS hl
  · exact arm_area_1 hB hX hN cv pic tg ca n tb pb lb bb cb sb pg bg cf x g6 u mo a1 a2 a3 a4 a5 a6 a7 th pk nc pp gg ee f1 f2 f3 f4 f5 f6 f7 oa of z1 z2 z3 z4 h hI ((M_area z1 z2 z3 z4).symm.trans h) (crP cI cs) hx hb hml hown hW0 hSA hA hXs hbl hbA hi hL hc9 hs9 hz1 hz2 hz3 hz4 (fun u9 e9 o9 H locs ls hP hD hS hl => kk _ _ H locs ls (by omega) (by omega) ⟨pic, tg, ca, n, tb, pb, lb, bb, cb, sb, pg, bg, cf, x, g6, u9, a1, a2, a3, a4, a5, a6, a7, 1, pk, nc, pp, gg, e9, f1, f2, f3, f4, f5, f6, f7, o9, cs, hRel, hCI, hP, hD, hS, hl⟩) H locs ls hP hD hS hl
set_option maxHeartbeats 4000000 in
set_option maxRecDepth 100000 in
theorem op_tiles {l : Launch} {s0 : State} {a0 : Array Value} {D : va_G} {cI cL cC : ClassId} (hB : pq_B l s0 a0 D cI cL cC) (hX : pq_BX s0) (hN : pq_BN s0) {b L i : Nat} {xs : Nat → Int32} {p : Program} {e : Env} {s : State} {m : MethodId} {below : List Frame} {meth : Method} {c : Code} {A : Nat → Prop} {Q : State → Prop} {cells slots : Nat} (hx : p.tables.exec = Jvm.exec) (hb : c.code = code) (hml : c.maxLocals = 7) (hown : s.vm.findClass R_Law = some m.cls) (hW0 : s0.WarmedH s.vm) (hSA : pq_StA s0 s A) (hA : ∀ q : Nat, s.heap.size ≤ q → A q) (hXs : va_X b L xs s s.heap) (hbl : b < s.heap.size) (hbA : ¬ A b) (hi : i + 8 ≤ L) (hL : L ≤ 4096) (hc9 : cells + 3 ≤ room_1.cells) (hs9 : slots + 73 ≤ room_1.slots) (cv mo oa : Nat)
    (kk : ∀ (c9 s9 : Nat) (H : Heap) (locs : List Loc) (ls : Array Slot), c9 ≤ cells + 3 → s9 ≤ slots + 73 → LwS D cI cL cC A s.heap b cv mo oa i H locs ls → W p l e room_1 s m #[Value.ref b] below meth c H locs c9 s9 Q (F0 m 1370 ls [])) :
    ∀ (H : Heap) (locs : List Loc) (ls : Array Slot), LwS D cI cL cC A s.heap b cv mo oa i H locs ls → W p l e room_1 s m #[Value.ref b] below meth c H locs cells slots Q (F0 m 184 ls []) := by
  intro H locs ls hLS
  obtain ⟨pic, tg, ca, n, tb, pb, lb, bb, cb, sb, pg, bg, cf, x, g6, u, a1, a2, a3, a4, a5, a6, a7, th, pk, nc, pp, gg, ee, f1, f2, f3, f4, f5, f6, f7, of, cs, hRel, hCI, hP, hD, hS, hl⟩ := hLS
  have hI := mI_of hRel hCI
  have hcn : nc = n := hCI.2.1
  obtain ⟨z1, hz1⟩ : ∃ z : Int32, xs (nI i + 1).toNatClampNeg = z := ⟨_, rfl⟩
  obtain ⟨z2, hz2⟩ : ∃ z : Int32, xs (nI i + 2).toNatClampNeg = z := ⟨_, rfl⟩
  obtain ⟨z3, hz3⟩ : ∃ z : Int32, xs (nI i + 3).toNatClampNeg = z := ⟨_, rfl⟩
  obtain ⟨z4, hz4⟩ : ∃ z : Int32, xs (nI i + 4).toNatClampNeg = z := ⟨_, rfl⟩
  obtain ⟨e9, v9⟩ := M_tiles hRel z1 z2 z3 z4
  have h01 : xTiles x z1 z2 z3 z4 = 0 ∨ xTiles x z1 z2 z3 z4 = 1 ∨ xTiles x z1 z2 z3 z4 = 2 := by unfold xTiles; (repeat' split) <;> simp
  rcases h01 with h | h | h
  · obtain ⟨hpk, hg9, hR9⟩ := v9 h
    have hv9 : ((gLay z1 z2 z3 z4 x) 4) * ((gLay z1 z2 z3 z4 x) 5) = (mPcs z1 (pp 2) z3) * (mPcs z2 (pp 3) z4) := by rw [hg9]; rfl
    exact arm_tiles_0 hB hX hN cv pic tg ca n tb pb lb bb cb sb pg bg cf x g6 u mo a1 a2 a3 a4 a5 a6 a7 th pk nc pp gg ee f1 f2 f3 f4 f5 f6 f7 oa of z1 z2 z3 z4 h hI (e9.symm.trans h) hv9 (crP cI cs) hx hb hml hown hW0 hSA hA hXs hbl hbA hi hL hc9 hs9 hz1 hz2 hz3 hz4 (fun u9 e9 o9 H locs ls hP hD hS hl => kk _ _ H locs ls (by omega) (by omega) ⟨pic, tg, ca, n, tb, pb, lb, bb, cb, sb, pg, bg, cf, x, gLay z1 z2 z3 z4 x, u9, a1, a2, a3, a4, a5, a6, a7, 0, pk, nc, pp, fSix z1 z2 z3 z4 (mPcs z1 (pp 2) z3) (mPcs z2 (pp 3) z4), e9, f1, f2, f3, f4, f5, f6, f7, o9, cs, hR9, hCI, hP, hD, hS, hl⟩) H locs ls hP hD hS hl
  · exact arm_tiles_1 hB hX hN cv pic tg ca n tb pb lb bb cb sb pg bg cf x g6 u mo a1 a2 a3 a4 a5 a6 a7 th pk nc pp gg ee f1 f2 f3 f4 f5 f6 f7 oa of z1 z2 z3 z4 h hI (e9.symm.trans h) (crP cI cs) hx hb hml hown hW0 hSA hA hXs hbl hbA hi hL hc9 hs9 hz1 hz2 hz3 hz4 (fun u9 e9 o9 H locs ls hP hD hS hl => kk _ _ H locs ls (by omega) (by omega) ⟨pic, tg, ca, n, tb, pb, lb, bb, cb, sb, pg, bg, cf, x, g6, u9, a1, a2, a3, a4, a5, a6, a7, 1, pk, nc, pp, gg, e9, f1, f2, f3, f4, f5, f6, f7, o9, cs, hRel, hCI, hP, hD, hS, hl⟩) H locs ls hP hD hS hl
  · exact arm_tiles_2 hB hX hN cv pic tg ca n tb pb lb bb cb sb pg bg cf x g6 u mo a1 a2 a3 a4 a5 a6 a7 th pk nc pp gg ee f1 f2 f3 f4 f5 f6 f7 oa of z1 z2 z3 z4 h hI (e9.symm.trans h) (crP cI cs) hx hb hml hown hW0 hSA hA hXs hbl hbA hi hL hc9 hs9 hz1 hz2 hz3 hz4 (fun u9 e9 o9 H locs ls hP hD hS hl => kk _ _ H locs ls (by omega) (by omega) ⟨pic, tg, ca, n, tb, pb, lb, bb, cb, sb, pg, bg, cf, x, g6, u9, a1, a2, a3, a4, a5, a6, a7, 2, pk, nc, pp, gg, e9, f1, f2, f3, f4, f5, f6, f7, o9, cs, hRel, hCI, hP, hD, hS, hl⟩) H locs ls hP hD hS hl
set_option maxHeartbeats 4000000 in
set_option maxRecDepth 100000 in
theorem op_component {l : Launch} {s0 : State} {a0 : Array Value} {D : va_G} {cI cL cC : ClassId} (hB : pq_B l s0 a0 D cI cL cC) (hX : pq_BX s0) (hN : pq_BN s0) {b L i : Nat} {xs : Nat → Int32} {p : Program} {e : Env} {s : State} {m : MethodId} {below : List Frame} {meth : Method} {c : Code} {A : Nat → Prop} {Q : State → Prop} {cells slots : Nat} (hx : p.tables.exec = Jvm.exec) (hb : c.code = code) (hml : c.maxLocals = 7) (hown : s.vm.findClass R_Law = some m.cls) (hW0 : s0.WarmedH s.vm) (hSA : pq_StA s0 s A) (hA : ∀ q : Nat, s.heap.size ≤ q → A q) (hXs : va_X b L xs s s.heap) (hbl : b < s.heap.size) (hbA : ¬ A b) (hi : i + 8 ≤ L) (hL : L ≤ 4096) (hc9 : cells + 3 ≤ room_1.cells) (hs9 : slots + 73 ≤ room_1.slots) (cv mo oa : Nat)
    (kk : ∀ (c9 s9 : Nat) (H : Heap) (locs : List Loc) (ls : Array Slot), c9 ≤ cells + 3 → s9 ≤ slots + 73 → LwS D cI cL cC A s.heap b cv mo oa i H locs ls → W p l e room_1 s m #[Value.ref b] below meth c H locs c9 s9 Q (F0 m 1370 ls [])) :
    ∀ (H : Heap) (locs : List Loc) (ls : Array Slot), LwS D cI cL cC A s.heap b cv mo oa i H locs ls → W p l e room_1 s m #[Value.ref b] below meth c H locs cells slots Q (F0 m 276 ls []) := by
  intro H locs ls hLS
  obtain ⟨pic, tg, ca, n, tb, pb, lb, bb, cb, sb, pg, bg, cf, x, g6, u, a1, a2, a3, a4, a5, a6, a7, th, pk, nc, pp, gg, ee, f1, f2, f3, f4, f5, f6, f7, of, cs, hRel, hCI, hP, hD, hS, hl⟩ := hLS
  have hI := mI_of hRel hCI
  have hcn : nc = n := hCI.2.1
  obtain ⟨z1, hz1⟩ : ∃ z : Int32, xs (nI i + 1).toNatClampNeg = z := ⟨_, rfl⟩
  obtain ⟨z2, hz2⟩ : ∃ z : Int32, xs (nI i + 2).toNatClampNeg = z := ⟨_, rfl⟩
  have e9 := M_comp (n := n) hCI.1 hCI.2.2.1 z1 z2
  have hP := pq_permP (lw_turn _ _ _ _) hP
  have hD := pq_permD (lw_turn _ _ _ _) hD
  have hn0 : 0 ≤ n := by have h9 := hI.2.1; rw [hcn] at h9; exact h9
  have h01 : xComp z1 z2 n = 0 ∨ xComp z1 z2 n = 1 ∨ xComp z1 z2 n = 2 := by unfold xComp; (repeat' split) <;> simp
  rcases h01 with h | h | h
  · exact arm_component_0 hB hX hN cv pic tg ca n tb pb lb bb cb sb pg bg cf x g6 u mo a1 a2 a3 a4 a5 a6 a7 th pk nc pp gg ee f1 f2 f3 f4 f5 f6 f7 oa of z1 z2 hn0 h hI (by rw [hcn]; exact e9.symm.trans h) (by rw [hcn, Int32.add_sub_cancel]) (crP cI cs) hx hb hml hown hW0 hSA hA hXs hbl hbA hi hL hc9 hs9 hz1 hz2 (fun z9 e9 o9 H locs ls hP hD hS hl => kk _ _ H locs ls (by omega) (by omega) ⟨pic, tg, ca, n + 1, tb, pb, lb, bb, cb, sb, pg, bg, va_up cf n.toNatClampNeg (some (z9 0)), x, g6, u, a1, a2, a3, a4, a5, a6, a7, 0, pk, nc + 1, pp, gg, e9, upd f1 nc.toNatClampNeg z1, upd f2 nc.toNatClampNeg z2, upd f3 nc.toNatClampNeg 0, upd f4 nc.toNatClampNeg 6, upd f5 nc.toNatClampNeg 6, mFill f6 nc 33, mFill f7 nc 33, o9, cs ++ [(z9 0, z9 1, z9 2, z1, z2, 0, 6, 6, (fun _ => 15), (fun _ => 15))], hRel, (CI_add hCI h), (pq_permP (lw_add cI _ _ _ (z9 0, z9 1, z9 2, z1, z2, 0, 6, 6, (fun _ => 15), (fun _ => 15)) cs) hP), (pq_permD (lw_add cI _ _ _ (z9 0, z9 1, z9 2, z1, z2, 0, 6, 6, (fun _ => 15), (fun _ => 15)) cs) hD), hS, hl⟩) H locs ls hP hD hS hl
  · exact arm_component_1 hB hX hN cv pic tg ca n tb pb lb bb cb sb pg bg cf x g6 u mo a1 a2 a3 a4 a5 a6 a7 th pk nc pp gg ee f1 f2 f3 f4 f5 f6 f7 oa of z1 z2 hn0 h hI (by rw [hcn]; exact e9.symm.trans h) (crP cI cs) hx hb hml hown hW0 hSA hA hXs hbl hbA hi hL hc9 hs9 hz1 hz2 (fun u9 e9 o9 H locs ls hP hD hS hl => kk _ _ H locs ls (by omega) (by omega) ⟨pic, tg, ca, n, tb, pb, lb, bb, cb, sb, pg, bg, cf, x, g6, u9, a1, a2, a3, a4, a5, a6, a7, 1, pk, nc, pp, gg, e9, f1, f2, f3, f4, f5, f6, f7, o9, cs, hRel, hCI, (pq_permP (lw_turn _ _ _ _) hP), (pq_permD (lw_turn _ _ _ _) hD), hS, hl⟩) H locs ls hP hD hS hl
  · exact arm_component_2 hB hX hN cv pic tg ca n tb pb lb bb cb sb pg bg cf x g6 u mo a1 a2 a3 a4 a5 a6 a7 th pk nc pp gg ee f1 f2 f3 f4 f5 f6 f7 oa of z1 z2 hn0 h hI (by rw [hcn]; exact e9.symm.trans h) (crP cI cs) hx hb hml hown hW0 hSA hA hXs hbl hbA hi hL hc9 hs9 hz1 hz2 (fun u9 e9 o9 H locs ls hP hD hS hl => kk _ _ H locs ls (by omega) (by omega) ⟨pic, tg, ca, n, tb, pb, lb, bb, cb, sb, pg, bg, cf, x, g6, u9, a1, a2, a3, a4, a5, a6, a7, 2, pk, nc, pp, gg, e9, f1, f2, f3, f4, f5, f6, f7, o9, cs, hRel, hCI, (pq_permP (lw_turn _ _ _ _) hP), (pq_permD (lw_turn _ _ _ _) hD), hS, hl⟩) H locs ls hP hD hS hl
set_option maxHeartbeats 4000000 in
set_option maxRecDepth 100000 in
theorem op_tile {l : Launch} {s0 : State} {a0 : Array Value} {D : va_G} {cI cL cC : ClassId} (hB : pq_B l s0 a0 D cI cL cC) (hX : pq_BX s0) (hN : pq_BN s0) {b L i : Nat} {xs : Nat → Int32} {p : Program} {e : Env} {s : State} {m : MethodId} {below : List Frame} {meth : Method} {c : Code} {A : Nat → Prop} {Q : State → Prop} {cells slots : Nat} (hx : p.tables.exec = Jvm.exec) (hb : c.code = code) (hml : c.maxLocals = 7) (hown : s.vm.findClass R_Law = some m.cls) (hW0 : s0.WarmedH s.vm) (hSA : pq_StA s0 s A) (hA : ∀ q : Nat, s.heap.size ≤ q → A q) (hXs : va_X b L xs s s.heap) (hbl : b < s.heap.size) (hbA : ¬ A b) (hi : i + 8 ≤ L) (hL : L ≤ 4096) (hc9 : cells + 3 ≤ room_1.cells) (hs9 : slots + 73 ≤ room_1.slots) (cv mo oa : Nat)
    (kk : ∀ (c9 s9 : Nat) (H : Heap) (locs : List Loc) (ls : Array Slot), c9 ≤ cells + 3 → s9 ≤ slots + 73 → LwS D cI cL cC A s.heap b cv mo oa i H locs ls → W p l e room_1 s m #[Value.ref b] below meth c H locs c9 s9 Q (F0 m 1370 ls [])) :
    ∀ (H : Heap) (locs : List Loc) (ls : Array Slot), LwS D cI cL cC A s.heap b cv mo oa i H locs ls → W p l e room_1 s m #[Value.ref b] below meth c H locs cells slots Q (F0 m 488 ls []) := by
  intro H locs ls hLS
  obtain ⟨pic, tg, ca, n, tb, pb, lb, bb, cb, sb, pg, bg, cf, x, g6, u, a1, a2, a3, a4, a5, a6, a7, th, pk, nc, pp, gg, ee, f1, f2, f3, f4, f5, f6, f7, of, cs, hRel, hCI, hP, hD, hS, hl⟩ := hLS
  have hI := mI_of hRel hCI
  have hcn : nc = n := hCI.2.1
  obtain ⟨z1, hz1⟩ : ∃ z : Int32, xs (nI i + 1).toNatClampNeg = z := ⟨_, rfl⟩
  obtain ⟨z2, hz2⟩ : ∃ z : Int32, xs (nI i + 2).toNatClampNeg = z := ⟨_, rfl⟩
  obtain ⟨e9, v9⟩ := M_tile hRel z1 z2
  have h01 : xTile g6 z1 z2 = 0 ∨ xTile g6 z1 z2 = 1 := by unfold xTile; (repeat' split) <;> simp
  rcases h01 with h | h
  · exact arm_tile_0 hB hX hN cv pic tg ca n tb pb lb bb cb sb pg bg cf x g6 u mo a1 a2 a3 a4 a5 a6 a7 th pk nc pp gg ee f1 f2 f3 f4 f5 f6 f7 oa of z1 z2 h hI (e9.symm.trans h) (v9 h) (crP cI cs) hx hb hml hown hW0 hSA hA hXs hbl hbA hi hL hc9 hs9 hz1 hz2 (fun u9 e9 o9 H locs ls hP hD hS hl => kk _ _ H locs ls (by omega) (by omega) ⟨pic, tg, ca, n, tb, pb, lb, bb, cb, sb, pg, bg, cf, x, g6, u9, a1, a2, a3, a4, a5, a6, a7, 0, pk, nc, pp, gg, e9, f1, f2, f3, f4, f5, f6, f7, o9, cs, hRel, hCI, hP, hD, hS, hl⟩) H locs ls hP hD hS hl
  · exact arm_tile_1 hB hX hN cv pic tg ca n tb pb lb bb cb sb pg bg cf x g6 u mo a1 a2 a3 a4 a5 a6 a7 th pk nc pp gg ee f1 f2 f3 f4 f5 f6 f7 oa of z1 z2 h hI (e9.symm.trans h) (crP cI cs) hx hb hml hown hW0 hSA hA hXs hbl hbA hi hL hc9 hs9 hz1 hz2 (fun u9 e9 o9 H locs ls hP hD hS hl => kk _ _ H locs ls (by omega) (by omega) ⟨pic, tg, ca, n, tb, pb, lb, bb, cb, sb, pg, bg, cf, x, g6, u9, a1, a2, a3, a4, a5, a6, a7, 1, pk, nc, pp, gg, e9, f1, f2, f3, f4, f5, f6, f7, o9, cs, hRel, hCI, hP, hD, hS, hl⟩) H locs ls hP hD hS hl
