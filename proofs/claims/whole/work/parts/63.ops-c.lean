set_option maxHeartbeats 4000000 in
set_option maxRecDepth 100000 in
theorem op_precinct {l : Launch} {s0 : State} {a0 : Array Value} {D : va_G} {cI cL cC : ClassId} (hB : pq_B l s0 a0 D cI cL cC) (hX : pq_BX s0) (hN : pq_BN s0) {b L i : Nat} {xs : Nat → Int32} {p : Program} {e : Env} {s : State} {m : MethodId} {below : List Frame} {meth : Method} {c : Code} {A : Nat → Prop} {Q : State → Prop} {cells slots : Nat} (hx : p.tables.exec = Jvm.exec) (hb : c.code = code) (hml : c.maxLocals = 7) (hown : s.vm.findClass R_Law = some m.cls) (hW0 : s0.WarmedH s.vm) (hSA : pq_StA s0 s A) (hA : ∀ q : Nat, s.heap.size ≤ q → A q) (hXs : va_X b L xs s s.heap) (hbl : b < s.heap.size) (hbA : ¬ A b) (hi : i + 8 ≤ L) (hL : L ≤ 4096) (hc9 : cells + 3 ≤ room_1.cells) (hs9 : slots + 73 ≤ room_1.slots) (cv mo oa : Nat)
    (kk : ∀ (c9 s9 : Nat) (H : Heap) (locs : List Loc) (ls : Array Slot), c9 ≤ cells + 3 → s9 ≤ slots + 73 → LwS D cI cL cC A s.heap b cv mo oa i H locs ls → W p l e room_1 s m #[Value.ref b] below meth c H locs c9 s9 Q (F0 m 1370 ls [])) :
    ∀ (H : Heap) (locs : List Loc) (ls : Array Slot), LwS D cI cL cC A s.heap b cv mo oa i H locs ls → W p l e room_1 s m #[Value.ref b] below meth c H locs cells slots Q (F0 m 832 ls []) := by
  intro H locs ls hLS
  obtain ⟨pic, tg, ca, n, tb, pb, lb, bb, cb, sb, pg, bg, cf, x, g6, u, a1, a2, a3, a4, a5, a6, a7, th, pk, nc, pp, gg, ee, f1, f2, f3, f4, f5, f6, f7, of, cs, hRel, hCI, hP, hD, hS, hl⟩ := hLS
  have hI := mI_of hRel hCI
  have hcn : nc = n := hCI.2.1
  obtain ⟨z1, hz1⟩ : ∃ z : Int32, xs (nI i + 1).toNatClampNeg = z := ⟨_, rfl⟩
  obtain ⟨z2, hz2⟩ : ∃ z : Int32, xs (nI i + 2).toNatClampNeg = z := ⟨_, rfl⟩
  obtain ⟨z3, hz3⟩ : ∃ z : Int32, xs (nI i + 3).toNatClampNeg = z := ⟨_, rfl⟩
  obtain ⟨z4, hz4⟩ : ∃ z : Int32, xs (nI i + 4).toNatClampNeg = z := ⟨_, rfl⟩
  obtain ⟨z5, hz5⟩ : ∃ z : Int32, xs (nI i + 5).toNatClampNeg = z := ⟨_, rfl⟩
  rcases fIn_01 n z2 with hc | hc
  · exact arm_precinct_n_1 hB hX hN cv pic tg ca n tb pb lb bb cb sb pg bg cf x g6 u mo a1 a2 a3 a4 a5 a6 a7 th pk nc pp gg ee f1 f2 f3 f4 f5 f6 f7 oa of z1 z2 z3 z4 z5 hc hI (N_precinct (by rw [hcn]; exact hc)) (crP cI cs) hx hb hml hown hW0 hSA hA hXs hbl hbA hi hL hc9 hs9 hz1 hz2 hz3 hz4 hz5 (fun u9 e9 o9 H locs ls hP hD hS hl => kk _ _ H locs ls (by omega) (by omega) ⟨pic, tg, ca, n, tb, pb, lb, bb, cb, sb, pg, bg, cf, x, g6, u9, a1, a2, a3, a4, a5, a6, a7, 1, pk, nc, pp, gg, e9, f1, f2, f3, f4, f5, f6, f7, o9, cs, hRel, hCI, hP, hD, hS, hl⟩) H locs ls hP hD hS hl
  · obtain ⟨k, pa, qa, dx, dy, lv, bw, bh, pf, qf, pre, post, hcs, hJ, hJ16, hk, ok, rc⟩ := CI_in hCI hc
    subst hcs
    have hNc : fIn nc z2 = 1 := by rw [hcn]; exact hc
    have hP := pq_permP (lw_out cI _ _ _ pre post) hP
    have hD := pq_permD (lw_out cI _ _ _ pre post) hD
    obtain ⟨e9, v9⟩ := M_prec hRel hNc hJ hJ16 ok rc z1 z3 z4 z5
    have h01 : xPrec g6 (bDiv (bTake x g6 z1) dx dy) lv pf qf z1 z3 z4 z5 = 0 ∨ xPrec g6 (bDiv (bTake x g6 z1) dx dy) lv pf qf z1 z3 z4 z5 = 1 := by unfold xPrec; (repeat' split) <;> simp
    rcases h01 with h | h
    · exact arm_precinct_c_0 hB hX hN cv pic tg ca n tb pb lb bb cb sb pg bg cf x g6 u k pa qa dx dy lv bw bh pf qf mo a1 a2 a3 a4 a5 a6 a7 th pk nc pp gg ee f1 f2 f3 f4 f5 f6 f7 oa of z1 z2 z3 z4 z5 hc (CI_16 hCI) hk (okC_lv ok).1 (okC_lv ok).2 h hI (e9.symm.trans h) (v9 h) (pq_app (crP cI pre) (crP cI post)) hx hb hml hown hW0 hSA hA hXs hbl hbA hi hL hc9 hs9 hz1 hz2 hz3 hz4 hz5 (fun u9 e9 o9 H locs ls hP hD hS hl => kk _ _ H locs ls (by omega) (by omega) ⟨pic, tg, ca, n, tb, pb, lb, bb, cb, sb, pg, bg, cf, x, g6, u9, a1, a2, a3, a4, a5, a6, a7, 0, pk, nc, pp, gg, e9, f1, f2, f3, f4, f5, f6, f7, o9, pre ++ (k, pa, qa, dx, dy, lv, bw, bh, pf, qf) :: post, hRel, hCI, (pq_permP (lw_in cI _ _ (k, pa, qa, dx, dy, lv, bw, bh, pf, qf) pre post) hP), (pq_permD (lw_in cI _ _ (k, pa, qa, dx, dy, lv, bw, bh, pf, qf) pre post) hD), hS, hl⟩) H locs ls hP hD hS hl
    · exact arm_precinct_c_1 hB hX hN cv pic tg ca n tb pb lb bb cb sb pg bg cf x g6 u k pa qa dx dy lv bw bh pf qf mo a1 a2 a3 a4 a5 a6 a7 th pk nc pp gg ee f1 f2 f3 f4 f5 f6 f7 oa of z1 z2 z3 z4 z5 hc (CI_16 hCI) hk (okC_lv ok).1 (okC_lv ok).2 h hI (e9.symm.trans h) (pq_app (crP cI pre) (crP cI post)) hx hb hml hown hW0 hSA hA hXs hbl hbA hi hL hc9 hs9 hz1 hz2 hz3 hz4 hz5 (fun u9 e9 o9 H locs ls hP hD hS hl => kk _ _ H locs ls (by omega) (by omega) ⟨pic, tg, ca, n, tb, pb, lb, bb, cb, sb, pg, bg, cf, x, g6, u9, a1, a2, a3, a4, a5, a6, a7, 1, pk, nc, pp, gg, e9, f1, f2, f3, f4, f5, f6, f7, o9, pre ++ (k, pa, qa, dx, dy, lv, bw, bh, pf, qf) :: post, hRel, hCI, (pq_permP (lw_in cI _ _ (k, pa, qa, dx, dy, lv, bw, bh, pf, qf) pre post) hP), (pq_permD (lw_in cI _ _ (k, pa, qa, dx, dy, lv, bw, bh, pf, qf) pre post) hD), hS, hl⟩) H locs ls hP hD hS hl
set_option maxHeartbeats 4000000 in
set_option maxRecDepth 100000 in
theorem op_share {l : Launch} {s0 : State} {a0 : Array Value} {D : va_G} {cI cL cC : ClassId} (hB : pq_B l s0 a0 D cI cL cC) (hX : pq_BX s0) (hN : pq_BN s0) {b L i : Nat} {xs : Nat → Int32} {p : Program} {e : Env} {s : State} {m : MethodId} {below : List Frame} {meth : Method} {c : Code} {A : Nat → Prop} {Q : State → Prop} {cells slots : Nat} (hx : p.tables.exec = Jvm.exec) (hb : c.code = code) (hml : c.maxLocals = 7) (hown : s.vm.findClass R_Law = some m.cls) (hW0 : s0.WarmedH s.vm) (hSA : pq_StA s0 s A) (hA : ∀ q : Nat, s.heap.size ≤ q → A q) (hXs : va_X b L xs s s.heap) (hbl : b < s.heap.size) (hbA : ¬ A b) (hi : i + 8 ≤ L) (hL : L ≤ 4096) (hc9 : cells + 3 ≤ room_1.cells) (hs9 : slots + 73 ≤ room_1.slots) (cv mo oa : Nat)
    (kk : ∀ (c9 s9 : Nat) (H : Heap) (locs : List Loc) (ls : Array Slot), c9 ≤ cells + 3 → s9 ≤ slots + 73 → LwS D cI cL cC A s.heap b cv mo oa i H locs ls → W p l e room_1 s m #[Value.ref b] below meth c H locs c9 s9 Q (F0 m 1370 ls [])) :
    ∀ (H : Heap) (locs : List Loc) (ls : Array Slot), LwS D cI cL cC A s.heap b cv mo oa i H locs ls → W p l e room_1 s m #[Value.ref b] below meth c H locs cells slots Q (F0 m 936 ls []) := by
  intro H locs ls hLS
  obtain ⟨pic, tg, ca, n, tb, pb, lb, bb, cb, sb, pg, bg, cf, x, g6, u, a1, a2, a3, a4, a5, a6, a7, th, pk, nc, pp, gg, ee, f1, f2, f3, f4, f5, f6, f7, of, cs, hRel, hCI, hP, hD, hS, hl⟩ := hLS
  have hI := mI_of hRel hCI
  have hcn : nc = n := hCI.2.1
  obtain ⟨z1, hz1⟩ : ∃ z : Int32, xs (nI i + 1).toNatClampNeg = z := ⟨_, rfl⟩
  obtain ⟨z2, hz2⟩ : ∃ z : Int32, xs (nI i + 2).toNatClampNeg = z := ⟨_, rfl⟩
  obtain ⟨z3, hz3⟩ : ∃ z : Int32, xs (nI i + 3).toNatClampNeg = z := ⟨_, rfl⟩
  obtain ⟨z4, hz4⟩ : ∃ z : Int32, xs (nI i + 4).toNatClampNeg = z := ⟨_, rfl⟩
  obtain ⟨z5, hz5⟩ : ∃ z : Int32, xs (nI i + 5).toNatClampNeg = z := ⟨_, rfl⟩
  obtain ⟨z6, hz6⟩ : ∃ z : Int32, xs (nI i + 6).toNatClampNeg = z := ⟨_, rfl⟩
  rcases fIn_01 n z2 with hc | hc
  · exact arm_share_n_1 hB hX hN cv pic tg ca n tb pb lb bb cb sb pg bg cf x g6 u mo a1 a2 a3 a4 a5 a6 a7 th pk nc pp gg ee f1 f2 f3 f4 f5 f6 f7 oa of z1 z2 z3 z4 z5 z6 hc hI (N_share (by rw [hcn]; exact hc)) (crP cI cs) hx hb hml hown hW0 hSA hA hXs hbl hbA hi hL hc9 hs9 hz1 hz2 hz3 hz4 hz5 hz6 (fun u9 e9 o9 H locs ls hP hD hS hl => kk _ _ H locs ls (by omega) (by omega) ⟨pic, tg, ca, n, tb, pb, lb, bb, cb, sb, pg, bg, cf, x, g6, u9, a1, a2, a3, a4, a5, a6, a7, 1, pk, nc, pp, gg, e9, f1, f2, f3, f4, f5, f6, f7, o9, cs, hRel, hCI, hP, hD, hS, hl⟩) H locs ls hP hD hS hl
  · obtain ⟨k, pa, qa, dx, dy, lv, bw, bh, pf, qf, pre, post, hcs, hJ, hJ16, hk, ok, rc⟩ := CI_in hCI hc
    subst hcs
    have hNc : fIn nc z2 = 1 := by rw [hcn]; exact hc
    have hP := pq_permP (lw_out cI _ _ _ pre post) hP
    have hD := pq_permD (lw_out cI _ _ _ pre post) hD
    obtain ⟨e9, v9⟩ := M_share hRel hNc hJ hJ16 ok rc z1 z3 z4 z5 z6
    have h01 : xShare g6 (bDiv (bTake x g6 z1) dx dy) lv pf qf z1 z3 z4 z5 z6 = 0 ∨ xShare g6 (bDiv (bTake x g6 z1) dx dy) lv pf qf z1 z3 z4 z5 z6 = 1 := by unfold xShare; (repeat' split) <;> simp
    rcases h01 with h | h
    · exact arm_share_c_0 hB hX hN cv pic tg ca n tb pb lb bb cb sb pg bg cf x g6 u k pa qa dx dy lv bw bh pf qf mo a1 a2 a3 a4 a5 a6 a7 th pk nc pp gg ee f1 f2 f3 f4 f5 f6 f7 oa of z1 z2 z3 z4 z5 z6 hc (CI_16 hCI) hk (okC_lv ok).1 (okC_lv ok).2 h hI (e9.symm.trans h) (v9 h) (pq_app (crP cI pre) (crP cI post)) hx hb hml hown hW0 hSA hA hXs hbl hbA hi hL hc9 hs9 hz1 hz2 hz3 hz4 hz5 hz6 (fun u9 e9 o9 H locs ls hP hD hS hl => kk _ _ H locs ls (by omega) (by omega) ⟨pic, tg, ca, n, tb, pb, lb, bb, cb, sb, pg, bg, cf, x, g6, u9, a1, a2, a3, a4, a5, a6, a7, 0, pk, nc, pp, gg, e9, f1, f2, f3, f4, f5, f6, f7, o9, pre ++ (k, pa, qa, dx, dy, lv, bw, bh, pf, qf) :: post, hRel, hCI, (pq_permP (lw_in cI _ _ (k, pa, qa, dx, dy, lv, bw, bh, pf, qf) pre post) hP), (pq_permD (lw_in cI _ _ (k, pa, qa, dx, dy, lv, bw, bh, pf, qf) pre post) hD), hS, hl⟩) H locs ls hP hD hS hl
    · exact arm_share_c_1 hB hX hN cv pic tg ca n tb pb lb bb cb sb pg bg cf x g6 u k pa qa dx dy lv bw bh pf qf mo a1 a2 a3 a4 a5 a6 a7 th pk nc pp gg ee f1 f2 f3 f4 f5 f6 f7 oa of z1 z2 z3 z4 z5 z6 hc (CI_16 hCI) hk (okC_lv ok).1 (okC_lv ok).2 h hI (e9.symm.trans h) (pq_app (crP cI pre) (crP cI post)) hx hb hml hown hW0 hSA hA hXs hbl hbA hi hL hc9 hs9 hz1 hz2 hz3 hz4 hz5 hz6 (fun u9 e9 o9 H locs ls hP hD hS hl => kk _ _ H locs ls (by omega) (by omega) ⟨pic, tg, ca, n, tb, pb, lb, bb, cb, sb, pg, bg, cf, x, g6, u9, a1, a2, a3, a4, a5, a6, a7, 1, pk, nc, pp, gg, e9, f1, f2, f3, f4, f5, f6, f7, o9, pre ++ (k, pa, qa, dx, dy, lv, bw, bh, pf, qf) :: post, hRel, hCI, (pq_permP (lw_in cI _ _ (k, pa, qa, dx, dy, lv, bw, bh, pf, qf) pre post) hP), (pq_permD (lw_in cI _ _ (k, pa, qa, dx, dy, lv, bw, bh, pf, qf) pre post) hD), hS, hl⟩) H locs ls hP hD hS hl
set_option maxHeartbeats 4000000 in
set_option maxRecDepth 100000 in
theorem op_block {l : Launch} {s0 : State} {a0 : Array Value} {D : va_G} {cI cL cC : ClassId} (hB : pq_B l s0 a0 D cI cL cC) (hX : pq_BX s0) (hN : pq_BN s0) {b L i : Nat} {xs : Nat → Int32} {p : Program} {e : Env} {s : State} {m : MethodId} {below : List Frame} {meth : Method} {c : Code} {A : Nat → Prop} {Q : State → Prop} {cells slots : Nat} (hx : p.tables.exec = Jvm.exec) (hb : c.code = code) (hml : c.maxLocals = 7) (hown : s.vm.findClass R_Law = some m.cls) (hW0 : s0.WarmedH s.vm) (hSA : pq_StA s0 s A) (hA : ∀ q : Nat, s.heap.size ≤ q → A q) (hXs : va_X b L xs s s.heap) (hbl : b < s.heap.size) (hbA : ¬ A b) (hi : i + 8 ≤ L) (hL : L ≤ 4096) (hc9 : cells + 3 ≤ room_1.cells) (hs9 : slots + 73 ≤ room_1.slots) (cv mo oa : Nat)
    (kk : ∀ (c9 s9 : Nat) (H : Heap) (locs : List Loc) (ls : Array Slot), c9 ≤ cells + 3 → s9 ≤ slots + 73 → LwS D cI cL cC A s.heap b cv mo oa i H locs ls → W p l e room_1 s m #[Value.ref b] below meth c H locs c9 s9 Q (F0 m 1370 ls [])) :
    ∀ (H : Heap) (locs : List Loc) (ls : Array Slot), LwS D cI cL cC A s.heap b cv mo oa i H locs ls → W p l e room_1 s m #[Value.ref b] below meth c H locs cells slots Q (F0 m 1054 ls []) := by
  intro H locs ls hLS
  obtain ⟨pic, tg, ca, n, tb, pb, lb, bb, cb, sb, pg, bg, cf, x, g6, u, a1, a2, a3, a4, a5, a6, a7, th, pk, nc, pp, gg, ee, f1, f2, f3, f4, f5, f6, f7, of, cs, hRel, hCI, hP, hD, hS, hl⟩ := hLS
  have hI := mI_of hRel hCI
  have hcn : nc = n := hCI.2.1
  obtain ⟨z1, hz1⟩ : ∃ z : Int32, xs (nI i + 1).toNatClampNeg = z := ⟨_, rfl⟩
  obtain ⟨z2, hz2⟩ : ∃ z : Int32, xs (nI i + 2).toNatClampNeg = z := ⟨_, rfl⟩
  obtain ⟨z3, hz3⟩ : ∃ z : Int32, xs (nI i + 3).toNatClampNeg = z := ⟨_, rfl⟩
  obtain ⟨z4, hz4⟩ : ∃ z : Int32, xs (nI i + 4).toNatClampNeg = z := ⟨_, rfl⟩
  obtain ⟨z5, hz5⟩ : ∃ z : Int32, xs (nI i + 5).toNatClampNeg = z := ⟨_, rfl⟩
  obtain ⟨z6, hz6⟩ : ∃ z : Int32, xs (nI i + 6).toNatClampNeg = z := ⟨_, rfl⟩
  obtain ⟨z7, hz7⟩ : ∃ z : Int32, xs (nI i + 7).toNatClampNeg = z := ⟨_, rfl⟩
  rcases fIn_01 n z2 with hc | hc
  · exact arm_block_n_1 hB hX hN cv pic tg ca n tb pb lb bb cb sb pg bg cf x g6 u mo a1 a2 a3 a4 a5 a6 a7 th pk nc pp gg ee f1 f2 f3 f4 f5 f6 f7 oa of z1 z2 z3 z4 z5 z6 z7 hc hI (N_block (by rw [hcn]; exact hc)) (crP cI cs) hx hb hml hown hW0 hSA hA hXs hbl hbA hi hL hc9 hs9 hz1 hz2 hz3 hz4 hz5 hz6 hz7 (fun u9 e9 o9 H locs ls hP hD hS hl => kk _ _ H locs ls (by omega) (by omega) ⟨pic, tg, ca, n, tb, pb, lb, bb, cb, sb, pg, bg, cf, x, g6, u9, a1, a2, a3, a4, a5, a6, a7, 1, pk, nc, pp, gg, e9, f1, f2, f3, f4, f5, f6, f7, o9, cs, hRel, hCI, hP, hD, hS, hl⟩) H locs ls hP hD hS hl
  · obtain ⟨k, pa, qa, dx, dy, lv, bw, bh, pf, qf, pre, post, hcs, hJ, hJ16, hk, ok, rc⟩ := CI_in hCI hc
    subst hcs
    have hNc : fIn nc z2 = 1 := by rw [hcn]; exact hc
    have hP := pq_permP (lw_out cI _ _ _ pre post) hP
    have hD := pq_permD (lw_out cI _ _ _ pre post) hD
    obtain ⟨e9, v9⟩ := M_block hRel hNc hJ hJ16 ok rc z1 z3 z4 z5 z6 z7
    have h01 : xBlock g6 (bDiv (bTake x g6 z1) dx dy) lv bw bh pf qf z1 z3 z4 z5 z6 z7 = 0 ∨ xBlock g6 (bDiv (bTake x g6 z1) dx dy) lv bw bh pf qf z1 z3 z4 z5 z6 z7 = 1 := by unfold xBlock; (repeat' split) <;> simp
    rcases h01 with h | h
    · exact arm_block_c_0 hB hX hN cv pic tg ca n tb pb lb bb cb sb pg bg cf x g6 u k pa qa dx dy lv bw bh pf qf mo a1 a2 a3 a4 a5 a6 a7 th pk nc pp gg ee f1 f2 f3 f4 f5 f6 f7 oa of z1 z2 z3 z4 z5 z6 z7 hc (CI_16 hCI) hk (okC_lv ok).1 (okC_lv ok).2 h hI (e9.symm.trans h) (v9 h) (pq_app (crP cI pre) (crP cI post)) hx hb hml hown hW0 hSA hA hXs hbl hbA hi hL hc9 hs9 hz1 hz2 hz3 hz4 hz5 hz6 hz7 (fun u9 e9 o9 H locs ls hP hD hS hl => kk _ _ H locs ls (by omega) (by omega) ⟨pic, tg, ca, n, tb, pb, lb, bb, cb, sb, pg, bg, cf, x, g6, u9, a1, a2, a3, a4, a5, a6, a7, 0, pk, nc, pp, gg, e9, f1, f2, f3, f4, f5, f6, f7, o9, pre ++ (k, pa, qa, dx, dy, lv, bw, bh, pf, qf) :: post, hRel, hCI, (pq_permP (lw_in cI _ _ (k, pa, qa, dx, dy, lv, bw, bh, pf, qf) pre post) hP), (pq_permD (lw_in cI _ _ (k, pa, qa, dx, dy, lv, bw, bh, pf, qf) pre post) hD), hS, hl⟩) H locs ls hP hD hS hl
    · exact arm_block_c_1 hB hX hN cv pic tg ca n tb pb lb bb cb sb pg bg cf x g6 u k pa qa dx dy lv bw bh pf qf mo a1 a2 a3 a4 a5 a6 a7 th pk nc pp gg ee f1 f2 f3 f4 f5 f6 f7 oa of z1 z2 z3 z4 z5 z6 z7 hc (CI_16 hCI) hk (okC_lv ok).1 (okC_lv ok).2 h hI (e9.symm.trans h) (pq_app (crP cI pre) (crP cI post)) hx hb hml hown hW0 hSA hA hXs hbl hbA hi hL hc9 hs9 hz1 hz2 hz3 hz4 hz5 hz6 hz7 (fun u9 e9 o9 H locs ls hP hD hS hl => kk _ _ H locs ls (by omega) (by omega) ⟨pic, tg, ca, n, tb, pb, lb, bb, cb, sb, pg, bg, cf, x, g6, u9, a1, a2, a3, a4, a5, a6, a7, 1, pk, nc, pp, gg, e9, f1, f2, f3, f4, f5, f6, f7, o9, pre ++ (k, pa, qa, dx, dy, lv, bw, bh, pf, qf) :: post, hRel, hCI, (pq_permP (lw_in cI _ _ (k, pa, qa, dx, dy, lv, bw, bh, pf, qf) pre post) hP), (pq_permD (lw_in cI _ _ (k, pa, qa, dx, dy, lv, bw, bh, pf, qf) pre post) hD), hS, hl⟩) H locs ls hP hD hS hl
set_option maxHeartbeats 4000000 in
set_option maxRecDepth 100000 in
theorem op_where {l : Launch} {s0 : State} {a0 : Array Value} {D : va_G} {cI cL cC : ClassId} (hB : pq_B l s0 a0 D cI cL cC) (hX : pq_BX s0) (hN : pq_BN s0) {b L i : Nat} {xs : Nat → Int32} {p : Program} {e : Env} {s : State} {m : MethodId} {below : List Frame} {meth : Method} {c : Code} {A : Nat → Prop} {Q : State → Prop} {cells slots : Nat} (hx : p.tables.exec = Jvm.exec) (hb : c.code = code) (hml : c.maxLocals = 7) (hown : s.vm.findClass R_Law = some m.cls) (hW0 : s0.WarmedH s.vm) (hSA : pq_StA s0 s A) (hA : ∀ q : Nat, s.heap.size ≤ q → A q) (hXs : va_X b L xs s s.heap) (hbl : b < s.heap.size) (hbA : ¬ A b) (hi : i + 8 ≤ L) (hL : L ≤ 4096) (hc9 : cells + 3 ≤ room_1.cells) (hs9 : slots + 73 ≤ room_1.slots) (cv mo oa : Nat)
    (kk : ∀ (c9 s9 : Nat) (H : Heap) (locs : List Loc) (ls : Array Slot), c9 ≤ cells + 3 → s9 ≤ slots + 73 → LwS D cI cL cC A s.heap b cv mo oa i H locs ls → W p l e room_1 s m #[Value.ref b] below meth c H locs c9 s9 Q (F0 m 1370 ls [])) :
    ∀ (H : Heap) (locs : List Loc) (ls : Array Slot), LwS D cI cL cC A s.heap b cv mo oa i H locs ls → W p l e room_1 s m #[Value.ref b] below meth c H locs cells slots Q (F0 m 1186 ls []) := by
  intro H locs ls hLS
  obtain ⟨pic, tg, ca, n, tb, pb, lb, bb, cb, sb, pg, bg, cf, x, g6, u, a1, a2, a3, a4, a5, a6, a7, th, pk, nc, pp, gg, ee, f1, f2, f3, f4, f5, f6, f7, of, cs, hRel, hCI, hP, hD, hS, hl⟩ := hLS
  have hI := mI_of hRel hCI
  have hcn : nc = n := hCI.2.1
  obtain ⟨z1, hz1⟩ : ∃ z : Int32, xs (nI i + 1).toNatClampNeg = z := ⟨_, rfl⟩
  obtain ⟨z2, hz2⟩ : ∃ z : Int32, xs (nI i + 2).toNatClampNeg = z := ⟨_, rfl⟩
  obtain ⟨z3, hz3⟩ : ∃ z : Int32, xs (nI i + 3).toNatClampNeg = z := ⟨_, rfl⟩
  rcases fIn_01 n z1 with hc | hc
  · exact arm_where_n_1 hB hX hN cv pic tg ca n tb pb lb bb cb sb pg bg cf x g6 u mo a1 a2 a3 a4 a5 a6 a7 th pk nc pp gg ee f1 f2 f3 f4 f5 f6 f7 oa of z1 z2 z3 hc hI (N_where (by rw [hcn]; exact hc)) (crP cI cs) hx hb hml hown hW0 hSA hA hXs hbl hbA hi hL hc9 hs9 hz1 hz2 hz3 (fun u9 e9 o9 H locs ls hP hD hS hl => kk _ _ H locs ls (by omega) (by omega) ⟨pic, tg, ca, n, tb, pb, lb, bb, cb, sb, pg, bg, cf, x, g6, u9, a1, a2, a3, a4, a5, a6, a7, 1, pk, nc, pp, gg, e9, f1, f2, f3, f4, f5, f6, f7, o9, cs, hRel, hCI, hP, hD, hS, hl⟩) H locs ls hP hD hS hl
  · obtain ⟨k, pa, qa, dx, dy, lv, bw, bh, pf, qf, pre, post, hcs, hJ, hJ16, hk, ok, rc⟩ := CI_in hCI hc
    subst hcs
    have hNc : fIn nc z1 = 1 := by rw [hcn]; exact hc
    have hP := pq_permP (lw_out cI _ _ _ pre post) hP
    have hD := pq_permD (lw_out cI _ _ _ pre post) hD
    obtain ⟨e9, v9⟩ := M_where hRel hNc hJ hJ16 rc z2 z3
    have h01 : xWhere x dx dy z2 z3 = 0 ∨ xWhere x dx dy z2 z3 = 1 := by unfold xWhere; (repeat' split) <;> simp
    rcases h01 with h | h
    · exact arm_where_c_0 hB hX hN cv pic tg ca n tb pb lb bb cb sb pg bg cf x g6 u k pa qa dx dy lv bw bh pf qf mo a1 a2 a3 a4 a5 a6 a7 th pk nc pp gg ee f1 f2 f3 f4 f5 f6 f7 oa of z1 z2 z3 hc (CI_16 hCI) hk (okC_lv ok).1 (okC_lv ok).2 h hI (e9.symm.trans h) (v9 h) (pq_app (crP cI pre) (crP cI post)) hx hb hml hown hW0 hSA hA hXs hbl hbA hi hL hc9 hs9 hz1 hz2 hz3 (fun u9 e9 o9 H locs ls hP hD hS hl => kk _ _ H locs ls (by omega) (by omega) ⟨pic, tg, ca, n, tb, pb, lb, bb, cb, sb, pg, bg, cf, x, g6, u9, a1, a2, a3, a4, a5, a6, a7, 0, pk, nc, pp, gg, e9, f1, f2, f3, f4, f5, f6, f7, o9, pre ++ (k, pa, qa, dx, dy, lv, bw, bh, pf, qf) :: post, hRel, hCI, (pq_permP (lw_in cI _ _ (k, pa, qa, dx, dy, lv, bw, bh, pf, qf) pre post) hP), (pq_permD (lw_in cI _ _ (k, pa, qa, dx, dy, lv, bw, bh, pf, qf) pre post) hD), hS, hl⟩) H locs ls hP hD hS hl
    · exact arm_where_c_1 hB hX hN cv pic tg ca n tb pb lb bb cb sb pg bg cf x g6 u k pa qa dx dy lv bw bh pf qf mo a1 a2 a3 a4 a5 a6 a7 th pk nc pp gg ee f1 f2 f3 f4 f5 f6 f7 oa of z1 z2 z3 hc (CI_16 hCI) hk (okC_lv ok).1 (okC_lv ok).2 h hI (e9.symm.trans h) (pq_app (crP cI pre) (crP cI post)) hx hb hml hown hW0 hSA hA hXs hbl hbA hi hL hc9 hs9 hz1 hz2 hz3 (fun u9 e9 o9 H locs ls hP hD hS hl => kk _ _ H locs ls (by omega) (by omega) ⟨pic, tg, ca, n, tb, pb, lb, bb, cb, sb, pg, bg, cf, x, g6, u9, a1, a2, a3, a4, a5, a6, a7, 1, pk, nc, pp, gg, e9, f1, f2, f3, f4, f5, f6, f7, o9, pre ++ (k, pa, qa, dx, dy, lv, bw, bh, pf, qf) :: post, hRel, hCI, (pq_permP (lw_in cI _ _ (k, pa, qa, dx, dy, lv, bw, bh, pf, qf) pre post) hP), (pq_permD (lw_in cI _ _ (k, pa, qa, dx, dy, lv, bw, bh, pf, qf) pre post) hD), hS, hl⟩) H locs ls hP hD hS hl
set_option maxHeartbeats 4000000 in
set_option maxRecDepth 100000 in
theorem op_coefficient {l : Launch} {s0 : State} {a0 : Array Value} {D : va_G} {cI cL cC : ClassId} (hB : pq_B l s0 a0 D cI cL cC) (hX : pq_BX s0) (hN : pq_BN s0) {b L i : Nat} {xs : Nat → Int32} {p : Program} {e : Env} {s : State} {m : MethodId} {below : List Frame} {meth : Method} {c : Code} {A : Nat → Prop} {Q : State → Prop} {cells slots : Nat} (hx : p.tables.exec = Jvm.exec) (hb : c.code = code) (hml : c.maxLocals = 7) (hown : s.vm.findClass R_Law = some m.cls) (hW0 : s0.WarmedH s.vm) (hSA : pq_StA s0 s A) (hA : ∀ q : Nat, s.heap.size ≤ q → A q) (hXs : va_X b L xs s s.heap) (hbl : b < s.heap.size) (hbA : ¬ A b) (hi : i + 8 ≤ L) (hL : L ≤ 4096) (hc9 : cells + 3 ≤ room_1.cells) (hs9 : slots + 73 ≤ room_1.slots) (cv mo oa : Nat)
    (kk : ∀ (c9 s9 : Nat) (H : Heap) (locs : List Loc) (ls : Array Slot), c9 ≤ cells + 3 → s9 ≤ slots + 73 → LwS D cI cL cC A s.heap b cv mo oa i H locs ls → W p l e room_1 s m #[Value.ref b] below meth c H locs c9 s9 Q (F0 m 1370 ls [])) :
    ∀ (H : Heap) (locs : List Loc) (ls : Array Slot), LwS D cI cL cC A s.heap b cv mo oa i H locs ls → W p l e room_1 s m #[Value.ref b] below meth c H locs cells slots Q (F0 m 1266 ls []) := by
  intro H locs ls hLS
  obtain ⟨pic, tg, ca, n, tb, pb, lb, bb, cb, sb, pg, bg, cf, x, g6, u, a1, a2, a3, a4, a5, a6, a7, th, pk, nc, pp, gg, ee, f1, f2, f3, f4, f5, f6, f7, of, cs, hRel, hCI, hP, hD, hS, hl⟩ := hLS
  have hI := mI_of hRel hCI
  have hcn : nc = n := hCI.2.1
  obtain ⟨z1, hz1⟩ : ∃ z : Int32, xs (nI i + 1).toNatClampNeg = z := ⟨_, rfl⟩
  obtain ⟨z2, hz2⟩ : ∃ z : Int32, xs (nI i + 2).toNatClampNeg = z := ⟨_, rfl⟩
  obtain ⟨z3, hz3⟩ : ∃ z : Int32, xs (nI i + 3).toNatClampNeg = z := ⟨_, rfl⟩
  obtain ⟨z4, hz4⟩ : ∃ z : Int32, xs (nI i + 4).toNatClampNeg = z := ⟨_, rfl⟩
  obtain ⟨z5, hz5⟩ : ∃ z : Int32, xs (nI i + 5).toNatClampNeg = z := ⟨_, rfl⟩
  rcases fIn_01 n z2 with hc | hc
  · exact arm_coefficient_n_1 hB hX hN cv pic tg ca n tb pb lb bb cb sb pg bg cf x g6 u mo a1 a2 a3 a4 a5 a6 a7 th pk nc pp gg ee f1 f2 f3 f4 f5 f6 f7 oa of z1 z2 z3 z4 z5 hc hI (N_coefficient (by rw [hcn]; exact hc)) (crP cI cs) hx hb hml hown hW0 hSA hA hXs hbl hbA hi hL hc9 hs9 hz1 hz2 hz3 hz4 hz5 (fun u9 e9 o9 H locs ls hP hD hS hl => kk _ _ H locs ls (by omega) (by omega) ⟨pic, tg, ca, n, tb, pb, lb, bb, cb, sb, pg, bg, cf, x, g6, u9, a1, a2, a3, a4, a5, a6, a7, 1, pk, nc, pp, gg, e9, f1, f2, f3, f4, f5, f6, f7, o9, cs, hRel, hCI, hP, hD, hS, hl⟩) H locs ls hP hD hS hl
  · obtain ⟨k, pa, qa, dx, dy, lv, bw, bh, pf, qf, pre, post, hcs, hJ, hJ16, hk, ok, rc⟩ := CI_in hCI hc
    subst hcs
    have hNc : fIn nc z2 = 1 := by rw [hcn]; exact hc
    have hP := pq_permP (lw_out cI _ _ _ pre post) hP
    have hD := pq_permD (lw_out cI _ _ _ pre post) hD
    obtain ⟨e9, v9⟩ := M_coef hRel hNc hJ hJ16 ok rc z1 z3 z4 z5
    have h01 : xCoef g6 (bDiv (bTake x g6 z1) dx dy) z1 z3 z4 z5 = 0 ∨ xCoef g6 (bDiv (bTake x g6 z1) dx dy) z1 z3 z4 z5 = 1 := by unfold xCoef; (repeat' split) <;> simp
    rcases h01 with h | h
    · exact arm_coefficient_c_0 hB hX hN cv pic tg ca n tb pb lb bb cb sb pg bg cf x g6 u k pa qa dx dy lv bw bh pf qf mo a1 a2 a3 a4 a5 a6 a7 th pk nc pp gg ee f1 f2 f3 f4 f5 f6 f7 oa of z1 z2 z3 z4 z5 hc (CI_16 hCI) hk (okC_lv ok).1 (okC_lv ok).2 h hI (e9.symm.trans h) (v9 h) (pq_app (crP cI pre) (crP cI post)) hx hb hml hown hW0 hSA hA hXs hbl hbA hi hL hc9 hs9 hz1 hz2 hz3 hz4 hz5 (fun u9 e9 o9 H locs ls hP hD hS hl => kk _ _ H locs ls (by omega) (by omega) ⟨pic, tg, ca, n, tb, pb, lb, bb, cb, sb, pg, bg, cf, x, g6, u9, a1, a2, a3, a4, a5, a6, a7, 0, pk, nc, pp, gg, e9, f1, f2, f3, f4, f5, f6, f7, o9, pre ++ (k, pa, qa, dx, dy, lv, bw, bh, pf, qf) :: post, hRel, hCI, (pq_permP (lw_in cI _ _ (k, pa, qa, dx, dy, lv, bw, bh, pf, qf) pre post) hP), (pq_permD (lw_in cI _ _ (k, pa, qa, dx, dy, lv, bw, bh, pf, qf) pre post) hD), hS, hl⟩) H locs ls hP hD hS hl
    · exact arm_coefficient_c_1 hB hX hN cv pic tg ca n tb pb lb bb cb sb pg bg cf x g6 u k pa qa dx dy lv bw bh pf qf mo a1 a2 a3 a4 a5 a6 a7 th pk nc pp gg ee f1 f2 f3 f4 f5 f6 f7 oa of z1 z2 z3 z4 z5 hc (CI_16 hCI) hk (okC_lv ok).1 (okC_lv ok).2 h hI (e9.symm.trans h) (pq_app (crP cI pre) (crP cI post)) hx hb hml hown hW0 hSA hA hXs hbl hbA hi hL hc9 hs9 hz1 hz2 hz3 hz4 hz5 (fun u9 e9 o9 H locs ls hP hD hS hl => kk _ _ H locs ls (by omega) (by omega) ⟨pic, tg, ca, n, tb, pb, lb, bb, cb, sb, pg, bg, cf, x, g6, u9, a1, a2, a3, a4, a5, a6, a7, 1, pk, nc, pp, gg, e9, f1, f2, f3, f4, f5, f6, f7, o9, pre ++ (k, pa, qa, dx, dy, lv, bw, bh, pf, qf) :: post, hRel, hCI, (pq_permP (lw_in cI _ _ (k, pa, qa, dx, dy, lv, bw, bh, pf, qf) pre post) hP), (pq_permD (lw_in cI _ _ (k, pa, qa, dx, dy, lv, bw, bh, pf, qf) pre post) hD), hS, hl⟩) H locs ls hP hD hS hl
