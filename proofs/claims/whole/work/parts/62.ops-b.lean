set_option maxHeartbeats 4000000 in
set_option maxRecDepth 100000 in
theorem op_coding {l : Launch} {s0 : State} {a0 : Array Value} {D : va_G} {cI cL cC : ClassId} (hB : pq_B l s0 a0 D cI cL cC) (hX : pq_BX s0) (hN : pq_BN s0) {b L i : Nat} {xs : Nat → Int32} {p : Program} {e : Env} {s : State} {m : MethodId} {below : List Frame} {meth : Method} {c : Code} {A : Nat → Prop} {Q : State → Prop} {cells slots : Nat} (hx : p.tables.exec = Jvm.exec) (hb : c.code = code) (hml : c.maxLocals = 7) (hown : s.vm.findClass R_Law = some m.cls) (hW0 : s0.WarmedH s.vm) (hSA : pq_StA s0 s A) (hA : ∀ q : Nat, s.heap.size ≤ q → A q) (hXs : va_X b L xs s s.heap) (hbl : b < s.heap.size) (hbA : ¬ A b) (hi : i + 8 ≤ L) (hL : L ≤ 4096) (hc9 : cells + 3 ≤ room_1.cells) (hs9 : slots + 73 ≤ room_1.slots) (cv mo oa : Nat)
    (kk : ∀ (c9 s9 : Nat) (H : Heap) (locs : List Loc) (ls : Array Slot), c9 ≤ cells + 3 → s9 ≤ slots + 73 → LwS D cI cL cC A s.heap b cv mo oa i H locs ls → W p l e room_1 s m #[Value.ref b] below meth c H locs c9 s9 Q (F0 m 1370 ls [])) :
    ∀ (H : Heap) (locs : List Loc) (ls : Array Slot), LwS D cI cL cC A s.heap b cv mo oa i H locs ls → W p l e room_1 s m #[Value.ref b] below meth c H locs cells slots Q (F0 m 344 ls []) := by
  intro H locs ls hLS
  obtain ⟨pic, tg, ca, n, tb, pb, lb, bb, cb, sb, pg, bg, cf, x, g6, u, a1, a2, a3, a4, a5, a6, a7, th, pk, nc, pp, gg, ee, f1, f2, f3, f4, f5, f6, f7, of, cs, hRel, hCI, hP, hD, hS, hl⟩ := hLS
  have hI := mI_of hRel hCI
  have hcn : nc = n := hCI.2.1
  obtain ⟨z1, hz1⟩ : ∃ z : Int32, xs (nI i + 1).toNatClampNeg = z := ⟨_, rfl⟩
  obtain ⟨z2, hz2⟩ : ∃ z : Int32, xs (nI i + 2).toNatClampNeg = z := ⟨_, rfl⟩
  obtain ⟨z3, hz3⟩ : ∃ z : Int32, xs (nI i + 3).toNatClampNeg = z := ⟨_, rfl⟩
  obtain ⟨z4, hz4⟩ : ∃ z : Int32, xs (nI i + 4).toNatClampNeg = z := ⟨_, rfl⟩
  rcases fIn_01 n z1 with hc | hc
  · exact arm_coding_n_1 hB hX hN cv pic tg ca n tb pb lb bb cb sb pg bg cf x g6 u mo a1 a2 a3 a4 a5 a6 a7 th pk nc pp gg ee f1 f2 f3 f4 f5 f6 f7 oa of z1 z2 z3 z4 hc hI (N_coding (by rw [hcn]; exact hc)) (crP cI cs) hx hb hml hown hW0 hSA hA hXs hbl hbA hi hL hc9 hs9 hz1 hz2 hz3 hz4 (fun u9 e9 o9 H locs ls hP hD hS hl => kk _ _ H locs ls (by omega) (by omega) ⟨pic, tg, ca, n, tb, pb, lb, bb, cb, sb, pg, bg, cf, x, g6, u9, a1, a2, a3, a4, a5, a6, a7, 1, pk, nc, pp, gg, e9, f1, f2, f3, f4, f5, f6, f7, o9, cs, hRel, hCI, hP, hD, hS, hl⟩) H locs ls hP hD hS hl
  · obtain ⟨k, pa, qa, dx, dy, lv, bw, bh, pf, qf, pre, post, hcs, hJ, hJ16, hk, ok, rc⟩ := CI_in hCI hc
    subst hcs
    have hNc : fIn nc z1 = 1 := by rw [hcn]; exact hc
    have hP := pq_permP (lw_out cI _ _ _ pre post) hP
    have hD := pq_permD (lw_out cI _ _ _ pre post) hD
    have e9 := M_cod hNc z2 z3 z4
    have h01 : xCod z2 z3 z4 = 0 ∨ xCod z2 z3 z4 = 1 ∨ xCod z2 z3 z4 = 2 := by unfold xCod; (repeat' split) <;> simp
    rcases h01 with h | h | h
    · exact arm_coding_c_0 hB hX hN cv pic tg ca n tb pb lb bb cb sb pg bg cf x g6 u k pa qa dx dy lv bw bh pf qf mo a1 a2 a3 a4 a5 a6 a7 th pk nc pp gg ee f1 f2 f3 f4 f5 f6 f7 oa of z1 z2 z3 z4 hc (CI_16 hCI) hk (okC_lv ok).1 (okC_lv ok).2 h hI (e9.symm.trans h) (pq_app (crP cI pre) (crP cI post)) hx hb hml hown hW0 hSA hA hXs hbl hbA hi hL hc9 hs9 hz1 hz2 hz3 hz4 (fun u9 e9 o9 H locs ls hP hD hS hl => kk _ _ H locs ls (by omega) (by omega) ⟨pic, tg, ca, n, tb, pb, lb, bb, cb, sb, pg, bg, cf, x, g6, u9, a1, a2, a3, a4, a5, a6, a7, 0, pk, nc, pp, gg, e9, f1, f2, upd f3 z1.toNatClampNeg z2, upd f4 z1.toNatClampNeg z3, upd f5 z1.toNatClampNeg z4, f6, f7, o9, pre ++ (k, pa, qa, dx, dy, z2, z3, z4, pf, qf) :: post, hRel, (CI_cod hCI hJ hJ16 hk ok rc h), (pq_permP (lw_in cI _ _ (k, pa, qa, dx, dy, z2, z3, z4, pf, qf) pre post) hP), (pq_permD (lw_in cI _ _ (k, pa, qa, dx, dy, z2, z3, z4, pf, qf) pre post) hD), hS, hl⟩) H locs ls hP hD hS hl
    · exact arm_coding_c_1 hB hX hN cv pic tg ca n tb pb lb bb cb sb pg bg cf x g6 u k pa qa dx dy lv bw bh pf qf mo a1 a2 a3 a4 a5 a6 a7 th pk nc pp gg ee f1 f2 f3 f4 f5 f6 f7 oa of z1 z2 z3 z4 hc (CI_16 hCI) hk (okC_lv ok).1 (okC_lv ok).2 h hI (e9.symm.trans h) (pq_app (crP cI pre) (crP cI post)) hx hb hml hown hW0 hSA hA hXs hbl hbA hi hL hc9 hs9 hz1 hz2 hz3 hz4 (fun u9 e9 o9 H locs ls hP hD hS hl => kk _ _ H locs ls (by omega) (by omega) ⟨pic, tg, ca, n, tb, pb, lb, bb, cb, sb, pg, bg, cf, x, g6, u9, a1, a2, a3, a4, a5, a6, a7, 1, pk, nc, pp, gg, e9, f1, f2, f3, f4, f5, f6, f7, o9, pre ++ (k, pa, qa, dx, dy, lv, bw, bh, pf, qf) :: post, hRel, hCI, (pq_permP (lw_in cI _ _ (k, pa, qa, dx, dy, lv, bw, bh, pf, qf) pre post) hP), (pq_permD (lw_in cI _ _ (k, pa, qa, dx, dy, lv, bw, bh, pf, qf) pre post) hD), hS, hl⟩) H locs ls hP hD hS hl
    · exact arm_coding_c_2 hB hX hN cv pic tg ca n tb pb lb bb cb sb pg bg cf x g6 u k pa qa dx dy lv bw bh pf qf mo a1 a2 a3 a4 a5 a6 a7 th pk nc pp gg ee f1 f2 f3 f4 f5 f6 f7 oa of z1 z2 z3 z4 hc (CI_16 hCI) hk (okC_lv ok).1 (okC_lv ok).2 h hI (e9.symm.trans h) (pq_app (crP cI pre) (crP cI post)) hx hb hml hown hW0 hSA hA hXs hbl hbA hi hL hc9 hs9 hz1 hz2 hz3 hz4 (fun u9 e9 o9 H locs ls hP hD hS hl => kk _ _ H locs ls (by omega) (by omega) ⟨pic, tg, ca, n, tb, pb, lb, bb, cb, sb, pg, bg, cf, x, g6, u9, a1, a2, a3, a4, a5, a6, a7, 2, pk, nc, pp, gg, e9, f1, f2, f3, f4, f5, f6, f7, o9, pre ++ (k, pa, qa, dx, dy, lv, bw, bh, pf, qf) :: post, hRel, hCI, (pq_permP (lw_in cI _ _ (k, pa, qa, dx, dy, lv, bw, bh, pf, qf) pre post) hP), (pq_permD (lw_in cI _ _ (k, pa, qa, dx, dy, lv, bw, bh, pf, qf) pre post) hD), hS, hl⟩) H locs ls hP hD hS hl
set_option maxHeartbeats 4000000 in
set_option maxRecDepth 100000 in
theorem op_precincts {l : Launch} {s0 : State} {a0 : Array Value} {D : va_G} {cI cL cC : ClassId} (hB : pq_B l s0 a0 D cI cL cC) (hX : pq_BX s0) (hN : pq_BN s0) {b L i : Nat} {xs : Nat → Int32} {p : Program} {e : Env} {s : State} {m : MethodId} {below : List Frame} {meth : Method} {c : Code} {A : Nat → Prop} {Q : State → Prop} {cells slots : Nat} (hx : p.tables.exec = Jvm.exec) (hb : c.code = code) (hml : c.maxLocals = 7) (hown : s.vm.findClass R_Law = some m.cls) (hW0 : s0.WarmedH s.vm) (hSA : pq_StA s0 s A) (hA : ∀ q : Nat, s.heap.size ≤ q → A q) (hXs : va_X b L xs s s.heap) (hbl : b < s.heap.size) (hbA : ¬ A b) (hi : i + 8 ≤ L) (hL : L ≤ 4096) (hc9 : cells + 3 ≤ room_1.cells) (hs9 : slots + 73 ≤ room_1.slots) (cv mo oa : Nat)
    (kk : ∀ (c9 s9 : Nat) (H : Heap) (locs : List Loc) (ls : Array Slot), c9 ≤ cells + 3 → s9 ≤ slots + 73 → LwS D cI cL cC A s.heap b cv mo oa i H locs ls → W p l e room_1 s m #[Value.ref b] below meth c H locs c9 s9 Q (F0 m 1370 ls [])) :
    ∀ (H : Heap) (locs : List Loc) (ls : Array Slot), LwS D cI cL cC A s.heap b cv mo oa i H locs ls → W p l e room_1 s m #[Value.ref b] below meth c H locs cells slots Q (F0 m 416 ls []) := by
  intro H locs ls hLS
  obtain ⟨pic, tg, ca, n, tb, pb, lb, bb, cb, sb, pg, bg, cf, x, g6, u, a1, a2, a3, a4, a5, a6, a7, th, pk, nc, pp, gg, ee, f1, f2, f3, f4, f5, f6, f7, of, cs, hRel, hCI, hP, hD, hS, hl⟩ := hLS
  have hI := mI_of hRel hCI
  have hcn : nc = n := hCI.2.1
  obtain ⟨z1, hz1⟩ : ∃ z : Int32, xs (nI i + 1).toNatClampNeg = z := ⟨_, rfl⟩
  obtain ⟨z2, hz2⟩ : ∃ z : Int32, xs (nI i + 2).toNatClampNeg = z := ⟨_, rfl⟩
  obtain ⟨z3, hz3⟩ : ∃ z : Int32, xs (nI i + 3).toNatClampNeg = z := ⟨_, rfl⟩
  obtain ⟨z4, hz4⟩ : ∃ z : Int32, xs (nI i + 4).toNatClampNeg = z := ⟨_, rfl⟩
  rcases fIn_01 n z1 with hc | hc
  · exact arm_precincts_n_1 hB hX hN cv pic tg ca n tb pb lb bb cb sb pg bg cf x g6 u mo a1 a2 a3 a4 a5 a6 a7 th pk nc pp gg ee f1 f2 f3 f4 f5 f6 f7 oa of z1 z2 z3 z4 hc hI (N_precincts (by rw [hcn]; exact hc)) (crP cI cs) hx hb hml hown hW0 hSA hA hXs hbl hbA hi hL hc9 hs9 hz1 hz2 hz3 hz4 (fun u9 e9 o9 H locs ls hP hD hS hl => kk _ _ H locs ls (by omega) (by omega) ⟨pic, tg, ca, n, tb, pb, lb, bb, cb, sb, pg, bg, cf, x, g6, u9, a1, a2, a3, a4, a5, a6, a7, 1, pk, nc, pp, gg, e9, f1, f2, f3, f4, f5, f6, f7, o9, cs, hRel, hCI, hP, hD, hS, hl⟩) H locs ls hP hD hS hl
  · obtain ⟨k, pa, qa, dx, dy, lv, bw, bh, pf, qf, pre, post, hcs, hJ, hJ16, hk, ok, rc⟩ := CI_in hCI hc
    subst hcs
    have hNc : fIn nc z1 = 1 := by rw [hcn]; exact hc
    have hP := pq_permP (lw_out cI _ _ _ pre post) hP
    have hD := pq_permD (lw_out cI _ _ _ pre post) hD
    have e9 := M_pre hNc z2 z3 z4
    have h01 : xPre z2 z3 z4 = 0 ∨ xPre z2 z3 z4 = 1 ∨ xPre z2 z3 z4 = 2 := by unfold xPre; (repeat' split) <;> simp
    rcases h01 with h | h | h
    · exact arm_precincts_c_0 hB hX hN cv pic tg ca n tb pb lb bb cb sb pg bg cf x g6 u k pa qa dx dy lv bw bh pf qf mo a1 a2 a3 a4 a5 a6 a7 th pk nc pp gg ee f1 f2 f3 f4 f5 f6 f7 oa of z1 z2 z3 z4 hc (CI_16 hCI) hk (okC_lv ok).1 (okC_lv ok).2 h hI (e9.symm.trans h) (pq_app (crP cI pre) (crP cI post)) hx hb hml hown hW0 hSA hA hXs hbl hbA hi hL hc9 hs9 hz1 hz2 hz3 hz4 (fun u9 e9 o9 H locs ls hP hD hS hl => kk _ _ H locs ls (by omega) (by omega) ⟨pic, tg, ca, n, tb, pb, lb, bb, cb, sb, pg, bg, cf, x, g6, u9, a1, a2, a3, a4, a5, a6, a7, 0, pk, nc, pp, gg, e9, f1, f2, f3, f4, f5, upd f6 ((33 * z1) + z2).toNatClampNeg z3, upd f7 ((33 * z1) + z2).toNatClampNeg z4, o9, pre ++ (k, pa, qa, dx, dy, lv, bw, bh, upd pf z2.toNatClampNeg z3, upd qf z2.toNatClampNeg z4) :: post, hRel, (CI_pre hCI hJ hJ16 hk ok rc h), (pq_permP (lw_in cI _ _ (k, pa, qa, dx, dy, lv, bw, bh, upd pf z2.toNatClampNeg z3, upd qf z2.toNatClampNeg z4) pre post) hP), (pq_permD (lw_in cI _ _ (k, pa, qa, dx, dy, lv, bw, bh, upd pf z2.toNatClampNeg z3, upd qf z2.toNatClampNeg z4) pre post) hD), hS, hl⟩) H locs ls hP hD hS hl
    · exact arm_precincts_c_1 hB hX hN cv pic tg ca n tb pb lb bb cb sb pg bg cf x g6 u k pa qa dx dy lv bw bh pf qf mo a1 a2 a3 a4 a5 a6 a7 th pk nc pp gg ee f1 f2 f3 f4 f5 f6 f7 oa of z1 z2 z3 z4 hc (CI_16 hCI) hk (okC_lv ok).1 (okC_lv ok).2 h hI (e9.symm.trans h) (pq_app (crP cI pre) (crP cI post)) hx hb hml hown hW0 hSA hA hXs hbl hbA hi hL hc9 hs9 hz1 hz2 hz3 hz4 (fun u9 e9 o9 H locs ls hP hD hS hl => kk _ _ H locs ls (by omega) (by omega) ⟨pic, tg, ca, n, tb, pb, lb, bb, cb, sb, pg, bg, cf, x, g6, u9, a1, a2, a3, a4, a5, a6, a7, 1, pk, nc, pp, gg, e9, f1, f2, f3, f4, f5, f6, f7, o9, pre ++ (k, pa, qa, dx, dy, lv, bw, bh, pf, qf) :: post, hRel, hCI, (pq_permP (lw_in cI _ _ (k, pa, qa, dx, dy, lv, bw, bh, pf, qf) pre post) hP), (pq_permD (lw_in cI _ _ (k, pa, qa, dx, dy, lv, bw, bh, pf, qf) pre post) hD), hS, hl⟩) H locs ls hP hD hS hl
    · exact arm_precincts_c_2 hB hX hN cv pic tg ca n tb pb lb bb cb sb pg bg cf x g6 u k pa qa dx dy lv bw bh pf qf mo a1 a2 a3 a4 a5 a6 a7 th pk nc pp gg ee f1 f2 f3 f4 f5 f6 f7 oa of z1 z2 z3 z4 hc (CI_16 hCI) hk (okC_lv ok).1 (okC_lv ok).2 h hI (e9.symm.trans h) (pq_app (crP cI pre) (crP cI post)) hx hb hml hown hW0 hSA hA hXs hbl hbA hi hL hc9 hs9 hz1 hz2 hz3 hz4 (fun u9 e9 o9 H locs ls hP hD hS hl => kk _ _ H locs ls (by omega) (by omega) ⟨pic, tg, ca, n, tb, pb, lb, bb, cb, sb, pg, bg, cf, x, g6, u9, a1, a2, a3, a4, a5, a6, a7, 2, pk, nc, pp, gg, e9, f1, f2, f3, f4, f5, f6, f7, o9, pre ++ (k, pa, qa, dx, dy, lv, bw, bh, pf, qf) :: post, hRel, hCI, (pq_permP (lw_in cI _ _ (k, pa, qa, dx, dy, lv, bw, bh, pf, qf) pre post) hP), (pq_permD (lw_in cI _ _ (k, pa, qa, dx, dy, lv, bw, bh, pf, qf) pre post) hD), hS, hl⟩) H locs ls hP hD hS hl
set_option maxHeartbeats 4000000 in
set_option maxRecDepth 100000 in
theorem op_part {l : Launch} {s0 : State} {a0 : Array Value} {D : va_G} {cI cL cC : ClassId} (hB : pq_B l s0 a0 D cI cL cC) (hX : pq_BX s0) (hN : pq_BN s0) {b L i : Nat} {xs : Nat → Int32} {p : Program} {e : Env} {s : State} {m : MethodId} {below : List Frame} {meth : Method} {c : Code} {A : Nat → Prop} {Q : State → Prop} {cells slots : Nat} (hx : p.tables.exec = Jvm.exec) (hb : c.code = code) (hml : c.maxLocals = 7) (hown : s.vm.findClass R_Law = some m.cls) (hW0 : s0.WarmedH s.vm) (hSA : pq_StA s0 s A) (hA : ∀ q : Nat, s.heap.size ≤ q → A q) (hXs : va_X b L xs s s.heap) (hbl : b < s.heap.size) (hbA : ¬ A b) (hi : i + 8 ≤ L) (hL : L ≤ 4096) (hc9 : cells + 3 ≤ room_1.cells) (hs9 : slots + 73 ≤ room_1.slots) (cv mo oa : Nat)
    (kk : ∀ (c9 s9 : Nat) (H : Heap) (locs : List Loc) (ls : Array Slot), c9 ≤ cells + 3 → s9 ≤ slots + 73 → LwS D cI cL cC A s.heap b cv mo oa i H locs ls → W p l e room_1 s m #[Value.ref b] below meth c H locs c9 s9 Q (F0 m 1370 ls [])) :
    ∀ (H : Heap) (locs : List Loc) (ls : Array Slot), LwS D cI cL cC A s.heap b cv mo oa i H locs ls → W p l e room_1 s m #[Value.ref b] below meth c H locs cells slots Q (F0 m 556 ls []) := by
  intro H locs ls hLS
  obtain ⟨pic, tg, ca, n, tb, pb, lb, bb, cb, sb, pg, bg, cf, x, g6, u, a1, a2, a3, a4, a5, a6, a7, th, pk, nc, pp, gg, ee, f1, f2, f3, f4, f5, f6, f7, of, cs, hRel, hCI, hP, hD, hS, hl⟩ := hLS
  have hI := mI_of hRel hCI
  have hcn : nc = n := hCI.2.1
  obtain ⟨z1, hz1⟩ : ∃ z : Int32, xs (nI i + 1).toNatClampNeg = z := ⟨_, rfl⟩
  obtain ⟨z2, hz2⟩ : ∃ z : Int32, xs (nI i + 2).toNatClampNeg = z := ⟨_, rfl⟩
  obtain ⟨z3, hz3⟩ : ∃ z : Int32, xs (nI i + 3).toNatClampNeg = z := ⟨_, rfl⟩
  rcases fIn_01 n z2 with hc | hc
  · exact arm_part_n_1 hB hX hN cv pic tg ca n tb pb lb bb cb sb pg bg cf x g6 u mo a1 a2 a3 a4 a5 a6 a7 th pk nc pp gg ee f1 f2 f3 f4 f5 f6 f7 oa of z1 z2 z3 hc hI (N_part (by rw [hcn]; exact hc)) (crP cI cs) hx hb hml hown hW0 hSA hA hXs hbl hbA hi hL hc9 hs9 hz1 hz2 hz3 (fun u9 e9 o9 H locs ls hP hD hS hl => kk _ _ H locs ls (by omega) (by omega) ⟨pic, tg, ca, n, tb, pb, lb, bb, cb, sb, pg, bg, cf, x, g6, u9, a1, a2, a3, a4, a5, a6, a7, 1, pk, nc, pp, gg, e9, f1, f2, f3, f4, f5, f6, f7, o9, cs, hRel, hCI, hP, hD, hS, hl⟩) H locs ls hP hD hS hl
  · obtain ⟨k, pa, qa, dx, dy, lv, bw, bh, pf, qf, pre, post, hcs, hJ, hJ16, hk, ok, rc⟩ := CI_in hCI hc
    subst hcs
    have hNc : fIn nc z2 = 1 := by rw [hcn]; exact hc
    have hP := pq_permP (lw_out cI _ _ _ pre post) hP
    have hD := pq_permD (lw_out cI _ _ _ pre post) hD
    obtain ⟨e9, v9⟩ := M_part hRel hNc hJ hJ16 ok rc z1 z3
    have h01 : xPart g6 z1 z3 = 0 ∨ xPart g6 z1 z3 = 1 := by unfold xPart; (repeat' split) <;> simp
    rcases h01 with h | h
    · exact arm_part_c_0 hB hX hN cv pic tg ca n tb pb lb bb cb sb pg bg cf x g6 u k pa qa dx dy lv bw bh pf qf mo a1 a2 a3 a4 a5 a6 a7 th pk nc pp gg ee f1 f2 f3 f4 f5 f6 f7 oa of z1 z2 z3 hc (CI_16 hCI) hk (okC_lv ok).1 (okC_lv ok).2 h hI (e9.symm.trans h) (v9 h) (pq_app (crP cI pre) (crP cI post)) hx hb hml hown hW0 hSA hA hXs hbl hbA hi hL hc9 hs9 hz1 hz2 hz3 (fun u9 e9 o9 H locs ls hP hD hS hl => kk _ _ H locs ls (by omega) (by omega) ⟨pic, tg, ca, n, tb, pb, lb, bb, cb, sb, pg, bg, cf, x, g6, u9, a1, a2, a3, a4, a5, a6, a7, 0, pk, nc, pp, gg, e9, f1, f2, f3, f4, f5, f6, f7, o9, pre ++ (k, pa, qa, dx, dy, lv, bw, bh, pf, qf) :: post, hRel, hCI, (pq_permP (lw_in cI _ _ (k, pa, qa, dx, dy, lv, bw, bh, pf, qf) pre post) hP), (pq_permD (lw_in cI _ _ (k, pa, qa, dx, dy, lv, bw, bh, pf, qf) pre post) hD), hS, hl⟩) H locs ls hP hD hS hl
    · exact arm_part_c_1 hB hX hN cv pic tg ca n tb pb lb bb cb sb pg bg cf x g6 u k pa qa dx dy lv bw bh pf qf mo a1 a2 a3 a4 a5 a6 a7 th pk nc pp gg ee f1 f2 f3 f4 f5 f6 f7 oa of z1 z2 z3 hc (CI_16 hCI) hk (okC_lv ok).1 (okC_lv ok).2 h hI (e9.symm.trans h) (pq_app (crP cI pre) (crP cI post)) hx hb hml hown hW0 hSA hA hXs hbl hbA hi hL hc9 hs9 hz1 hz2 hz3 (fun u9 e9 o9 H locs ls hP hD hS hl => kk _ _ H locs ls (by omega) (by omega) ⟨pic, tg, ca, n, tb, pb, lb, bb, cb, sb, pg, bg, cf, x, g6, u9, a1, a2, a3, a4, a5, a6, a7, 1, pk, nc, pp, gg, e9, f1, f2, f3, f4, f5, f6, f7, o9, pre ++ (k, pa, qa, dx, dy, lv, bw, bh, pf, qf) :: post, hRel, hCI, (pq_permP (lw_in cI _ _ (k, pa, qa, dx, dy, lv, bw, bh, pf, qf) pre post) hP), (pq_permD (lw_in cI _ _ (k, pa, qa, dx, dy, lv, bw, bh, pf, qf) pre post) hD), hS, hl⟩) H locs ls hP hD hS hl
set_option maxHeartbeats 4000000 in
set_option maxRecDepth 100000 in
theorem op_level {l : Launch} {s0 : State} {a0 : Array Value} {D : va_G} {cI cL cC : ClassId} (hB : pq_B l s0 a0 D cI cL cC) (hX : pq_BX s0) (hN : pq_BN s0) {b L i : Nat} {xs : Nat → Int32} {p : Program} {e : Env} {s : State} {m : MethodId} {below : List Frame} {meth : Method} {c : Code} {A : Nat → Prop} {Q : State → Prop} {cells slots : Nat} (hx : p.tables.exec = Jvm.exec) (hb : c.code = code) (hml : c.maxLocals = 7) (hown : s.vm.findClass R_Law = some m.cls) (hW0 : s0.WarmedH s.vm) (hSA : pq_StA s0 s A) (hA : ∀ q : Nat, s.heap.size ≤ q → A q) (hXs : va_X b L xs s s.heap) (hbl : b < s.heap.size) (hbA : ¬ A b) (hi : i + 8 ≤ L) (hL : L ≤ 4096) (hc9 : cells + 3 ≤ room_1.cells) (hs9 : slots + 73 ≤ room_1.slots) (cv mo oa : Nat)
    (kk : ∀ (c9 s9 : Nat) (H : Heap) (locs : List Loc) (ls : Array Slot), c9 ≤ cells + 3 → s9 ≤ slots + 73 → LwS D cI cL cC A s.heap b cv mo oa i H locs ls → W p l e room_1 s m #[Value.ref b] below meth c H locs c9 s9 Q (F0 m 1370 ls [])) :
    ∀ (H : Heap) (locs : List Loc) (ls : Array Slot), LwS D cI cL cC A s.heap b cv mo oa i H locs ls → W p l e room_1 s m #[Value.ref b] below meth c H locs cells slots Q (F0 m 636 ls []) := by
  intro H locs ls hLS
  obtain ⟨pic, tg, ca, n, tb, pb, lb, bb, cb, sb, pg, bg, cf, x, g6, u, a1, a2, a3, a4, a5, a6, a7, th, pk, nc, pp, gg, ee, f1, f2, f3, f4, f5, f6, f7, of, cs, hRel, hCI, hP, hD, hS, hl⟩ := hLS
  have hI := mI_of hRel hCI
  have hcn : nc = n := hCI.2.1
  obtain ⟨z1, hz1⟩ : ∃ z : Int32, xs (nI i + 1).toNatClampNeg = z := ⟨_, rfl⟩
  obtain ⟨z2, hz2⟩ : ∃ z : Int32, xs (nI i + 2).toNatClampNeg = z := ⟨_, rfl⟩
  obtain ⟨z3, hz3⟩ : ∃ z : Int32, xs (nI i + 3).toNatClampNeg = z := ⟨_, rfl⟩
  obtain ⟨z4, hz4⟩ : ∃ z : Int32, xs (nI i + 4).toNatClampNeg = z := ⟨_, rfl⟩
  rcases fIn_01 n z2 with hc | hc
  · exact arm_level_n_1 hB hX hN cv pic tg ca n tb pb lb bb cb sb pg bg cf x g6 u mo a1 a2 a3 a4 a5 a6 a7 th pk nc pp gg ee f1 f2 f3 f4 f5 f6 f7 oa of z1 z2 z3 z4 hc hI (N_level (by rw [hcn]; exact hc)) (crP cI cs) hx hb hml hown hW0 hSA hA hXs hbl hbA hi hL hc9 hs9 hz1 hz2 hz3 hz4 (fun u9 e9 o9 H locs ls hP hD hS hl => kk _ _ H locs ls (by omega) (by omega) ⟨pic, tg, ca, n, tb, pb, lb, bb, cb, sb, pg, bg, cf, x, g6, u9, a1, a2, a3, a4, a5, a6, a7, 1, pk, nc, pp, gg, e9, f1, f2, f3, f4, f5, f6, f7, o9, cs, hRel, hCI, hP, hD, hS, hl⟩) H locs ls hP hD hS hl
  · obtain ⟨k, pa, qa, dx, dy, lv, bw, bh, pf, qf, pre, post, hcs, hJ, hJ16, hk, ok, rc⟩ := CI_in hCI hc
    subst hcs
    have hNc : fIn nc z2 = 1 := by rw [hcn]; exact hc
    have hP := pq_permP (lw_out cI _ _ _ pre post) hP
    have hD := pq_permD (lw_out cI _ _ _ pre post) hD
    obtain ⟨e9, v9⟩ := M_level hRel hNc hJ hJ16 ok rc z1 z3 z4
    have h01 : xLevel g6 lv z1 z3 z4 = 0 ∨ xLevel g6 lv z1 z3 z4 = 1 := by unfold xLevel; (repeat' split) <;> simp
    rcases h01 with h | h
    · exact arm_level_c_0 hB hX hN cv pic tg ca n tb pb lb bb cb sb pg bg cf x g6 u k pa qa dx dy lv bw bh pf qf mo a1 a2 a3 a4 a5 a6 a7 th pk nc pp gg ee f1 f2 f3 f4 f5 f6 f7 oa of z1 z2 z3 z4 hc (CI_16 hCI) hk (okC_lv ok).1 (okC_lv ok).2 h hI (e9.symm.trans h) (v9 h) (pq_app (crP cI pre) (crP cI post)) hx hb hml hown hW0 hSA hA hXs hbl hbA hi hL hc9 hs9 hz1 hz2 hz3 hz4 (fun u9 e9 o9 H locs ls hP hD hS hl => kk _ _ H locs ls (by omega) (by omega) ⟨pic, tg, ca, n, tb, pb, lb, bb, cb, sb, pg, bg, cf, x, g6, u9, a1, a2, a3, a4, a5, a6, a7, 0, pk, nc, pp, gg, e9, f1, f2, f3, f4, f5, f6, f7, o9, pre ++ (k, pa, qa, dx, dy, lv, bw, bh, pf, qf) :: post, hRel, hCI, (pq_permP (lw_in cI _ _ (k, pa, qa, dx, dy, lv, bw, bh, pf, qf) pre post) hP), (pq_permD (lw_in cI _ _ (k, pa, qa, dx, dy, lv, bw, bh, pf, qf) pre post) hD), hS, hl⟩) H locs ls hP hD hS hl
    · exact arm_level_c_1 hB hX hN cv pic tg ca n tb pb lb bb cb sb pg bg cf x g6 u k pa qa dx dy lv bw bh pf qf mo a1 a2 a3 a4 a5 a6 a7 th pk nc pp gg ee f1 f2 f3 f4 f5 f6 f7 oa of z1 z2 z3 z4 hc (CI_16 hCI) hk (okC_lv ok).1 (okC_lv ok).2 h hI (e9.symm.trans h) (pq_app (crP cI pre) (crP cI post)) hx hb hml hown hW0 hSA hA hXs hbl hbA hi hL hc9 hs9 hz1 hz2 hz3 hz4 (fun u9 e9 o9 H locs ls hP hD hS hl => kk _ _ H locs ls (by omega) (by omega) ⟨pic, tg, ca, n, tb, pb, lb, bb, cb, sb, pg, bg, cf, x, g6, u9, a1, a2, a3, a4, a5, a6, a7, 1, pk, nc, pp, gg, e9, f1, f2, f3, f4, f5, f6, f7, o9, pre ++ (k, pa, qa, dx, dy, lv, bw, bh, pf, qf) :: post, hRel, hCI, (pq_permP (lw_in cI _ _ (k, pa, qa, dx, dy, lv, bw, bh, pf, qf) pre post) hP), (pq_permD (lw_in cI _ _ (k, pa, qa, dx, dy, lv, bw, bh, pf, qf) pre post) hD), hS, hl⟩) H locs ls hP hD hS hl
set_option maxHeartbeats 4000000 in
set_option maxRecDepth 100000 in
theorem op_band {l : Launch} {s0 : State} {a0 : Array Value} {D : va_G} {cI cL cC : ClassId} (hB : pq_B l s0 a0 D cI cL cC) (hX : pq_BX s0) (hN : pq_BN s0) {b L i : Nat} {xs : Nat → Int32} {p : Program} {e : Env} {s : State} {m : MethodId} {below : List Frame} {meth : Method} {c : Code} {A : Nat → Prop} {Q : State → Prop} {cells slots : Nat} (hx : p.tables.exec = Jvm.exec) (hb : c.code = code) (hml : c.maxLocals = 7) (hown : s.vm.findClass R_Law = some m.cls) (hW0 : s0.WarmedH s.vm) (hSA : pq_StA s0 s A) (hA : ∀ q : Nat, s.heap.size ≤ q → A q) (hXs : va_X b L xs s s.heap) (hbl : b < s.heap.size) (hbA : ¬ A b) (hi : i + 8 ≤ L) (hL : L ≤ 4096) (hc9 : cells + 3 ≤ room_1.cells) (hs9 : slots + 73 ≤ room_1.slots) (cv mo oa : Nat)
    (kk : ∀ (c9 s9 : Nat) (H : Heap) (locs : List Loc) (ls : Array Slot), c9 ≤ cells + 3 → s9 ≤ slots + 73 → LwS D cI cL cC A s.heap b cv mo oa i H locs ls → W p l e room_1 s m #[Value.ref b] below meth c H locs c9 s9 Q (F0 m 1370 ls [])) :
    ∀ (H : Heap) (locs : List Loc) (ls : Array Slot), LwS D cI cL cC A s.heap b cv mo oa i H locs ls → W p l e room_1 s m #[Value.ref b] below meth c H locs cells slots Q (F0 m 728 ls []) := by
  intro H locs ls hLS
  obtain ⟨pic, tg, ca, n, tb, pb, lb, bb, cb, sb, pg, bg, cf, x, g6, u, a1, a2, a3, a4, a5, a6, a7, th, pk, nc, pp, gg, ee, f1, f2, f3, f4, f5, f6, f7, of, cs, hRel, hCI, hP, hD, hS, hl⟩ := hLS
  have hI := mI_of hRel hCI
  have hcn : nc = n := hCI.2.1
  obtain ⟨z1, hz1⟩ : ∃ z : Int32, xs (nI i + 1).toNatClampNeg = z := ⟨_, rfl⟩
  obtain ⟨z2, hz2⟩ : ∃ z : Int32, xs (nI i + 2).toNatClampNeg = z := ⟨_, rfl⟩
  obtain ⟨z3, hz3⟩ : ∃ z : Int32, xs (nI i + 3).toNatClampNeg = z := ⟨_, rfl⟩
  obtain ⟨z4, hz4⟩ : ∃ z : Int32, xs (nI i + 4).toNatClampNeg = z := ⟨_, rfl⟩
  obtain ⟨z5, hz5⟩ : ∃ z : Int32, xs (nI i + 5).toNatClampNeg = z := ⟨_, rfl⟩
  rcases fIn_01 n z2 with hc | hc
  · exact arm_band_n_1 hB hX hN cv pic tg ca n tb pb lb bb cb sb pg bg cf x g6 u mo a1 a2 a3 a4 a5 a6 a7 th pk nc pp gg ee f1 f2 f3 f4 f5 f6 f7 oa of z1 z2 z3 z4 z5 hc hI (N_band (by rw [hcn]; exact hc)) (crP cI cs) hx hb hml hown hW0 hSA hA hXs hbl hbA hi hL hc9 hs9 hz1 hz2 hz3 hz4 hz5 (fun u9 e9 o9 H locs ls hP hD hS hl => kk _ _ H locs ls (by omega) (by omega) ⟨pic, tg, ca, n, tb, pb, lb, bb, cb, sb, pg, bg, cf, x, g6, u9, a1, a2, a3, a4, a5, a6, a7, 1, pk, nc, pp, gg, e9, f1, f2, f3, f4, f5, f6, f7, o9, cs, hRel, hCI, hP, hD, hS, hl⟩) H locs ls hP hD hS hl
  · obtain ⟨k, pa, qa, dx, dy, lv, bw, bh, pf, qf, pre, post, hcs, hJ, hJ16, hk, ok, rc⟩ := CI_in hCI hc
    subst hcs
    have hNc : fIn nc z2 = 1 := by rw [hcn]; exact hc
    have hP := pq_permP (lw_out cI _ _ _ pre post) hP
    have hD := pq_permD (lw_out cI _ _ _ pre post) hD
    obtain ⟨e9, v9⟩ := M_band hRel hNc hJ hJ16 ok rc z1 z3 z4 z5
    have h01 : xBand g6 lv z1 z3 z4 z5 = 0 ∨ xBand g6 lv z1 z3 z4 z5 = 1 := by unfold xBand; (repeat' split) <;> simp
    rcases h01 with h | h
    · exact arm_band_c_0 hB hX hN cv pic tg ca n tb pb lb bb cb sb pg bg cf x g6 u k pa qa dx dy lv bw bh pf qf mo a1 a2 a3 a4 a5 a6 a7 th pk nc pp gg ee f1 f2 f3 f4 f5 f6 f7 oa of z1 z2 z3 z4 z5 hc (CI_16 hCI) hk (okC_lv ok).1 (okC_lv ok).2 h hI (e9.symm.trans h) (v9 h) (pq_app (crP cI pre) (crP cI post)) hx hb hml hown hW0 hSA hA hXs hbl hbA hi hL hc9 hs9 hz1 hz2 hz3 hz4 hz5 (fun u9 e9 o9 H locs ls hP hD hS hl => kk _ _ H locs ls (by omega) (by omega) ⟨pic, tg, ca, n, tb, pb, lb, bb, cb, sb, pg, bg, cf, x, g6, u9, a1, a2, a3, a4, a5, a6, a7, 0, pk, nc, pp, gg, e9, f1, f2, f3, f4, f5, f6, f7, o9, pre ++ (k, pa, qa, dx, dy, lv, bw, bh, pf, qf) :: post, hRel, hCI, (pq_permP (lw_in cI _ _ (k, pa, qa, dx, dy, lv, bw, bh, pf, qf) pre post) hP), (pq_permD (lw_in cI _ _ (k, pa, qa, dx, dy, lv, bw, bh, pf, qf) pre post) hD), hS, hl⟩) H locs ls hP hD hS hl
    · exact arm_band_c_1 hB hX hN cv pic tg ca n tb pb lb bb cb sb pg bg cf x g6 u k pa qa dx dy lv bw bh pf qf mo a1 a2 a3 a4 a5 a6 a7 th pk nc pp gg ee f1 f2 f3 f4 f5 f6 f7 oa of z1 z2 z3 z4 z5 hc (CI_16 hCI) hk (okC_lv ok).1 (okC_lv ok).2 h hI (e9.symm.trans h) (pq_app (crP cI pre) (crP cI post)) hx hb hml hown hW0 hSA hA hXs hbl hbA hi hL hc9 hs9 hz1 hz2 hz3 hz4 hz5 (fun u9 e9 o9 H locs ls hP hD hS hl => kk _ _ H locs ls (by omega) (by omega) ⟨pic, tg, ca, n, tb, pb, lb, bb, cb, sb, pg, bg, cf, x, g6, u9, a1, a2, a3, a4, a5, a6, a7, 1, pk, nc, pp, gg, e9, f1, f2, f3, f4, f5, f6, f7, o9, pre ++ (k, pa, qa, dx, dy, lv, bw, bh, pf, qf) :: post, hRel, hCI, (pq_permP (lw_in cI _ _ (k, pa, qa, dx, dy, lv, bw, bh, pf, qf) pre post) hP), (pq_permD (lw_in cI _ _ (k, pa, qa, dx, dy, lv, bw, bh, pf, qf) pre post) hD), hS, hl⟩) H locs ls hP hD hS hl
