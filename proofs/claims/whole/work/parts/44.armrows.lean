abbrev pq_app (a b : va_W) : va_W := a ++ b
theorem pq_out0 {f : Nat → Int64} {v w : Int32} (h : v = w) : lg_cmp ((vp_updL f (0 : Int32).toNatClampNeg v.toInt64) (0 : Int32).toNatClampNeg) w.toInt64 = 0 := by
  rw [h]
  unfold vp_updL lg_cmp
  simp
theorem pq_sinN {i L k : Nat} (hi : i + 8 ≤ L) (hL : L ≤ 4096) (hk : k < 8) : vp_in (nI i + nI k) L := by
  rw [nI_add]
  exact vp_in_nI (by omega) (by omega)
theorem pq_sin1 {i L : Nat} (hi : i + 8 ≤ L) (hL : L ≤ 4096) : vp_in (nI i + 1) L := pq_sinN (k := 1) hi hL (by decide)
theorem pq_sin2 {i L : Nat} (hi : i + 8 ≤ L) (hL : L ≤ 4096) : vp_in (nI i + 2) L := pq_sinN (k := 2) hi hL (by decide)
theorem pq_sin3 {i L : Nat} (hi : i + 8 ≤ L) (hL : L ≤ 4096) : vp_in (nI i + 3) L := pq_sinN (k := 3) hi hL (by decide)
theorem pq_sin4 {i L : Nat} (hi : i + 8 ≤ L) (hL : L ≤ 4096) : vp_in (nI i + 4) L := pq_sinN (k := 4) hi hL (by decide)
theorem pq_sin5 {i L : Nat} (hi : i + 8 ≤ L) (hL : L ≤ 4096) : vp_in (nI i + 5) L := pq_sinN (k := 5) hi hL (by decide)
theorem pq_sin6 {i L : Nat} (hi : i + 8 ≤ L) (hL : L ≤ 4096) : vp_in (nI i + 6) L := pq_sinN (k := 6) hi hL (by decide)
theorem pq_sin7 {i L : Nat} (hi : i + 8 ≤ L) (hL : L ≤ 4096) : vp_in (nI i + 7) L := pq_sinN (k := 7) hi hL (by decide)
section PqApp
variable {p : Program} {l : Launch} {e : Env} {R : Room} {s : State} {m : MethodId} {args : Array Value} {below : List Frame} {meth : Method} {c : Code} {H : Heap} {locs : List Loc} {cells slots : Nat} {Q : State → Prop}
variable {cl : List vw_C} {D : va_G} {mc ms : Nat} {rest st0 : List Value} {pc : Nat} {ls : Array Slot} {wc wr : va_W} {A : Nat → Prop} {H0 : Heap} {a : Array Value}
theorem pq_nodup {w : va_W} : va_D A w ↔ (w.map Prod.fst).Nodup ∧ ∀ q ∈ w, A q.1 := by
  constructor
  · intro h
    refine ⟨?_, fun q hq => ?_⟩
    · unfold List.Nodup
      rw [List.pairwise_iff_getElem]
      intro i j hi hj hij he
      rw [List.length_map] at hi hj
      rw [List.getElem_map, List.getElem_map] at he
      have := h.1 i j w[i] w[j] (List.getElem?_eq_getElem hi) (List.getElem?_eq_getElem hj) he
      omega
    · obtain ⟨k, hk⟩ := List.getElem?_of_mem hq
      exact h.2 k q hk
  · intro h
    refine ⟨fun i j p q hp hq hpq => ?_, fun k q hk => h.2 q (List.mem_of_getElem? hk)⟩
    have hn := List.pairwise_iff_getElem.mp h.1
    have e1 : (w.map Prod.fst)[i]? = some p.1 := by rw [List.getElem?_map, hp]; rfl
    have e2 : (w.map Prod.fst)[j]? = some p.1 := by rw [List.getElem?_map, hq, hpq]; rfl
    obtain ⟨l1, g1⟩ := List.getElem?_eq_some_iff.mp e1
    obtain ⟨l2, g2⟩ := List.getElem?_eq_some_iff.mp e2
    rcases Nat.lt_trichotomy i j with hlt | hlt | hlt
    · exact absurd (g1.trans g2.symm) (hn i j l1 l2 hlt)
    · exact hlt
    · exact absurd (g2.trans g1.symm) (hn j i l2 l1 hlt)
theorem pq_permD {w w' : va_W} (h : w.Perm w') (hD : va_D A w) : va_D A w' := by
  rw [pq_nodup] at hD ⊢
  exact ⟨(h.map Prod.fst).nodup_iff.mp hD.1, fun q hq => hD.2 q (h.mem_iff.mpr hq)⟩
theorem pq_permP {w w' : va_W} (h : w.Perm w') (hP : va_P D cl w H) : va_P D cl w' H := by
  intro k q hk
  obtain ⟨j, hj⟩ := List.getElem?_of_mem (h.mem_iff.mpr (List.mem_of_getElem? hk))
  exact hP j q hj
theorem pq_join {wz : va_W} {H1 : Heap} (hP : va_P D cl (wc ++ wr) H) (hD : va_D A (wc ++ wr)) (hk : ∀ q : Nat, q < H.size → ¬ va_A wc H.size q → H1[q]? = H[q]?) (hf : ∀ q, va_A wc H.size q → A q) (hP1 : va_P D cl wz H1) (hD1 : va_D (va_A wc H.size) wz) : va_P D cl (wz ++ wr) H1 ∧ va_D A (wz ++ wr) := by
  have nd := pq_nodup.mp hD
  have nz := pq_nodup.mp hD1
  rw [List.map_append, List.nodup_append] at nd
  have key : ∀ q ∈ wr, q.1 < H.size ∧ ¬ va_A wc H.size q.1 := by
    intro q hq
    obtain ⟨j, hj⟩ := List.getElem?_of_mem (List.mem_append_right wc hq)
    have hlt := (hP j q hj).lt
    refine ⟨hlt, fun h => ?_⟩
    rcases h with ⟨k2, e2, h⟩ | h
    · exact nd.1.2.2 q.1 (List.mem_map.mpr ⟨_, List.mem_of_getElem? h, rfl⟩) q.1 (List.mem_map.mpr ⟨q, hq, rfl⟩) rfl
    · omega
  refine ⟨?_, ?_⟩
  · intro k q hkq
    rcases List.mem_append.mp (List.mem_of_getElem? hkq) with h | h
    · obtain ⟨j, hj⟩ := List.getElem?_of_mem h
      exact hP1 j q hj
    · obtain ⟨j, hj⟩ := List.getElem?_of_mem (List.mem_append_right wc h)
      obtain ⟨h1, h2⟩ := key q h
      exact (hP j q hj).kept (hk q.1 h1 h2)
  · rw [pq_nodup, List.map_append, List.nodup_append]
    refine ⟨⟨nz.1, nd.1.2.1, ?_⟩, ?_⟩
    · intro a1 h1 b1 h2 he
      obtain ⟨q1, g1, rfl⟩ := List.mem_map.mp h1
      obtain ⟨q2, g2, rfl⟩ := List.mem_map.mp h2
      exact (key q2 g2).2 (he ▸ nz.2 q1 g1)
    · intro q hq
      rcases List.mem_append.mp hq with h | h
      · exact hf _ (nz.2 q h)
      · exact nd.2 q (List.mem_append_right wc h)
/-- an int comes back, and cells that the call has made, ahead of the rest -/
theorem pq_ciz {v : Int32} {wz : (Nat → Nat) → va_W} (hr : va_Run p l e R s m args below meth c H locs cells slots mc ms (F0 m pc ls st0) rest (va_Qi (fun r (_ : Nat → Nat) => r = v) (fun z t => va_P D cl (wz z) t.heap ∧ va_D (va_A wc H.size) (wz z)) (va_A wc H.size) a) (va_A wc H.size))
    (hP : va_P D cl (wc ++ wr) H) (hD : va_D A (wc ++ wr)) (hS : va_S A H0 H locs) (hA : ∀ q : Nat, H0.size ≤ q → A q) (is : List Nat) (hC : is.map (fun i => (wc ++ wr)[i]?) = wc.map some)
    (kk : ∀ (z : Nat → Nat) (H1 : Heap) (locs1 : List Loc), va_P D cl (wz z ++ wr) H1 → va_D A (wz z ++ wr) → va_S A H0 H1 locs1 → W p l e R s m args below meth c H1 locs1 (cells + mc) (slots + ms) Q (F0 m (pc + 3) ls (.int v :: rest))) : W p l e R s m args below meth c H locs cells slots Q (F0 m pc ls st0) := by
  have hFc := va_free (wc := wc) hD hS hA is hC
  refine va_calli hr hS (fun q _ h => hFc q h) hFc (fun r z t H1 locs1 ht hvm hw hB hz hk hS1 => ?_)
  obtain ⟨hB1, hB2⟩ := hB
  have hB1 : va_P _ _ _ t.heap := hB1
  rw [ht] at hB1
  obtain ⟨hP2, hD2⟩ := pq_join hP hD hk hFc hB1 hB2
  have hw : r = v := hw
  subst hw
  exact kk z H1 locs1 hP2 hD2 hS1
end PqApp
