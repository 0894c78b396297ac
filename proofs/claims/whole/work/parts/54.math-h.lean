section PqMath8
variable {pk nc n t cx q bn pn kb : Int32} {x g pp gg f1 f2 f3 f4 f5 f6 f7 pf qf : Nat → Int32} {dx dy lv bw bh : Int32} {J : Nat} {r V a b c d w h : Nat}
theorem M_where (hRel : Rel pk x g pp gg) (hN : fIn nc cx = 1) (hJ : cx = nI J) (hJ16 : J < 16) (rc : RC J f1 f2 f3 f4 f5 f6 f7 dx dy lv bw bh pf qf) (px py : Int32) :
    xWhere x dx dy px py = mxWhere pk pp f1 f2 nc cx px py ∧ (xWhere x dx dy px py = 0 → fNum g (px.toInt64 * dx.toInt64).toInt32 (py.toInt64 * dy.toInt64).toInt32 = mvWhere pp gg f1 f2 cx px py) := by
  have ec : cx.toNatClampNeg = J := by rw [hJ]; exact nI_clamp (by omega)
  unfold xWhere mxWhere mvWhere
  rw [if_neg (pq_1n0 hN), ec, rc.1, rc.2.1]
  rcases hRel with ⟨rfl, rfl, h4⟩ | ⟨rfl, rfl, rfl, hR⟩
  · have f0 : ∀ u v : Int64, fHas (fQuad 0 0 0 0) u v = 0 := by
      intro u v
      unfold fHas
      show (if lg_cmp u (0 : Int32).toInt64 < 0 then (0 : Int32) else if 0 ≤ lg_cmp u (0 : Int32).toInt64 then 0 else _) = 0
      by_cases h1 : lg_cmp u (0 : Int32).toInt64 < 0
      · rw [if_pos h1]
      · rw [if_neg h1, if_pos (mb_nlt.mp h1)]
    rw [f0, if_pos rfl, if_pos rfl]
    exact ⟨rfl, fun z => absurd z (by decide)⟩
  · rw [if_neg m01]
    refine ⟨?_, fun _ => ?_⟩
    · unfold fHas
      by_cases h1 : lg_cmp (px.toInt64 * dx.toInt64) (pp 0).toInt64 < 0
      · rw [if_pos h1, if_pos h1, if_pos rfl]
      rw [if_neg h1, if_neg h1]
      by_cases h2 : 0 ≤ lg_cmp (px.toInt64 * dx.toInt64) (pp 2).toInt64
      · rw [if_pos h2, if_pos h2, if_pos rfl]
      rw [if_neg h2, if_neg h2]
      by_cases h3 : lg_cmp (py.toInt64 * dy.toInt64) (pp 1).toInt64 < 0
      · rw [if_pos h3, if_pos h3, if_pos rfl]
      rw [if_neg h3, if_neg h3]
      by_cases h4 : 0 ≤ lg_cmp (py.toInt64 * dy.toInt64) (pp 3).toInt64
      · rw [if_pos h4, if_neg (mb_nlt.mpr h4), if_pos rfl]
      · rw [if_neg h4, if_pos (mb_nle.mp h4), if_neg m01]
    · obtain ⟨X0, X1, X2, X3, G0, G1, G2, G3, C, R, rfl, rfl, h1, h2, h3, h4, h5, h6, h7, h8, h9, h10, hC, hR, h11⟩ := hR
      unfold fNum
      have e2 : ¬ (gq G0 G1 G2 G3 C R) 2 < 1 := by
        show ¬ nI G2 < 1
        rw [ma_1]
        exact nI_nlt h7 (by omega)
      have e3 : 1 ≤ (gq G0 G1 G2 G3 C R) 3 := by
        show 1 ≤ nI G3
        rw [ma_1]
        exact nI_le h9 (by omega)
      rw [if_neg e2, if_pos e3]
theorem c_cnt (hcx : CX x g f1 f2 f3 f6 f7 pf qf dx dy lv t cx q r V a b c d w h) (ok : okC dx dy lv bw bh pf qf) (rc : RC J f1 f2 f3 f4 f5 f6 f7 dx dy lv bw bh pf qf) (ec : cx.toNatClampNeg = J) (hbn : fWithin bn (fHalv q) (fLast q) = 1) : fCnt (bq a b c d) lv bw bh pf qf q bn = mBlk x g f1 f2 f3 f4 f5 f6 f7 t cx q bn := by
  obtain ⟨K, M, hK, hM, eK, eM, mK, mM⟩ := c_bws ok rc ec hcx
  obtain ⟨a', b', c', d', l1, l2, l3, l4, q1, q2, -, -⟩ := c_band hcx hbn
  unfold fCnt mBlk gBlk
  rw [mIsB_eq, hbn, if_neg m01, q1, q2, eK, eM, mK, mM]
  by_cases he : fEmpty (bq a' b' c' d') = 0
  · have h12 := (mg_empty (by omega) (by omega) (by omega) (by omega)).mp he
    obtain ⟨b4, b5⟩ := c_blkc l1 l2 l3 l4 (Or.inl h12) hK hM
    rw [if_pos he, b4, b5]
    rfl
  · rw [if_neg he, (mg_pow45 he).1, Int32.zero_mul]
theorem c_cnt0 (hbn : fWithin bn (fHalv q) (fLast q) = 0) : mBlk x g f1 f2 f3 f4 f5 f6 f7 t cx q bn = 0 := by
  unfold mBlk
  rw [mIsB_eq, hbn, if_pos rfl]
theorem c_tot (hR : RP x g) (ht : fGHas g t = 1) (hJ : cx = nI J) (hJ16 : J < 16) (ok : okC dx dy lv bw bh pf qf) (rc : RC J f1 f2 f3 f4 f5 f6 f7 dx dy lv bw bh pf qf) (hV : lv = nI V) (hV2 : V ≤ 32) : ∀ j : Nat, j ≤ V + 1 → fTot (bDiv (bTake x g t) dx dy) lv bw bh pf qf j = mTot x g f1 f2 f3 f4 f5 f6 f7 t cx j := by
  have ec : cx.toNatClampNeg = J := by rw [hJ]; exact nI_clamp (by omega)
  intro j
  induction j with
  | zero => intro _; rfl
  | succ j ih =>
    intro hj
    have ih := ih (by omega)
    rw [fTot, mTot, ih]
    have hq : fWithin (nI j) 0 lv = 1 := by
      rw [hV]
      exact fWithin_iff.mpr ⟨nI_pos (by omega), nI_nlt (by omega) (by omega)⟩
    obtain ⟨r, V', a, b, c, d, w9, h, hcx⟩ := c_cx hR ht hq hJ hJ16 ok rc
    have e5 := hcx.2.2.2.2.2.2.2.2.1
    unfold fSumB
    rw [e5]
    by_cases h0 : nI j = 0
    · rw [if_pos h0, h0]
      rw [h0] at hcx
      have w0 : fWithin 0 (fHalv 0) (fLast 0) = 1 := by decide
      have w1 : fWithin 1 (fHalv 0) (fLast 0) = 0 := by decide
      have w2 : fWithin 2 (fHalv 0) (fLast 0) = 0 := by decide
      have w3 : fWithin 3 (fHalv 0) (fLast 0) = 0 := by decide
      rw [c_cnt hcx ok rc ec w0, c_cnt0 w1, c_cnt0 w2, c_cnt0 w3, Int32.add_zero, Int32.add_zero, Int32.add_zero]
    · rw [if_neg h0]
      have v1 : fHalv (nI j) = 1 := by unfold fHalv; rw [if_neg h0]
      have v2 : fLast (nI j) = 3 := by unfold fLast; rw [if_neg h0]
      have w0 : fWithin 0 (fHalv (nI j)) (fLast (nI j)) = 0 := by rw [v1, v2]; decide
      have w1 : fWithin 1 (fHalv (nI j)) (fLast (nI j)) = 1 := by rw [v1, v2]; decide
      have w2 : fWithin 2 (fHalv (nI j)) (fLast (nI j)) = 1 := by rw [v1, v2]; decide
      have w3 : fWithin 3 (fHalv (nI j)) (fLast (nI j)) = 1 := by rw [v1, v2]; decide
      rw [c_cnt hcx ok rc ec w1, c_cnt hcx ok rc ec w2, c_cnt hcx ok rc ec w3, c_cnt0 w0, Int32.add_zero]
theorem M_part (hRel : Rel pk x g pp gg) (hN : fIn nc cx = 1) (hJ : cx = nI J) (hJ16 : J < 16) (ok : okC dx dy lv bw bh pf qf) (rc : RC J f1 f2 f3 f4 f5 f6 f7 dx dy lv bw bh pf qf) (t w : Int32) :
    xPart g t w = mxPart pk gg nc t cx w ∧ (xPart g t w = 0 → vPart (bDiv (bTake x g t) dx dy) lv bw bh pf qf w = mvPart pp gg f1 f2 f3 f4 f5 f6 f7 t cx w) := by
  have ec : cx.toNatClampNeg = J := by rw [hJ]; exact nI_clamp (by omega)
  refine ⟨?_, fun h0 => ?_⟩
  · unfold mxPart xPart
    rw [mw_if, if_neg (pq_1n0 hN), R_okT hRel]
  · unfold xPart at h0
    obtain ⟨g1, h0⟩ := i10 h0
    obtain ⟨g2, h0⟩ := i10 h0
    have ht := n01 (fGHas_01 _ _) g2
    obtain ⟨rfl, rfl, rfl, hR⟩ := R_pic hRel ht
    obtain ⟨k1, k2⟩ := fWithin_iff.mp (n01 (fWithin_01 _ _ _) g1)
    have hpt := c_pt (t := t) hR hJ hJ16 ok rc
    obtain ⟨V, hV, eV⟩ := ok.2.2.1
    unfold vPart mvPart
    rw [ec, rc.2.2.1, hpt]
    by_cases h4 : w = 4
    · rw [if_pos h4, if_pos (by rw [h4]; decide), eV, nI_clamp (by omega), ← eV]
      exact c_tot hR ht hJ hJ16 ok rc eV hV (V + 1) (Nat.le_refl _)
    · rw [if_neg h4, if_neg]
      intro z
      apply h4
      apply Int32.toInt_inj.mp
      rw [mb_lt] at k2
      rw [mb_le] at z
      omega
end PqMath8
