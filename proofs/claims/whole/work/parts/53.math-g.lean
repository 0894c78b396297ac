section PqMath7
variable {pk nc n t cx q bn pn kb : Int32} {x g pp gg f1 f2 f3 f4 f5 f6 f7 pf qf : Nat → Int32} {dx dy lv bw bh : Int32} {J : Nat} {r V a b c d w h : Nat}
/-- the exponents of a level's blocks, as naturals, and as the reference has them -/
theorem c_bws (ok : okC dx dy lv bw bh pf qf) (rc : RC J f1 f2 f3 f4 f5 f6 f7 dx dy lv bw bh pf qf) (ec : cx.toNatClampNeg = J) (hcx : CX x g f1 f2 f3 f6 f7 pf qf dx dy lv t cx q r V a b c d w h) : ∃ K M : Nat, K ≤ 15 ∧ M ≤ 15 ∧ fBW bw pf q = nI K ∧ fBW bh qf q = nI M ∧ mBW f6 f4 cx q = nI K ∧ mBW f7 f5 cx q = nI M := by
  obtain ⟨e1, e2, h3, h4, ha, hb, hc, hd, e5, e6, e7, e8, e9, e10, e11, e12, hw, hh, h13⟩ := hcx
  obtain ⟨-, -, -, o4, o5, -⟩ := ok
  obtain ⟨K, hK, eK⟩ := c_bwn o4 e9 e1 (by omega) hw (fun z => (h13 z).1)
  obtain ⟨M, hM, eM⟩ := c_bwn o5 e10 e1 (by omega) hh (fun z => (h13 z).2)
  have k1 := c_bw (f4 := f4) (f6 := f6) (cx := cx) (bw := bw) (by rw [ec]; exact rc.2.2.2.1) (e11.trans e9.symm)
  have k2 := c_bw (f4 := f5) (f6 := f7) (cx := cx) (bw := bh) (by rw [ec]; exact rc.2.2.2.2.1) (e12.trans e10.symm)
  exact ⟨K, M, hK, hM, eK, eM, k1.symm.trans eK, k2.symm.trans eM⟩
theorem M_share (hRel : Rel pk x g pp gg) (hN : fIn nc cx = 1) (hJ : cx = nI J) (hJ16 : J < 16) (ok : okC dx dy lv bw bh pf qf) (rc : RC J f1 f2 f3 f4 f5 f6 f7 dx dy lv bw bh pf qf) (t q bn pn w : Int32) :
    xShare g (bDiv (bTake x g t) dx dy) lv pf qf t q bn pn w = mxShare pk pp gg f1 f2 f3 f6 f7 nc t cx q bn pn w ∧ (xShare g (bDiv (bTake x g t) dx dy) lv pf qf t q bn pn w = 0 → fEoc (bShare (bBand (bDiv (bTake x g t) dx dy) lv q bn) (gPrec (bLev (bDiv (bTake x g t) dx dy) lv q) pf qf q) q pn) (gBlk (bShare (bBand (bDiv (bTake x g t) dx dy) lv q bn) (gPrec (bLev (bDiv (bTake x g t) dx dy) lv q) pf qf q) q pn) bw bh pf qf q) w = mvShare (mSE pp gg f1 f2 f3 f6 f7 t cx q bn pn) f4 f5 f6 f7 cx q w) := by
  have ec : cx.toNatClampNeg = J := by rw [hJ]; exact nI_clamp (by omega)
  have hx : xShare g (bDiv (bTake x g t) dx dy) lv pf qf t q bn pn w = if fWithin w 0 5 = 0 then 1 else if fGHas g t = 0 then 1 else if fWithin q 0 lv = 0 then 1 else if fWithin bn (fHalv q) (fLast q) = 0 then 1 else if fGHas (gPrec (bLev (bDiv (bTake x g t) dx dy) lv q) pf qf q) pn = 0 then 1 else 0 := rfl
  have hm : mxShare pk pp gg f1 f2 f3 f6 f7 nc t cx q bn pn w = if fWithin w 0 5 = 0 then 1 else if fGHas g t = 0 then 1 else if fWithin q 0 lv = 0 then 1 else if fWithin bn (fHalv q) (fLast q) = 0 then 1 else if mPlace (mLE pp gg f1 f2 f3 t cx q) f6 f7 cx q pn < 0 then 1 else 0 := by
    unfold mxShare
    rw [mw_if, if_neg (pq_1n0 hN), R_okT hRel, ec, rc.2.2.1, mInL_eq, mIsB_eq]
  rw [hx, hm]
  by_cases g1 : fWithin w 0 5 = 0
  · rw [if_pos g1, if_pos g1]
    exact ⟨rfl, fun z => absurd z (by decide)⟩
  rw [if_neg g1, if_neg g1]
  by_cases g2 : fGHas g t = 0
  · rw [if_pos g2, if_pos g2]
    exact ⟨rfl, fun z => absurd z (by decide)⟩
  rw [if_neg g2, if_neg g2]
  by_cases g3 : fWithin q 0 lv = 0
  · rw [if_pos g3, if_pos g3]
    exact ⟨rfl, fun z => absurd z (by decide)⟩
  rw [if_neg g3, if_neg g3]
  by_cases g4 : fWithin bn (fHalv q) (fLast q) = 0
  · rw [if_pos g4, if_pos g4]
    exact ⟨rfl, fun z => absurd z (by decide)⟩
  rw [if_neg g4, if_neg g4]
  have ht := n01 (fGHas_01 _ _) g2
  obtain ⟨rfl, rfl, rfl, hR⟩ := R_pic hRel ht
  obtain ⟨r, V, a, b, c, d, w9, h, hcx⟩ := c_cx hR ht (n01 (fWithin_01 _ _ _) g3) hJ hJ16 ok rc
  obtain ⟨K, M, hK, hM, eK, eM, mK, mM⟩ := c_bws ok rc ec hcx
  have hcx0 := hcx
  obtain ⟨e1, e2, h3, h4, ha, hb, hc, hd, e5, e6, e7, e8, e9, e10, e11, e12, hw, hh, h13⟩ := hcx
  have k := c_has (c_hf (n := V - r) ha) (c_hf (n := V - r) hb) (c_hf (n := V - r) hc) (c_hf (n := V - r) hd) hw hh e11 e12 pn
  rw [e5, e7, e8]
  unfold gPrec
  rw [e9, e10]
  by_cases g5 : fGHas (gPow (bq (hf (V - r) a) (hf (V - r) b) (hf (V - r) c) (hf (V - r) d)) (nI w9) (nI h)) pn = 0
  · rw [if_pos g5, if_pos (k.mp g5)]
    exact ⟨rfl, fun z => absurd z (by decide)⟩
  rw [if_neg g5, if_neg (fun z => g5 (k.mpr z))]
  refine ⟨rfl, fun _ => ?_⟩
  obtain ⟨s0, s1, s2, s3, l0, l1, l2, l3, hs, z1, z2, -⟩ := c_share hcx0 (n01 (fWithin_01 _ _ _) g4) (n01 (fGHas_01 _ _) g5)
  rw [z1, z2]
  unfold gBlk mvShare
  rw [eK, eM, mK, mM]
  obtain ⟨b4, b5⟩ := c_blkc l0 l1 l2 l3 hs hK hM
  exact c_eoc (n01 (fWithin_01 _ _ _) g1) b4 b5
/-- the blocks of a share that there are, and their boxes -/
theorem c_blk {s0 s1 s2 s3 K M : Nat} (l0 : s0 ≤ 32767) (l1 : s1 ≤ 32767) (l2 : s2 ≤ 32767) (l3 : s3 ≤ 32767) (hs : (s0 < s2 ∧ s1 < s3) ∨ (s0 = 0 ∧ s1 = 0 ∧ s2 = 0 ∧ s3 = 0)) (hK : K ≤ 15) (hM : M ≤ 15) {kb : Int32} (hk : ¬ kb < 0) :
    ((if fGHas (gPow (bq s0 s1 s2 s3) (nI K) (nI M)) kb = 0 then 1 else 0) = (if mSq (nI s0) (nI s2) (nI K) = 0 then 1 else if kb / mSq (nI s0) (nI s2) (nI K) < mSq (nI s1) (nI s3) (nI M) then 0 else (1 : Int32))) ∧ (fGHas (gPow (bq s0 s1 s2 s3) (nI K) (nI M)) kb = 1 → bTake (bq s0 s1 s2 s3) (gPow (bq s0 s1 s2 s3) (nI K) (nI M)) kb = mKeep (bq s0 s1 s2 s3) ((nI s0 >>> (nI K &&& 31)) + (kb - kb / mSq (nI s0) (nI s2) (nI K) * mSq (nI s0) (nI s2) (nI K))) ((nI s1 >>> (nI M &&& 31)) + (kb / mSq (nI s0) (nI s2) (nI K))) (nI K) (nI M)) := by
  rcases hs with hs | ⟨rfl, rfl, rfl, rfl⟩
  · obtain ⟨P, hP, rfl⟩ := nI_of hk
    have p1 : cn s0 s2 K ≤ 32767 := Nat.le_trans (cn_le hs.1) l2
    have p2 : cn s1 s3 M ≤ 32767 := Nat.le_trans (cn_le hs.2) l3
    have n1 : 0 < cn s0 s2 K := by unfold cn; omega
    have hPb : cn s0 s2 K * cn s1 s3 M < 2 ^ 31 := by
      have : cn s0 s2 K * cn s1 s3 M ≤ 32767 * 32767 := Nat.mul_le_mul p1 p2
      omega
    have hd9 : P / cn s0 s2 K < 2 ^ 31 := Nat.lt_of_le_of_lt (Nat.div_le_self _ _) hP
    rw [mg_sq hs.1 (by omega) hK, mg_sq hs.2 (by omega) hM, if_neg (nI_ne0 n1 (by omega)), pk_div hP n1 (by omega), pk_mul, pk_sub (Nat.div_mul_le_self _ _)]
    by_cases hlt : P < cn s0 s2 K * cn s1 s3 M
    · have f1 : fGHas (gPow (bq s0 s1 s2 s3) (nI K) (nI M)) (nI P) = 1 := by
        rw [mg_pow (by omega) (by omega) hK hM hs.1 hs.2]
        exact mb_ghas1 hPb hlt
      rw [f1, if_neg m01, if_pos (nI_lt (Nat.div_lt_of_lt_mul hlt) (by omega))]
      refine ⟨rfl, fun _ => ?_⟩
      obtain ⟨m1, m2, m3, m4, m5, m6⟩ := mg_corner l2 l3 hK hM hs.1 hs.2 hlt
      have em : P - P / cn s0 s2 K * cn s0 s2 K = P % cn s0 s2 K := by
        have := Nat.div_add_mod P (cn s0 s2 K)
        rw [Nat.mul_comm] at this
        omega
      rw [em, ma_shr (by omega) (by omega), ma_shr (by omega) (by omega), nI_add, nI_add, mg_keep hK hM (by omega) (by omega)]
      unfold bTake
      rw [m1, m2, m3, m4]
    · have f0 : fGHas (gPow (bq s0 s1 s2 s3) (nI K) (nI M)) (nI P) = 0 := by
        rw [mg_pow (by omega) (by omega) hK hM hs.1 hs.2]
        refine (fGHas_01 _ _).resolve_right (fun z => ?_)
        obtain ⟨K, hK, eK⟩ := mb_ghas hPb z
        rw [nI_eq hP (by omega)] at eK
        omega
      have hq : ¬ P / cn s0 s2 K < cn s1 s3 M := fun z => hlt ((Nat.div_lt_iff_lt_mul n1).mp z |> (fun y => by rw [Nat.mul_comm]; exact y))
      rw [f0, if_pos rfl, if_neg (fun z => hq ((nI_ltI hd9 (by omega)).mp z))]
      exact ⟨rfl, fun z => absurd z (by decide)⟩
  · have f0 : fGHas (gPow (bq 0 0 0 0) (nI K) (nI M)) kb = 0 := mg_ghas0 (mg_pow45 (by decide)).1
    rw [f0, if_pos rfl, if_pos (mg_sq0 (by omega) (by omega))]
    exact ⟨rfl, fun z => absurd z (by decide)⟩
theorem M_block (hRel : Rel pk x g pp gg) (hN : fIn nc cx = 1) (hJ : cx = nI J) (hJ16 : J < 16) (ok : okC dx dy lv bw bh pf qf) (rc : RC J f1 f2 f3 f4 f5 f6 f7 dx dy lv bw bh pf qf) (t q bn pn kb w : Int32) :
    xBlock g (bDiv (bTake x g t) dx dy) lv bw bh pf qf t q bn pn kb w = mxBlock pk pp gg f1 f2 f3 f4 f5 f6 f7 nc t cx q bn pn kb w ∧ (xBlock g (bDiv (bTake x g t) dx dy) lv bw bh pf qf t q bn pn kb w = 0 → fEdge (bTake (bShare (bBand (bDiv (bTake x g t) dx dy) lv q bn) (gPrec (bLev (bDiv (bTake x g t) dx dy) lv q) pf qf q) q pn) (gBlk (bShare (bBand (bDiv (bTake x g t) dx dy) lv q bn) (gPrec (bLev (bDiv (bTake x g t) dx dy) lv q) pf qf q) q pn) bw bh pf qf q) kb) w = mvBlock (mSE pp gg f1 f2 f3 f6 f7 t cx q bn pn) f4 f5 f6 f7 cx q kb w) := by
  have ec : cx.toNatClampNeg = J := by rw [hJ]; exact nI_clamp (by omega)
  have hx : xBlock g (bDiv (bTake x g t) dx dy) lv bw bh pf qf t q bn pn kb w = if fWithin w 0 3 = 0 then 1 else if fGHas g t = 0 then 1 else if fWithin q 0 lv = 0 then 1 else if fWithin bn (fHalv q) (fLast q) = 0 then 1 else if fGHas (gPrec (bLev (bDiv (bTake x g t) dx dy) lv q) pf qf q) pn = 0 then 1 else if fGHas (gBlk (bShare (bBand (bDiv (bTake x g t) dx dy) lv q bn) (gPrec (bLev (bDiv (bTake x g t) dx dy) lv q) pf qf q) q pn) bw bh pf qf q) kb = 0 then 1 else 0 := rfl
  have hm : mxBlock pk pp gg f1 f2 f3 f4 f5 f6 f7 nc t cx q bn pn kb w = if fWithin w 0 3 = 0 then 1 else if kb < 0 then 1 else if fGHas g t = 0 then 1 else if fWithin q 0 lv = 0 then 1 else if fWithin bn (fHalv q) (fLast q) = 0 then 1 else if mPlace (mLE pp gg f1 f2 f3 t cx q) f6 f7 cx q pn < 0 then 1 else if mSq ((mSE pp gg f1 f2 f3 f6 f7 t cx q bn pn) 0) ((mSE pp gg f1 f2 f3 f6 f7 t cx q bn pn) 2) (mBW f6 f4 cx q) = 0 then 1 else if kb / mSq ((mSE pp gg f1 f2 f3 f6 f7 t cx q bn pn) 0) ((mSE pp gg f1 f2 f3 f6 f7 t cx q bn pn) 2) (mBW f6 f4 cx q) < mSq ((mSE pp gg f1 f2 f3 f6 f7 t cx q bn pn) 1) ((mSE pp gg f1 f2 f3 f6 f7 t cx q bn pn) 3) (mBW f7 f5 cx q) then 0 else 1 := by
    unfold mxBlock
    rw [mw_if, if_neg (pq_1n0 hN), R_okT hRel, ec, rc.2.2.1, mInL_eq, mIsB_eq]
  rw [hx, hm]
  by_cases g1 : fWithin w 0 3 = 0
  · rw [if_pos g1, if_pos g1]
    exact ⟨rfl, fun z => absurd z (by decide)⟩
  rw [if_neg g1, if_neg g1]
  by_cases g0 : kb < 0
  · have f0 : ∀ G : Nat → Int32, fGHas G kb = 0 := fun G => by unfold fGHas; rw [if_pos g0]
    rw [if_pos g0, f0 (gBlk _ _ _ _ _ _), if_pos rfl]
    have e : (if fGHas g t = 0 then (1 : Int32) else if fWithin q 0 lv = 0 then 1 else if fWithin bn (fHalv q) (fLast q) = 0 then 1 else if fGHas (gPrec (bLev (bDiv (bTake x g t) dx dy) lv q) pf qf q) pn = 0 then 1 else 1) = 1 := by
      (repeat' split) <;> rfl
    rw [e]
    exact ⟨rfl, fun z => absurd z (by decide)⟩
  rw [if_neg g0]
  by_cases g2 : fGHas g t = 0
  · rw [if_pos g2, if_pos g2]
    exact ⟨rfl, fun z => absurd z (by decide)⟩
  rw [if_neg g2, if_neg g2]
  by_cases g3 : fWithin q 0 lv = 0
  · rw [if_pos g3, if_pos g3]
    exact ⟨rfl, fun z => absurd z (by decide)⟩
  rw [if_neg g3, if_neg g3]
  by_cases g4 : fWithin bn (fHalv q) (fLast q) = 0
  · rw [if_pos g4, if_pos g4]
    exact ⟨rfl, fun z => absurd z (by decide)⟩
  rw [if_neg g4, if_neg g4]
  have ht := n01 (fGHas_01 _ _) g2
  obtain ⟨rfl, rfl, rfl, hR⟩ := R_pic hRel ht
  obtain ⟨r, V, a, b, c, d, w9, h, hcx⟩ := c_cx hR ht (n01 (fWithin_01 _ _ _) g3) hJ hJ16 ok rc
  obtain ⟨K, M, hK, hM, eK, eM, mK, mM⟩ := c_bws ok rc ec hcx
  have hcx0 := hcx
  obtain ⟨e1, e2, h3, h4, ha, hb, hc, hd, e5, e6, e7, e8, e9, e10, e11, e12, hw, hh, h13⟩ := hcx
  have k := c_has (c_hf (n := V - r) ha) (c_hf (n := V - r) hb) (c_hf (n := V - r) hc) (c_hf (n := V - r) hd) hw hh e11 e12 pn
  rw [e5, e7, e8]
  unfold gPrec
  rw [e9, e10]
  by_cases g5 : fGHas (gPow (bq (hf (V - r) a) (hf (V - r) b) (hf (V - r) c) (hf (V - r) d)) (nI w9) (nI h)) pn = 0
  · rw [if_pos g5, if_pos (k.mp g5)]
    exact ⟨rfl, fun z => absurd z (by decide)⟩
  rw [if_neg g5, if_neg (fun z => g5 (k.mpr z))]
  obtain ⟨s0, s1, s2, s3, l0, l1, l2, l3, hs, z1, z2, -⟩ := c_share hcx0 (n01 (fWithin_01 _ _ _) g4) (n01 (fGHas_01 _ _) g5)
  rw [z1, z2]
  unfold gBlk mvBlock
  rw [eK, eM, mK, mM]
  obtain ⟨b4, b5⟩ := c_blk l0 l1 l2 l3 hs hK hM g0
  refine ⟨b4, fun z => ?_⟩
  have h1 : fGHas (gPow (bq s0 s1 s2 s3) (nI K) (nI M)) kb = 1 := n01 (fGHas_01 _ _) (fun y => by rw [if_pos y] at z; exact absurd z (by decide))
  rw [b5 h1]
  rfl
end PqMath7
