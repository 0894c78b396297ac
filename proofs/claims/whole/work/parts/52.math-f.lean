section PqMath6
variable {pk nc n t cx q bn pn kb : Int32} {x g pp gg f1 f2 f3 f4 f5 f6 f7 pf qf : Nat → Int32} {dx dy lv bw bh : Int32} {J : Nat} {r V a b c d w h : Nat}
theorem c_cell (hc : c ≤ 32767) (hd : d ≤ 32767) (hw : w ≤ 15) (hh : h ≤ 15) (h1 : a < c) (h2 : b < d) (e6 : f6 ((33 * cx) + q).toNatClampNeg = nI w) (e7 : f7 ((33 * cx) + q).toNatClampNeg = nI h) {P : Nat} (hP : P < cn a c w * cn b d h) :
    bTake (bq a b c d) (gPow (bq a b c d) (nI w) (nI h)) (nI P) = mKeep (bq a b c d) (mPlace (bq a b c d) f6 f7 cx q (nI P) >>> ((16 : Int32) &&& 31)) (mPlace (bq a b c d) f6 f7 cx q (nI P) &&& 65535) (nI w) (nI h) := by
  obtain ⟨k1, k2, k3⟩ := mg_pl hc hd hw hh h1 h2 e6 e7 hP
  obtain ⟨m1, m2, m3, m4, m5, m6⟩ := mg_corner hc hd hw hh h1 h2 hP
  have k4 := Nat.div_le_self (c - 1) (2 ^ w)
  have k5 := Nat.div_le_self (d - 1) (2 ^ h)
  have u1 : a / 2 ^ w + P % cn a c w < 32768 := by omega
  have u2 : b / 2 ^ h + P / cn a c w < 65536 := by omega
  rw [k3, mg_hi u1 u2, mg_lo u1 u2, mg_keep hw hh (by omega) (by omega)]
  unfold bTake
  rw [m1, m2, m3, m4]
theorem M_prec (hRel : Rel pk x g pp gg) (hN : fIn nc cx = 1) (hJ : cx = nI J) (hJ16 : J < 16) (ok : okC dx dy lv bw bh pf qf) (rc : RC J f1 f2 f3 f4 f5 f6 f7 dx dy lv bw bh pf qf) (t q pn w : Int32) :
    xPrec g (bDiv (bTake x g t) dx dy) lv pf qf t q pn w = mxPrec pk pp gg f1 f2 f3 f6 f7 nc t cx q pn w ∧ (xPrec g (bDiv (bTake x g t) dx dy) lv pf qf t q pn w = 0 → fEdge (bTake (bLev (bDiv (bTake x g t) dx dy) lv q) (gPrec (bLev (bDiv (bTake x g t) dx dy) lv q) pf qf q) pn) w = fEdge (mKeep (mLE pp gg f1 f2 f3 t cx q) (mPlace (mLE pp gg f1 f2 f3 t cx q) f6 f7 cx q pn >>> ((16 : Int32) &&& 31)) (mPlace (mLE pp gg f1 f2 f3 t cx q) f6 f7 cx q pn &&& 65535) (f6 ((33 * cx) + q).toNatClampNeg) (f7 ((33 * cx) + q).toNatClampNeg)) w) := by
  have ec : cx.toNatClampNeg = J := by rw [hJ]; exact nI_clamp (by omega)
  have hx : xPrec g (bDiv (bTake x g t) dx dy) lv pf qf t q pn w = if fWithin w 0 3 = 0 then 1 else if fGHas g t = 0 then 1 else if fWithin q 0 lv = 0 then 1 else if fGHas (gPrec (bLev (bDiv (bTake x g t) dx dy) lv q) pf qf q) pn = 0 then 1 else 0 := rfl
  have hm : mxPrec pk pp gg f1 f2 f3 f6 f7 nc t cx q pn w = if fGHas g t = 0 then 1 else if fWithin q 0 lv = 0 then 1 else if fWithin w 0 3 = 0 then 1 else if 0 ≤ mPlace (mLE pp gg f1 f2 f3 t cx q) f6 f7 cx q pn then 0 else 1 := by
    unfold mxPrec
    rw [if_neg (pq_1n0 hN), R_okT hRel, ec, rc.2.2.1, mInL_eq, mw_if]
  rw [hx, hm]
  by_cases g2 : fGHas g t = 0
  · rw [if_pos g2, if_pos g2]
    split <;> exact ⟨rfl, fun z => absurd z (by decide)⟩
  · rw [if_neg g2, if_neg g2]
    by_cases g3 : fWithin q 0 lv = 0
    · rw [if_pos g3, if_pos g3]
      split <;> exact ⟨rfl, fun z => absurd z (by decide)⟩
    · rw [if_neg g3, if_neg g3]
      by_cases g1 : fWithin w 0 3 = 0
      · rw [if_pos g1, if_pos g1]
        exact ⟨rfl, fun z => absurd z (by decide)⟩
      · rw [if_neg g1, if_neg g1]
        have ht := n01 (fGHas_01 _ _) g2
        obtain ⟨rfl, rfl, rfl, hR⟩ := R_pic hRel ht
        obtain ⟨r, V, a, b, c, d, w9, h, e1, e2, h3, h4, ha, hb, hc, hd, e5, e6, e7, e8, e9, e10, e11, e12, hw, hh, h13⟩ := c_cx hR ht (n01 (fWithin_01 _ _ _) g3) hJ hJ16 ok rc
        have k := c_has (c_hf (n := V - r) ha) (c_hf (n := V - r) hb) (c_hf (n := V - r) hc) (c_hf (n := V - r) hd) hw hh e11 e12 pn
        rw [e5, e7, e8]
        unfold gPrec
        rw [e9, e10]
        by_cases g4 : fGHas (gPow (bq (hf (V - r) a) (hf (V - r) b) (hf (V - r) c) (hf (V - r) d)) (nI w9) (nI h)) pn = 0
        · rw [if_pos g4, if_neg (mb_nle.mpr (k.mp g4))]
          exact ⟨rfl, fun z => absurd z (by decide)⟩
        · rw [if_neg g4, if_pos (mb_nlt.mp (fun z => g4 (k.mpr z)))]
          refine ⟨rfl, fun _ => ?_⟩
          obtain ⟨i1, i2, P, hP, rfl⟩ := c_is (c_hf (n := V - r) ha) (c_hf (n := V - r) hb) (c_hf (n := V - r) hc) (c_hf (n := V - r) hd) hw hh (n01 (fGHas_01 _ _) g4)
          rw [c_cell (c_hf hc) (c_hf hd) hw hh i1 i2 e11 e12 hP, e11, e12]
/-- a share that there is -/
theorem c_share (hcx : CX x g f1 f2 f3 f6 f7 pf qf dx dy lv t cx q r V a b c d w h) (hbn : fWithin bn (fHalv q) (fLast q) = 1) (hp : fGHas (gPow (bq (hf (V - r) a) (hf (V - r) b) (hf (V - r) c) (hf (V - r) d)) (nI w) (nI h)) pn = 1) :
    ∃ s0 s1 s2 s3 : Nat, s0 ≤ 32767 ∧ s1 ≤ 32767 ∧ s2 ≤ 32767 ∧ s3 ≤ 32767 ∧ ((s0 < s2 ∧ s1 < s3) ∨ (s0 = 0 ∧ s1 = 0 ∧ s2 = 0 ∧ s3 = 0)) ∧ bShare (bBand (bq a b c d) lv q bn) (gPow (bq (hf (V - r) a) (hf (V - r) b) (hf (V - r) c) (hf (V - r) d)) (nI w) (nI h)) q pn = bq s0 s1 s2 s3 ∧ mSE x g f1 f2 f3 f6 f7 t cx q bn pn = bq s0 s1 s2 s3 ∧ (∀ X Y P : Nat, P < 2 ^ 31 → pn = nI P → hf (V - r) a ≤ X → hf (V - r) b ≤ Y → (r ≠ 0 → nI (X % 2) = bn &&& 1) → (r ≠ 0 → nI (Y % 2) = bn >>> ((1 : Int32) &&& 31)) → hf (V - r) a / 2 ^ w + P % cn (hf (V - r) a) (hf (V - r) c) w = X / 2 ^ w → hf (V - r) b / 2 ^ h + P / cn (hf (V - r) a) (hf (V - r) c) w = Y / 2 ^ h → s0 ≤ (if r = 0 then X else X / 2) ∧ s1 ≤ (if r = 0 then Y else Y / 2)) := by
  obtain ⟨a', b', c', d', l1, l2, l3, l4, q1, q2, nx, ny⟩ := c_band hcx hbn
  obtain ⟨e1, e2, h3, h4, ha, hb, hc, hd, e5, e6, e7, e8, e9, e10, e11, e12, hw, hh, h13⟩ := hcx
  obtain ⟨i1, i2, P, hP, rfl⟩ := c_is (c_hf (n := V - r) ha) (c_hf (n := V - r) hb) (c_hf (n := V - r) hc) (c_hf (n := V - r) hd) hw hh hp
  have hc' := c_hf (n := V - r) hc
  have hd' := c_hf (n := V - r) hd
  obtain ⟨k1, k2, k3⟩ := mg_pl (f6 := f6) (f7 := f7) hc' hd' hw hh i1 i2 e11 e12 hP
  obtain ⟨m1, m2, m3, m4, m5, m6⟩ := mg_corner hc' hd' hw hh i1 i2 hP
  have k4 := Nat.div_le_self (hf (V - r) c - 1) (2 ^ w)
  have k5 := Nat.div_le_self (hf (V - r) d - 1) (2 ^ h)
  have u1 : hf (V - r) a / 2 ^ w + P % cn (hf (V - r) a) (hf (V - r) c) w < 32768 := by omega
  have u2 : hf (V - r) b / 2 ^ h + P / cn (hf (V - r) a) (hf (V - r) c) w < 65536 := by omega
  have hPb : P < 2 ^ 31 := by
    have z1 : cn (hf (V - r) a) (hf (V - r) c) w ≤ 32767 := Nat.le_trans (cn_le i1) hc'
    have z2 : cn (hf (V - r) b) (hf (V - r) d) h ≤ 32767 := Nat.le_trans (cn_le i2) hd'
    have : cn (hf (V - r) a) (hf (V - r) c) w * cn (hf (V - r) b) (hf (V - r) d) h ≤ 32767 * 32767 := Nat.mul_le_mul z1 z2
    omega
  suffices hsuf : ∃ s0 s1 s2 s3 : Nat, s0 ≤ 32767 ∧ s1 ≤ 32767 ∧ s2 ≤ 32767 ∧ s3 ≤ 32767 ∧ ((s0 < s2 ∧ s1 < s3) ∨ (s0 = 0 ∧ s1 = 0 ∧ s2 = 0 ∧ s3 = 0)) ∧ bShare (bBand (bq a b c d) lv q bn) (gPow (bq (hf (V - r) a) (hf (V - r) b) (hf (V - r) c) (hf (V - r) d)) (nI w) (nI h)) q (nI P) = bq s0 s1 s2 s3 ∧ mSE x g f1 f2 f3 f6 f7 t cx q bn (nI P) = bq s0 s1 s2 s3 ∧ (∀ X Y : Nat, hf (V - r) a ≤ X → hf (V - r) b ≤ Y → (r ≠ 0 → nI (X % 2) = bn &&& 1) → (r ≠ 0 → nI (Y % 2) = bn >>> ((1 : Int32) &&& 31)) → hf (V - r) a / 2 ^ w + P % cn (hf (V - r) a) (hf (V - r) c) w = X / 2 ^ w → hf (V - r) b / 2 ^ h + P / cn (hf (V - r) a) (hf (V - r) c) w = Y / 2 ^ h → s0 ≤ (if r = 0 then X else X / 2) ∧ s1 ≤ (if r = 0 then Y else Y / 2)) by
    obtain ⟨s0, s1, s2, s3, t1, t2, t3, t4, t5, t6, t7, t8⟩ := hsuf
    refine ⟨s0, s1, s2, s3, t1, t2, t3, t4, t5, t6, t7, fun X Y P' hP' eP => ?_⟩
    have : P' = P := ((nI_eq hPb hP').mp eP).symm
    subst this
    exact t8 X Y
  generalize hco : hf (V - r) a / 2 ^ w + P % cn (hf (V - r) a) (hf (V - r) c) w = co at *
  generalize hro : hf (V - r) b / 2 ^ h + P / cn (hf (V - r) a) (hf (V - r) c) w = ro at *
  have pw : 2 ^ w ≤ 2 ^ 15 := ma_p2 hw
  have ph : 2 ^ h ≤ 2 ^ 15 := ma_p2 hh
  have key : ∃ L T W H : Nat, L < 2 ^ 30 ∧ T < 2 ^ 30 ∧ W < 2 ^ 30 ∧ H < 2 ^ 30 ∧ bShare0 (bq a' b' c' d') (gPow (bq (hf (V - r) a) (hf (V - r) b) (hf (V - r) c) (hf (V - r) d)) (nI w) (nI h)) q (nI P) = bCut (bq a' b' c' d') (nI L) (nI T) (nI W) (nI H) ∧ mSK (bq (hf (V - r) a) (hf (V - r) b) (hf (V - r) c) (hf (V - r) d)) (bq a' b' c' d') f6 f7 cx q (nI P) = bCut (bq a' b' c' d') (nI L) (nI T) (nI W) (nI H) ∧ (∀ X : Nat, co = X / 2 ^ w → L ≤ (if r = 0 then X else X / 2)) ∧ (∀ Y : Nat, ro = Y / 2 ^ h → T ≤ (if r = 0 then Y else Y / 2)) := by
    unfold bShare0 mSK mWd mInB fHalv
    rw [m1, m2, m3, m4, k3, mg_hi u1 u2, mg_lo u1 u2, e11, e12]
    by_cases hq : q = 0
    · have hr0 : r = 0 := by
        rw [e1, ← nI_0] at hq
        exact (nI_eq (by omega) (by decide)).mp hq
      rw [if_pos hq, if_pos hq, if_pos hq, sb_shr0, sb_shr0, sb_shr0, sb_shr0, mg_keep hw hh (by omega) (by omega)]
      exact ⟨co * 2 ^ w, ro * 2 ^ h, 2 ^ w, 2 ^ h, by omega, by omega, by omega, by omega, rfl, rfl, fun X hX => by rw [if_pos hr0, hX]; exact Nat.div_mul_le_self _ _, fun Y hY => by rw [if_pos hr0, hY]; exact Nat.div_mul_le_self _ _⟩
    · have hr : r ≠ 0 := fun z => hq (by rw [e1, z]; exact nI_0)
      obtain ⟨w1, h1⟩ := h13 hr
      have ew : 2 ^ w = 2 ^ (w - 1) * 2 := by rw [← Nat.pow_succ]; congr 1; omega
      have eh : 2 ^ h = 2 ^ (h - 1) * 2 := by rw [← Nat.pow_succ]; congr 1; omega
      have cw : co * 2 ^ w = co * 2 ^ (w - 1) * 2 := by rw [ew, Nat.mul_assoc]
      have ch : ro * 2 ^ h = ro * 2 ^ (h - 1) * 2 := by rw [eh, Nat.mul_assoc]
      rw [if_neg hq, if_neg hq, if_neg hq, ma_shr1 (by omega), ma_shr1 (by omega), ma_shr1 (by omega), ma_shr1 (by omega), ma_1, pk_sub w1, pk_sub h1, mg_keep (by omega) (by omega) (by omega) (by omega)]
      have dw : ∀ X : Nat, co = X / 2 ^ w → co * 2 ^ (w - 1) ≤ X / 2 := by
        intro X hX
        rw [hX, ew, Nat.mul_comm (2 ^ (w - 1)), ← Nat.div_div_eq_div_mul]
        exact Nat.div_mul_le_self _ _
      have dh : ∀ Y : Nat, ro = Y / 2 ^ h → ro * 2 ^ (h - 1) ≤ Y / 2 := by
        intro Y hY
        rw [hY, eh, Nat.mul_comm (2 ^ (h - 1)), ← Nat.div_div_eq_div_mul]
        exact Nat.div_mul_le_self _ _
      refine ⟨co * 2 ^ (w - 1), ro * 2 ^ (h - 1), 2 ^ (w - 1), 2 ^ (h - 1), by omega, by omega, by omega, by omega, ?_, rfl, fun X hX => by rw [if_neg hr]; exact dw X hX, fun Y hY => by rw [if_neg hr]; exact dh Y hY⟩
      rw [cw, ch, ew, eh, Nat.mul_div_cancel _ (by decide), Nat.mul_div_cancel _ (by decide), Nat.mul_div_cancel _ (by decide), Nat.mul_div_cancel _ (by decide)]
  obtain ⟨L, T, W, H, b1, b2, b3, b4, z1, z2, z3, z4⟩ := key
  have hcut := mb_bcut (a := a') (b := b') (c := c') (d := d') (by omega) (by omega) (by omega) (by omega) b1 b2 b3 b4
  unfold mSE mSh bShare
  rw [e8, q1, q2, z1, z2, hcut]
  by_cases he : fEmpty (bq (max a' L) (max b' T) (min c' (L + W)) (min d' (T + H))) = 0
  · rw [if_pos he]
    by_cases hov : max a' L ≤ 65535 ∧ max b' T ≤ 65535
    · have := (mg_empty hov.1 hov.2 (by omega) (by omega)).mp he
      exact ⟨max a' L, max b' T, min c' (L + W), min d' (T + H), by omega, by omega, by omega, by omega, Or.inl this, rfl, rfl, fun X Y o1 o2 o3 o4 o5 o6 => ⟨Nat.max_le.mpr ⟨nx X o1 o3, z3 X o5⟩, Nat.max_le.mpr ⟨ny Y o2 o4, z4 Y o6⟩⟩⟩
    · exfalso
      unfold fEmpty bq at he
      have he2 : (if nI (min c' (L + W)) ≤ nI (max a' L) then (1 : Int32) else if nI (max b' T) < nI (min d' (T + H)) then 0 else 1) = 0 := he
      rcases (show 65535 < max a' L ∨ 65535 < max b' T by omega) with z | z
      · rw [if_pos (nI_le (by omega) (by omega))] at he2
        exact absurd he2 (by decide)
      · by_cases y : nI (min c' (L + W)) ≤ nI (max a' L)
        · rw [if_pos y] at he2
          exact absurd he2 (by decide)
        · rw [if_neg y, if_neg (nI_nlt (by omega) (by omega))] at he2
          exact absurd he2 (by decide)
  · rw [if_neg he]
    exact ⟨0, 0, 0, 0, by omega, by omega, by omega, by omega, Or.inr ⟨rfl, rfl, rfl, rfl⟩, rfl, rfl, fun X Y _ _ _ _ _ _ => ⟨Nat.zero_le _, Nat.zero_le _⟩⟩
theorem c_blkc {s0 s1 s2 s3 K M : Nat} (l0 : s0 ≤ 32767) (l1 : s1 ≤ 32767) (l2 : s2 ≤ 32767) (l3 : s3 ≤ 32767) (hs : (s0 < s2 ∧ s1 < s3) ∨ (s0 = 0 ∧ s1 = 0 ∧ s2 = 0 ∧ s3 = 0)) (hK : K ≤ 15) (hM : M ≤ 15) : (gPow (bq s0 s1 s2 s3) (nI K) (nI M)) 4 = mSq (nI s0) (nI s2) (nI K) ∧ (gPow (bq s0 s1 s2 s3) (nI K) (nI M)) 5 = mSq (nI s1) (nI s3) (nI M) := by
  rcases hs with hs | ⟨rfl, rfl, rfl, rfl⟩
  · rw [mg_pow (by omega) (by omega) hK hM hs.1 hs.2, mg_sq hs.1 (by omega) hK, mg_sq hs.2 (by omega) hM]
    exact ⟨rfl, rfl⟩
  · rw [mg_sq0 (by omega) (by omega), mg_sq0 (by omega) (by omega)]
    exact mg_pow45 (by decide)
end PqMath6
