def mMax (x y : Int32) : Int32 := if y ≤ x then x else y
def mMin (x y : Int32) : Int32 := if x ≤ y then x else y
def mLeft (gg : Nat → Int32) (t : Int32) : Int32 := gg 0 + ((t - t / gg 4 * gg 4) * gg 2)
def mTop (gg : Nat → Int32) (t : Int32) : Int32 := gg 1 + ((t / gg 4) * gg 3)
def mTile (pp gg : Nat → Int32) (t : Int32) : Nat → Int32 := fQuad (mMax (mLeft gg t) (pp 0)) (mMax (mTop gg t) (pp 1)) (mMin (mLeft gg t + gg 2) (pp 2)) (mMin (mTop gg t + gg 3) (pp 3))
def mUp (x st : Int32) : Int32 := ((x + st) - 1) / st
def mPart (x f1 f2 : Nat → Int32) (cx : Int32) : Nat → Int32 := fQuad (mUp (x 0) (f1 cx.toNatClampNeg)) (mUp (x 1) (f2 cx.toNatClampNeg)) (mUp (x 2) (f1 cx.toNatClampNeg)) (mUp (x 3) (f2 cx.toNatClampNeg))
def mHalf (x : Nat → Int32) : Nat → Int32 := fQuad ((x 0 + 1) >>> ((1 : Int32) &&& 31)) ((x 1 + 1) >>> ((1 : Int32) &&& 31)) ((x 2 + 1) >>> ((1 : Int32) &&& 31)) ((x 3 + 1) >>> ((1 : Int32) &&& 31))
def mLev : Nat → (Nat → Int32) → (Nat → Int32)
  | 0, x => x
  | n + 1, x => mLev n (mHalf x)
def mPt (pp gg f1 f2 : Nat → Int32) (t cx : Int32) : Nat → Int32 := mPart (mTile pp gg t) f1 f2 cx
def mLE (pp gg f1 f2 f3 : Nat → Int32) (t cx q : Int32) : Nat → Int32 := mLev (f3 cx.toNatClampNeg - q).toNatClampNeg (mPt pp gg f1 f2 t cx)
def mEq (x y : Int32) : Int32 := if x = y then 1 else 0
def mBnd (x : Nat → Int32) (bn : Int32) : Nat → Int32 := fQuad ((x 0 + mEq bn 2) >>> ((1 : Int32) &&& 31)) ((x 1 + mEq bn 1) >>> ((1 : Int32) &&& 31)) ((x 2 + mEq bn 2) >>> ((1 : Int32) &&& 31)) ((x 3 + mEq bn 1) >>> ((1 : Int32) &&& 31))
def mBand (x : Nat → Int32) (q bn : Int32) : Nat → Int32 := if q ≤ 0 then x else mBnd x bn
def mBE (pp gg f1 f2 f3 : Nat → Int32) (t cx q bn : Int32) : Nat → Int32 := mBand (mLE pp gg f1 f2 f3 t cx q) q bn
def mSq (x y ex : Int32) : Int32 := if y ≤ x then 0 else (((y - 1) >>> (ex &&& 31)) - (x >>> (ex &&& 31))) + 1
def mCol (x f6 : Nat → Int32) (cx q : Int32) : Int32 := if fEmpty x = 0 then mSq (x 0) (x 2) (f6 ((33 * cx) + q).toNatClampNeg) else 0
def mRow (x f7 : Nat → Int32) (cx q : Int32) : Int32 := if fEmpty x = 0 then mSq (x 1) (x 3) (f7 ((33 * cx) + q).toNatClampNeg) else 0
def mPl1 (x f6 f7 : Nat → Int32) (cx q pn : Int32) : Int32 := (((x 0 >>> (f6 ((33 * cx) + q).toNatClampNeg &&& 31)) + (pn - pn / mCol x f6 cx q * mCol x f6 cx q)) <<< ((16 : Int32) &&& 31)) ||| ((x 1 >>> (f7 ((33 * cx) + q).toNatClampNeg &&& 31)) + (pn / mCol x f6 cx q))
def mPlace (x f6 f7 : Nat → Int32) (cx q pn : Int32) : Int32 := if pn < 0 then (-1) else if mCol x f6 cx q = 0 then (-1) else if pn / mCol x f6 cx q < mRow x f7 cx q then mPl1 x f6 f7 cx q pn else (-1)
def mCut (x : Nat → Int32) (le to wd ht : Int32) : Nat → Int32 := fQuad (mMax (x 0) le) (mMax (x 1) to) (mMin (x 2) (le + wd)) (mMin (x 3) (to + ht))
def mKeep (x : Nat → Int32) (co ro w h : Int32) : Nat → Int32 := mCut x (co <<< (w &&& 31)) (ro <<< (h &&& 31)) (1 <<< (w &&& 31)) (1 <<< (h &&& 31))
def mInB (q ex : Int32) : Int32 := if q = 0 then ex else ex - 1
def mWd (f6 : Nat → Int32) (cx q : Int32) : Int32 := mInB q (f6 ((33 * cx) + q).toNatClampNeg)
def mBW (f6 f4 : Nat → Int32) (cx q : Int32) : Int32 := if f4 cx.toNatClampNeg ≤ mWd f6 cx q then f4 cx.toNatClampNeg else mWd f6 cx q
def mSK (x y f6 f7 : Nat → Int32) (cx q pn : Int32) : Nat → Int32 := mKeep y (mPlace x f6 f7 cx q pn >>> ((16 : Int32) &&& 31)) (mPlace x f6 f7 cx q pn &&& 65535) (mWd f6 cx q) (mWd f7 cx q)
def mSh (x y f6 f7 : Nat → Int32) (cx q pn : Int32) : Nat → Int32 := if fEmpty (mSK x y f6 f7 cx q pn) = 0 then mSK x y f6 f7 cx q pn else fQuad 0 0 0 0
def mSE (pp gg f1 f2 f3 f6 f7 : Nat → Int32) (t cx q bn pn : Int32) : Nat → Int32 := mSh (mLE pp gg f1 f2 f3 t cx q) (mBE pp gg f1 f2 f3 t cx q bn) f6 f7 cx q pn
def mPcs (st en se : Int32) : Int32 := if en - st ≤ (en - st) / se * se then (en - st) / se else (en - st) / se + 1
def mI (pk : Int32) (gg : Nat → Int32) (nc : Int32) (f1 f2 f3 : Nat → Int32) : Prop := (¬ pk = 0 → ¬ gg 2 = 0 ∧ ¬ gg 3 = 0 ∧ ¬ gg 4 = 0) ∧ 0 ≤ nc ∧ nc ≤ 16 ∧ ∀ cx : Int32, fIn nc cx = 1 → ¬ f1 cx.toNatClampNeg = 0 ∧ ¬ f2 cx.toNatClampNeg = 0 ∧ 0 ≤ f3 cx.toNatClampNeg ∧ f3 cx.toNatClampNeg ≤ 32
def mFill (f : Nat → Int32) (nc : Int32) (j : Nat) : Nat → Int32 := fun i => if 33 * nc.toNatClampNeg ≤ i ∧ i < 33 * nc.toNatClampNeg + j then 15 else f i
def mOkT (pk : Int32) (gg : Nat → Int32) (t : Int32) : Int32 := if pk = 0 then 0 else if t < 0 then 0 else if t < ((gg 4) * (gg 5)) then 1 else 0
def mInL (q lv : Int32) : Int32 := if q < 0 then 0 else if q ≤ lv then 1 else 0
def mIsB (q bn : Int32) : Int32 := if q = 0 then if bn = 0 then 1 else 0 else if bn < 1 then 0 else if 3 < bn then 0 else 1
def mArea (p0 p1 p2 p3 : Int32) : Int32 := if p0 < 0 then 1 else if p1 < 0 then 1 else if p2 ≤ p0 then 1 else if p3 ≤ p1 then 1 else if 32767 < p2 then 1 else if 32767 < p3 then 1 else 0
def mTiles (pk : Int32) (pp : Nat → Int32) (p0 p1 p2 p3 : Int32) : Int32 := if pk = 0 then 1 else if p0 < 0 then 2 else if p1 < 0 then 2 else if p2 < 1 then 2 else if 32767 < p2 then 2 else if p3 < 1 then 2 else if 32767 < p3 then 2 else if (pp 0) < p0 then 2 else if (pp 1) < p1 then 2 else if (p0 + p2) ≤ (pp 0) then 2 else if (p1 + p3) ≤ (pp 1) then 2 else if (lg_cmp ((mPcs p0 (pp 2) p2).toInt64 * (mPcs p1 (pp 3) p3).toInt64) 65535) ≤ 0 then 0 else 2
def mComp (nc p0 p1 : Int32) : Int32 := if p0 < 1 then 1 else if 255 < p0 then 1 else if p1 < 1 then 1 else if p1 ≤ 255 then if nc = 16 then 2 else 0 else 1
def mCod (nc cx p1 p2 p3 : Int32) : Int32 := if (fIn nc cx) = 0 then 1 else if p1 < 0 then 2 else if 32 < p1 then 2 else if p2 < 2 then 2 else if 10 < p2 then 2 else if p3 < 2 then 2 else if 10 < p3 then 2 else if 12 < (p2 + p3) then 2 else 0
def mPre (nc cx q p2 p3 : Int32) : Int32 := if (fIn nc cx) = 0 then 1 else if q < 0 then 1 else if q ≤ 32 then if p2 < 0 then 2 else if 15 < p2 then 2 else if p3 < 0 then 2 else if 15 < p3 then 2 else if q = 0 then 0 else if p2 ≤ 0 then 2 else if p3 ≤ 0 then 2 else 0 else 1
def mxTile (pk : Int32) (gg : Nat → Int32) (t w : Int32) : Int32 := if w < 0 then 1 else if 3 < w then 1 else if (mOkT pk gg t) = 0 then 1 else 0
def mxPart (pk : Int32) (gg : Nat → Int32) (nc t cx w : Int32) : Int32 := if w < 0 then 1 else if 4 < w then 1 else if (fIn nc cx) = 0 then 1 else if (mOkT pk gg t) = 0 then 1 else 0
def mxLevel (pk : Int32) (gg f3 : Nat → Int32) (nc t cx q w : Int32) : Int32 := if w < 0 then 1 else if 5 < w then 1 else if (fIn nc cx) = 0 then 1 else if (mOkT pk gg t) = 0 then 1 else if (mInL q (f3 cx.toNatClampNeg)) = 0 then 1 else 0
def mxBand (pk : Int32) (gg f3 : Nat → Int32) (nc t cx q bn w : Int32) : Int32 := if w < 0 then 1 else if 5 < w then 1 else if (fIn nc cx) = 0 then 1 else if (mOkT pk gg t) = 0 then 1 else if (mInL q (f3 cx.toNatClampNeg)) = 0 then 1 else if (mIsB q bn) = 0 then 1 else 0
def mxPrec (pk : Int32) (pp gg f1 f2 f3 f6 f7 : Nat → Int32) (nc t cx q pn w : Int32) : Int32 := if (fIn nc cx) = 0 then 1 else if (mOkT pk gg t) = 0 then 1 else if (mInL q (f3 cx.toNatClampNeg)) = 0 then 1 else if w < 0 then 1 else if 3 < w then 1 else if 0 ≤ (mPlace (mLE pp gg f1 f2 f3 t cx q) f6 f7 cx q pn) then 0 else 1
def mxShare (pk : Int32) (pp gg f1 f2 f3 f6 f7 : Nat → Int32) (nc t cx q bn pn w : Int32) : Int32 := if w < 0 then 1 else if 5 < w then 1 else if (fIn nc cx) = 0 then 1 else if (mOkT pk gg t) = 0 then 1 else if (mInL q (f3 cx.toNatClampNeg)) = 0 then 1 else if (mIsB q bn) = 0 then 1 else if (mPlace (mLE pp gg f1 f2 f3 t cx q) f6 f7 cx q pn) < 0 then 1 else 0
def mxBlock (pk : Int32) (pp gg f1 f2 f3 f4 f5 f6 f7 : Nat → Int32) (nc t cx q bn pn kb w : Int32) : Int32 := if w < 0 then 1 else if 3 < w then 1 else if kb < 0 then 1 else if (fIn nc cx) = 0 then 1 else if (mOkT pk gg t) = 0 then 1 else if (mInL q (f3 cx.toNatClampNeg)) = 0 then 1 else if (mIsB q bn) = 0 then 1 else if (mPlace (mLE pp gg f1 f2 f3 t cx q) f6 f7 cx q pn) < 0 then 1 else if (mSq ((mSE pp gg f1 f2 f3 f6 f7 t cx q bn pn) 0) ((mSE pp gg f1 f2 f3 f6 f7 t cx q bn pn) 2) (mBW f6 f4 cx q)) = 0 then 1 else if (kb / (mSq ((mSE pp gg f1 f2 f3 f6 f7 t cx q bn pn) 0) ((mSE pp gg f1 f2 f3 f6 f7 t cx q bn pn) 2) (mBW f6 f4 cx q))) < (mSq ((mSE pp gg f1 f2 f3 f6 f7 t cx q bn pn) 1) ((mSE pp gg f1 f2 f3 f6 f7 t cx q bn pn) 3) (mBW f7 f5 cx q)) then 0 else 1
def mxWhere (pk : Int32) (pp f1 f2 : Nat → Int32) (nc cx px py : Int32) : Int32 := if pk = 0 then 1 else if (fIn nc cx) = 0 then 1 else if (lg_cmp (px.toInt64 * (f1 cx.toNatClampNeg).toInt64) (pp 0).toInt64) < 0 then 1 else if 0 ≤ (lg_cmp (px.toInt64 * (f1 cx.toNatClampNeg).toInt64) (pp 2).toInt64) then 1 else if (lg_cmp (py.toInt64 * (f2 cx.toNatClampNeg).toInt64) (pp 1).toInt64) < 0 then 1 else if (lg_cmp (py.toInt64 * (f2 cx.toNatClampNeg).toInt64) (pp 3).toInt64) < 0 then 0 else 1
def mxCoef (pk : Int32) (pp gg f1 f2 : Nat → Int32) (nc t cx px py w : Int32) : Int32 := if w < 0 then 1 else if 5 < w then 1 else if (fIn nc cx) = 0 then 1 else if (mOkT pk gg t) = 0 then 1 else if px < ((mPt pp gg f1 f2 t cx) 0) then 1 else if ((mPt pp gg f1 f2 t cx) 2) ≤ px then 1 else if py < ((mPt pp gg f1 f2 t cx) 1) then 1 else if ((mPt pp gg f1 f2 t cx) 3) ≤ py then 1 else 0
def mvLevel (x f6 f7 : Nat → Int32) (cx q w : Int32) : Int32 := if w = 4 then mCol x f6 cx q else if w = 5 then mRow x f7 cx q else fEdge x w
def mvBand (x f4 f5 f6 f7 : Nat → Int32) (cx q w : Int32) : Int32 := if w = 4 then mBW f6 f4 cx q else if w = 5 then mBW f7 f5 cx q else fEdge x w
def mvShare (x f4 f5 f6 f7 : Nat → Int32) (cx q w : Int32) : Int32 := if w = 4 then mSq (x 0) (x 2) (mBW f6 f4 cx q) else if w = 5 then mSq (x 1) (x 3) (mBW f7 f5 cx q) else fEdge x w
def mvBlock (x f4 f5 f6 f7 : Nat → Int32) (cx q kb w : Int32) : Int32 := fEdge (mKeep x ((x 0 >>> (mBW f6 f4 cx q &&& 31)) + (kb - kb / mSq (x 0) (x 2) (mBW f6 f4 cx q) * mSq (x 0) (x 2) (mBW f6 f4 cx q))) ((x 1 >>> (mBW f7 f5 cx q &&& 31)) + (kb / mSq (x 0) (x 2) (mBW f6 f4 cx q))) (mBW f6 f4 cx q) (mBW f7 f5 cx q)) w
def mBlk1 (x f4 f5 f6 f7 : Nat → Int32) (cx q : Int32) : Int32 := if fEmpty x = 0 then mSq (x 0) (x 2) (mBW f6 f4 cx q) * mSq (x 1) (x 3) (mBW f7 f5 cx q) else 0
def mBlk (pp gg f1 f2 f3 f4 f5 f6 f7 : Nat → Int32) (t cx q bn : Int32) : Int32 := if mIsB q bn = 0 then 0 else if fEmpty (mBE pp gg f1 f2 f3 t cx q bn) = 0 then mSq ((mBE pp gg f1 f2 f3 t cx q bn) 0) ((mBE pp gg f1 f2 f3 t cx q bn) 2) (mBW f6 f4 cx q) * mSq ((mBE pp gg f1 f2 f3 t cx q bn) 1) ((mBE pp gg f1 f2 f3 t cx q bn) 3) (mBW f7 f5 cx q) else 0
/-- the blocks of the first j levels -/
def mTot (pp gg f1 f2 f3 f4 f5 f6 f7 : Nat → Int32) (t cx : Int32) : Nat → Int32
  | 0 => 0
  | j + 1 => (((mTot pp gg f1 f2 f3 f4 f5 f6 f7 t cx j + mBlk pp gg f1 f2 f3 f4 f5 f6 f7 t cx (nI j) 0) + mBlk pp gg f1 f2 f3 f4 f5 f6 f7 t cx (nI j) 1) + mBlk pp gg f1 f2 f3 f4 f5 f6 f7 t cx (nI j) 2) + mBlk pp gg f1 f2 f3 f4 f5 f6 f7 t cx (nI j) 3
def mvPart (pp gg f1 f2 f3 f4 f5 f6 f7 : Nat → Int32) (t cx w : Int32) : Int32 := if 4 ≤ w then mTot pp gg f1 f2 f3 f4 f5 f6 f7 t cx ((f3 cx.toNatClampNeg).toNatClampNeg + 1) else fEdge (mPt pp gg f1 f2 t cx) w
/-- from level j on down to where the sample's coefficient is -/
def mDown : Nat → Int32 → Int32 → Int32 × Int32 × Int32
  | 0, x, y => (0, x, y)
  | j + 1, x, y => if (x &&& 1) = 0 then (if (y &&& 1) = 0 then mDown j (x >>> ((1 : Int32) &&& 31)) (y >>> ((1 : Int32) &&& 31)) else (nI (j + 1), x, y)) else (nI (j + 1), x, y)
def mHv (q x : Int32) : Int32 := if q = 0 then x else x >>> ((1 : Int32) &&& 31)
def mPn (x f6 f7 : Nat → Int32) (cx q hx hy : Int32) : Int32 := ((((hy >>> (mWd f7 cx q &&& 31)) - (x 1 >>> (f7 ((33 * cx) + q).toNatClampNeg &&& 31))) * mCol x f6 cx q) + (hx >>> (mWd f6 cx q &&& 31))) - (x 0 >>> (f6 ((33 * cx) + q).toNatClampNeg &&& 31))
def mNum (z f4 f5 f6 f7 : Nat → Int32) (cx q hx hy : Int32) : Int32 := ((((hy >>> (mBW f7 f5 cx q &&& 31)) - (z 1 >>> (mBW f7 f5 cx q &&& 31))) * mSq (z 0) (z 2) (mBW f6 f4 cx q)) + (hx >>> (mBW f6 f4 cx q &&& 31))) - (z 0 >>> (mBW f6 f4 cx q &&& 31))
def mOfCo (pp gg f1 f2 f3 f4 f5 f6 f7 : Nat → Int32) (t cx q X Y w : Int32) : Int32 :=
  if 4 ≤ w then (if w = 4 then mPn (mLE pp gg f1 f2 f3 t cx q) f6 f7 cx q (mHv q X) (mHv q Y) else
    if mIsB q (fBandOf q X Y) = 0 then mNum (mLE pp gg f1 f2 f3 t cx q) f4 f5 f6 f7 cx q (mHv q X) (mHv q Y) else
    if mPlace (mLE pp gg f1 f2 f3 t cx q) f6 f7 cx q (mPn (mLE pp gg f1 f2 f3 t cx q) f6 f7 cx q (mHv q X) (mHv q Y)) < 0 then mNum (mLE pp gg f1 f2 f3 t cx q) f4 f5 f6 f7 cx q (mHv q X) (mHv q Y) else
    mNum (mSE pp gg f1 f2 f3 f6 f7 t cx q (fBandOf q X Y) (mPn (mLE pp gg f1 f2 f3 t cx q) f6 f7 cx q (mHv q X) (mHv q Y))) f4 f5 f6 f7 cx q (mHv q X) (mHv q Y)) else
  if w = 0 then q else if w = 1 then fBandOf q X Y else if w = 2 then mHv q X else mHv q Y
def mvWhere (pp gg f1 f2 : Nat → Int32) (cx px py : Int32) : Int32 := ((((py.toInt64 * (f2 cx.toNatClampNeg).toInt64).toInt32 - gg 1) / gg 3) * gg 4) + (((px.toInt64 * (f1 cx.toNatClampNeg).toInt64).toInt32 - gg 0) / gg 2)
theorem mOkT_01 (pk : Int32) (gg : Nat → Int32) (t : Int32) : mOkT pk gg t = 0 ∨ mOkT pk gg t = 1 := by unfold mOkT; (repeat' split) <;> simp
theorem mInL_01 (q lv : Int32) : mInL q lv = 0 ∨ mInL q lv = 1 := by unfold mInL; (repeat' split) <;> simp
theorem mIsB_01 (q bn : Int32) : mIsB q bn = 0 ∨ mIsB q bn = 1 := by unfold mIsB; (repeat' split) <;> simp
theorem mI_c {pk nc cx : Int32} {gg f1 f2 f3 : Nat → Int32} (hI : mI pk gg nc f1 f2 f3) (h : fIn nc cx = 1) : vp_in cx 16 := pq_in16 h hI.2.2.1
theorem mInL_iff {q lv : Int32} (h : mInL q lv = 1) : 0 ≤ q.toInt ∧ q.toInt ≤ lv.toInt := by
  unfold mInL at h
  split at h
  · exact absurd h (by decide)
  · split at h
    · rename_i h1 h2
      simp only [Int32.lt_iff_toInt_lt, Int32.le_iff_toInt_le] at *
      have e0 : (0 : Int32).toInt = 0 := by decide
      omega
    · exact absurd h (by decide)
theorem fIn_iff {n q : Int32} (h : fIn n q = 1) : 0 ≤ q.toInt ∧ q.toInt < n.toInt := by
  unfold fIn at h
  split at h
  · exact absurd h (by decide)
  · split at h
    · exact absurd h (by decide)
    · rename_i h1 h2
      simp only [Int32.lt_iff_toInt_lt, Int32.le_iff_toInt_le] at *
      have e0 : (0 : Int32).toInt = 0 := by decide
      omega
theorem mI_nn {x : Int32} (h : 0 ≤ x.toInt) : ∃ j : Nat, j < 2 ^ 31 ∧ x = nI j := nI_of (by rw [Int32.lt_iff_toInt_lt]; have e0 : (0 : Int32).toInt = 0 := by decide
                                                                                            omega)
theorem mIx_nI {a b : Nat} : (33 * nI a) + nI b = nI (33 * a + b) := by
  have e : (33 : Int32) = nI 33 := by decide
  rw [e, ← nI_add]
  congr 1
  exact (Int32.ofNat_mul 33 a).symm
theorem mI_ix {pk nc cx q lv : Int32} {gg f1 f2 f3 : Nat → Int32} (hI : mI pk gg nc f1 f2 f3) (h : fIn nc cx = 1) (hq : 0 ≤ q.toInt ∧ q.toInt ≤ lv.toInt) (hl : lv ≤ 32) : vp_in ((33 * cx) + q) 528 := by
  have h1 := fIn_iff h
  have h2 := hI.2.2.1
  rw [Int32.le_iff_toInt_le] at h2 hl
  have e16 : (16 : Int32).toInt = 16 := by decide
  have e32 : (32 : Int32).toInt = 32 := by decide
  obtain ⟨a, ha, rfl⟩ := mI_nn h1.1
  obtain ⟨b, hb, rfl⟩ := mI_nn hq.1
  rw [nI_toInt ha] at h1
  rw [nI_toInt hb] at hq
  rw [mIx_nI]
  exact vp_in_nI (by omega) (by decide)
theorem mI_ixL {pk nc cx q : Int32} {gg f1 f2 f3 : Nat → Int32} (hI : mI pk gg nc f1 f2 f3) (h : fIn nc cx = 1) (hq : mInL q (f3 cx.toNatClampNeg) = 1) : vp_in ((33 * cx) + q) 528 := mI_ix hI h (mInL_iff hq) (hI.2.2.2 cx h).2.2.2
theorem mI_ix32 {pk nc cx q : Int32} {gg f1 f2 f3 : Nat → Int32} (hI : mI pk gg nc f1 f2 f3) (h : fIn nc cx = 1) (h0 : ¬ q < 0) (h1 : q ≤ 32) : vp_in ((33 * cx) + q) 528 := by
  refine mI_ix (lv := 32) hI h ⟨?_, ?_⟩ (by decide)
  · rw [Int32.lt_iff_toInt_lt] at h0
    have e0 : (0 : Int32).toInt = 0 := by decide
    omega
  · exact Int32.le_iff_toInt_le.mp h1
theorem mStep0 {q kk : Int32} (h : kk = q + nI 0) : kk ≤ q := by
  rw [h, nI_0, Int32.le_iff_toInt_le]
  simp
theorem mStepS {q kk : Int32} {n : Nat} (h0 : 0 ≤ q.toInt) (h1 : q.toInt ≤ 32) (hn : n + 1 ≤ 32) (h : kk = q + nI (n + 1)) : ¬ kk ≤ q := by
  obtain ⟨b, hb, rfl⟩ := mI_nn h0
  rw [nI_toInt hb] at h1
  rw [h, nI_add]
  exact nI_ge (by omega) (by omega)
theorem mStepD {q kk : Int32} {n : Nat} (h : kk = q + nI (n + 1)) : kk + (-1) = q + nI n := by
  rw [h, Int32.add_assoc]
  exact congrArg (fun z => q + z) (pk_m1 n)
theorem mStepN {q lv : Int32} (h : mInL q lv = 1) (hl : lv ≤ 32) : lv = q + nI (lv - q).toNatClampNeg ∧ (lv - q).toNatClampNeg ≤ 32 := by
  have h1 := mInL_iff h
  rw [Int32.le_iff_toInt_le] at hl
  have e32 : (32 : Int32).toInt = 32 := by decide
  obtain ⟨b, hb, rfl⟩ := mI_nn h1.1
  obtain ⟨a, ha, rfl⟩ := mI_nn (x := lv) (by omega)
  rw [nI_toInt hb, nI_toInt ha] at h1
  rw [nI_toInt ha] at hl
  have e : nI a - nI b = nI (a - b) := by
    have e1 : nI a = nI b + nI (a - b) := by rw [nI_add]; congr 1; omega
    rw [e1, Int32.add_comm, Int32.add_sub_cancel]
  rw [e, nI_clamp (by omega), nI_add]
  exact ⟨by congr 1; omega, by omega⟩
theorem mQ32 {q lv : Int32} (h : mInL q lv = 1) (hl : lv ≤ 32) : 0 ≤ q.toInt ∧ q.toInt ≤ 32 := by
  have h1 := mInL_iff h
  rw [Int32.le_iff_toInt_le] at hl
  have e32 : (32 : Int32).toInt = 32 := by decide
  omega
theorem mInL_nI {j : Nat} {lv : Int32} (hj : j ≤ lv.toNatClampNeg) (h0 : 0 ≤ lv) (hv : lv ≤ 32) : mInL (nI j) lv = 1 := by
  obtain ⟨i, hi, rfl⟩ := nI_of2 (M := 32) (n := 32) (by decide) (by intro h9; simp only [Int32.lt_iff_toInt_lt, Int32.le_iff_toInt_le] at *; omega) hv
  rw [nI_clamp (by omega)] at hj
  unfold mInL
  rw [if_neg (nI_pos (by omega)), if_pos (nI_le hj (by omega))]
theorem mInL_of {q lv : Int32} (h1 : ¬ q < 0) (h2 : q ≤ lv) : mInL q lv = 1 := by unfold mInL; rw [if_neg h1, if_pos h2]
theorem mFill_step {f : Nat → Int32} {nc : Int32} {j : Nat} (h0 : 0 ≤ nc) (hn : nc < 16) (hj : j ≤ 33) : upd (mFill f nc j) ((33 * nc) + nI j).toNatClampNeg 15 = mFill f nc (j + 1) := by
  rw [Int32.le_iff_toInt_le] at h0
  rw [Int32.lt_iff_toInt_lt] at hn
  have e0 : (0 : Int32).toInt = 0 := by decide
  have e16 : (16 : Int32).toInt = 16 := by decide
  obtain ⟨a, ha, rfl⟩ := mI_nn (x := nc) (by omega)
  rw [nI_toInt ha] at hn
  rw [mIx_nI, nI_clamp (by omega)]
  funext i
  unfold mFill upd
  rw [nI_clamp ha]
  by_cases h : i = 33 * a + j
  · subst h
    simp
  · by_cases h2 : 33 * a ≤ i ∧ i < 33 * a + j
    · rw [if_neg h, if_pos ⟨h2.1, by omega⟩]
      exact if_pos h2
    · rw [if_neg h, if_neg (fun z => h2 ⟨z.1, by omega⟩)]
      exact if_neg h2
theorem mFill_0 {f : Nat → Int32} {nc : Int32} : mFill f nc 0 = f := by
  funext i
  unfold mFill
  rw [if_neg (by omega)]
theorem mFill_in {nc : Int32} {j : Nat} (h0 : 0 ≤ nc) (hn : nc < 16) (hj : j < 33) : vp_in ((33 * nc) + nI j) 528 := by
  rw [Int32.le_iff_toInt_le] at h0
  rw [Int32.lt_iff_toInt_lt] at hn
  have e0 : (0 : Int32).toInt = 0 := by decide
  have e16 : (16 : Int32).toInt = 16 := by decide
  obtain ⟨a, ha, rfl⟩ := mI_nn (x := nc) (by omega)
  rw [nI_toInt ha] at hn
  rw [mIx_nI]
  exact vp_in_nI (by omega) (by decide)
theorem mNlt16 {nc : Int32} (hn : nc ≤ 16) (h : ¬ nc = 16) : nc < 16 := by
  rw [Int32.lt_iff_toInt_lt]
  rw [Int32.le_iff_toInt_le] at hn
  have e16 : (16 : Int32).toInt = 16 := by decide
  have : nc.toInt ≠ 16 := fun e => h (Int32.toInt_inj.mp (e.trans e16.symm))
  omega
theorem m33n {j : Nat} (hj : j ≤ 33) (h : ¬ 33 ≤ nI j) : j < 33 := by
  have e : (33 : Int32) = nI 33 := by decide
  rw [e, nI_leI (by omega) (by omega)] at h
  omega
theorem m33e {j : Nat} (hj : j ≤ 33) (h : 33 ≤ nI j) : j = 33 := by
  have e : (33 : Int32) = nI 33 := by decide
  rw [e, nI_leI (by omega) (by omega)] at h
  omega
