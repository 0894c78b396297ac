def fQuad (a b d f : Int32) : Nat → Int32
  | 0 => a
  | 1 => b
  | 2 => d
  | _ => f
def fSix (a b d f g h : Int32) : Nat → Int32
  | 0 => a
  | 1 => b
  | 2 => d
  | 3 => f
  | 4 => g
  | _ => h
def fWithin (v lo hi : Int32) : Int32 := if v < lo then 0 else if hi < v then 0 else 1
def fEmpty (x : Nat → Int32) : Int32 := if x 2 ≤ x 0 then 1 else if x 1 < x 3 then 0 else 1
def fHas (x : Nat → Int32) (u v : Int64) : Int32 := if lg_cmp u (x 0).toInt64 < 0 then 0 else if 0 ≤ lg_cmp u (x 2).toInt64 then 0 else if lg_cmp v (x 1).toInt64 < 0 then 0 else if 0 ≤ lg_cmp v (x 3).toInt64 then 0 else 1
def fEdge (x : Nat → Int32) (w : Int32) : Int32 := if w = 0 then x 0 else if w = 1 then x 1 else if w = 2 then x 2 else x 3
def fDivd (e st : Int32) : Int32 := if 1 ≤ st then ((e + st) - 1) / st else e
def fScal (e n o : Int32) : Int32 := ((((e.toInt64 - (o.toInt64 * (((1 : Int64) <<< (n.toInt64 &&& 63)) >>> ((1 : Int32).toInt64 &&& 63)))) + ((1 : Int64) <<< (n.toInt64 &&& 63))) - 1) >>> (n.toInt64 &&& 63)).toInt32
def fCount (st sz en : Int32) : Int32 := if 1 ≤ sz then (((en - st) + sz) - 1) / sz else 0
def fLay (st sz : Int32) (x : Nat → Int32) (en : Int32) : Int32 := if fEmpty x = 0 then fCount st sz en else 0
def fGHas (g : Nat → Int32) (k : Int32) : Int32 := if k < 0 then 0 else if g 4 * g 5 ≤ k then 0 else 1
def fLeft (g : Nat → Int32) (k : Int32) : Int32 := if 1 ≤ g 4 then g 0 + ((k - k / g 4 * g 4) * g 2) else g 0
def fTop (g : Nat → Int32) (k : Int32) : Int32 := if 1 ≤ g 4 then g 1 + ((k / g 4) * g 3) else g 1
def fNum (g : Nat → Int32) (x y : Int32) : Int32 := if g 2 < 1 then 0 else if 1 ≤ g 3 then (((y - g 1) / g 3) * g 4) + ((x - g 0) / g 2) else 0
def fHalv (q : Int32) : Int32 := if q = 0 then 0 else 1
def fLast (q : Int32) : Int32 := if q = 0 then 0 else 3
def fFirst (st sz f : Int32) : Int32 := if fWithin st 0 f = 0 then 0 else if st + sz ≤ f then 0 else 1
def fEoc (x g : Nat → Int32) (w : Int32) : Int32 := if 3 < w then (if w = 4 then g 4 else g 5) else fEdge x w
def fBW (bw : Int32) (pf : Nat → Int32) (q : Int32) : Int32 := pq_min bw (pf q.toNatClampNeg - fHalv q)
def bDiv (x : Nat → Int32) (dx dy : Int32) : Nat → Int32 := fQuad (fDivd (x 0) dx) (fDivd (x 1) dy) (fDivd (x 2) dx) (fDivd (x 3) dy)
def bScal (x : Nat → Int32) (n ox oy : Int32) : Nat → Int32 := fQuad (fScal (x 0) n ox) (fScal (x 1) n oy) (fScal (x 2) n ox) (fScal (x 3) n oy)
def bCut (x : Nat → Int32) (le to wd ht : Int32) : Nat → Int32 := fQuad (pq_max (x 0) le) (pq_max (x 1) to) (pq_min (x 2) (le + wd)) (pq_min (x 3) (to + ht))
def bTake (x g : Nat → Int32) (k : Int32) : Nat → Int32 := bCut x (fLeft g k) (fTop g k) (g 2) (g 3)
def gLay (px py cw ch : Int32) (x : Nat → Int32) : Nat → Int32 := fSix px py cw ch (fLay px cw x (x 2)) (fLay py ch x (x 3))
def gPow (x : Nat → Int32) (w h : Int32) : Nat → Int32 := gLay (((x 0) >>> (w &&& 31)) <<< (w &&& 31)) (((x 1) >>> (h &&& 31)) <<< (h &&& 31)) (1 <<< (w &&& 31)) (1 <<< (h &&& 31)) x
def bLev (x : Nat → Int32) (lv q : Int32) : Nat → Int32 := bScal x (lv - q) 0 0
def bBand (x : Nat → Int32) (lv q b : Int32) : Nat → Int32 := bScal x ((lv - q) + fHalv q) (b &&& 1) (b >>> ((1 : Int32) &&& 31))
def gPrec (x : Nat → Int32) (pf qf : Nat → Int32) (q : Int32) : Nat → Int32 := gPow x (pf q.toNatClampNeg) (qf q.toNatClampNeg)
def bShare0 (x g : Nat → Int32) (q p : Int32) : Nat → Int32 := bCut x (fLeft g p >>> (fHalv q &&& 31)) (fTop g p >>> (fHalv q &&& 31)) (g 2 >>> (fHalv q &&& 31)) (g 3 >>> (fHalv q &&& 31))
def bShare (x g : Nat → Int32) (q p : Int32) : Nat → Int32 := if fEmpty (bShare0 x g q p) = 0 then bShare0 x g q p else fQuad 0 0 0 0
def gBlk (x : Nat → Int32) (bw bh : Int32) (pf qf : Nat → Int32) (q : Int32) : Nat → Int32 := gPow x (fBW bw pf q) (fBW bh qf q)
def fCnt (x : Nat → Int32) (lv bw bh : Int32) (pf qf : Nat → Int32) (q b : Int32) : Int32 := (gBlk (bBand x lv q b) bw bh pf qf q) 4 * (gBlk (bBand x lv q b) bw bh pf qf q) 5
def fSumB (x : Nat → Int32) (lv bw bh : Int32) (pf qf : Nat → Int32) (t q : Int32) : Int32 := if q = 0 then t + fCnt x lv bw bh pf qf q 0 else ((t + fCnt x lv bw bh pf qf q 1) + fCnt x lv bw bh pf qf q 2) + fCnt x lv bw bh pf qf q 3
/-- the blocks of the first j levels -/
def fTot (x : Nat → Int32) (lv bw bh : Int32) (pf qf : Nat → Int32) : Nat → Int32
  | 0 => 0
  | j + 1 => fSumB x lv bw bh pf qf (fTot x lv bw bh pf qf j) (nI j)
def fBandOf (q x y : Int32) : Int32 := if q = 0 then 0 else (x &&& 1) + (2 * (y &&& 1))
def fOfCo (x : Nat → Int32) (lv bw bh : Int32) (pf qf : Nat → Int32) (q px py w : Int32) : Int32 :=
  if w = 0 then q else if w = 1 then fBandOf q px py else if w = 2 then px >>> (fHalv q &&& 31) else if w = 3 then py >>> (fHalv q &&& 31) else
  if w = 4 then fNum (gPrec (bLev x lv q) pf qf q) px py else
  fNum (gBlk (bShare (bBand x lv q (fBandOf q px py)) (gPrec (bLev x lv q) pf qf q) q (fNum (gPrec (bLev x lv q) pf qf q) px py)) bw bh pf qf q) (px >>> (fHalv q &&& 31)) (py >>> (fHalv q &&& 31))
/-- from level j on down to where the sample's coefficient is: level, x, y there -/
def fDown : Nat → Int32 → Int32 → Int32 × Int32 × Int32
  | 0, x, y => (0, x, y)
  | j + 1, x, y => if ((x ||| y) &&& 1) = 0 then fDown j (x >>> ((1 : Int32) &&& 31)) (y >>> ((1 : Int32) &&& 31)) else (nI (j + 1), x, y)
def fIn (n c : Int32) : Int32 := if c < 0 then 0 else if n ≤ c then 0 else 1
theorem fWithin_01 (v lo hi : Int32) : fWithin v lo hi = 0 ∨ fWithin v lo hi = 1 := by unfold fWithin; (repeat' split) <;> simp
theorem fGHas_01 (g : Nat → Int32) (k : Int32) : fGHas g k = 0 ∨ fGHas g k = 1 := by unfold fGHas; (repeat' split) <;> simp
theorem fFirst_01 (a b d : Int32) : fFirst a b d = 0 ∨ fFirst a b d = 1 := by unfold fFirst; (repeat' split) <;> simp
theorem fEmpty_01 (x : Nat → Int32) : fEmpty x = 0 ∨ fEmpty x = 1 := by unfold fEmpty; (repeat' split) <;> simp
theorem fIn_01 (n c : Int32) : fIn n c = 0 ∨ fIn n c = 1 := by unfold fIn; (repeat' split) <;> simp
theorem fHas_01 (x : Nat → Int32) (u v : Int64) : fHas x u v = 0 ∨ fHas x u v = 1 := by unfold fHas; (repeat' split) <;> simp
theorem fWithin_nar (v lo hi : Int32) : narrow .boolean (.int (fWithin v lo hi)) = .int (fWithin v lo hi) := by rcases fWithin_01 v lo hi with h | h <;> rw [h] <;> rfl
theorem pq_in16 {n q : Int32} (h : fIn n q = 1) (hn : n ≤ 16) : vp_in q 16 := by
  unfold fIn at h
  split at h
  · exact absurd h (by decide)
  · split at h
    · exact absurd h (by decide)
    · rename_i h1 h2
      rw [vp_in_iff]
      simp only [Int32.lt_iff_toInt_lt, Int32.le_iff_toInt_le] at *
      have e0 : (0 : Int32).toInt = 0 := by decide
      have e16 : (16 : Int32).toInt = 16 := by decide
      omega
theorem pq_jend {lv : Int32} {j : Nat} (hj : j ≤ lv.toNatClampNeg + 1) (h0 : 0 ≤ lv) (hv : lv ≤ 32) (h : lv < nI j) : j = lv.toNatClampNeg + 1 := by
  obtain ⟨i, hi, rfl⟩ := nI_of2 (M := 32) (n := 32) (by decide) (by intro h9; simp only [Int32.lt_iff_toInt_lt, Int32.le_iff_toInt_le] at *; omega) hv
  rw [nI_clamp (by omega)] at hj ⊢
  rw [nI_ltI (by omega) (by omega)] at h
  omega
theorem pq_jin {lv : Int32} {j : Nat} (hj : j ≤ lv.toNatClampNeg + 1) (h0 : 0 ≤ lv) (hv : lv ≤ 32) (h : ¬ lv < nI j) : j ≤ lv.toNatClampNeg ∧ vp_in (nI j) 33 := by
  obtain ⟨i, hi, rfl⟩ := nI_of2 (M := 32) (n := 32) (by decide) (by intro h9; simp only [Int32.lt_iff_toInt_lt, Int32.le_iff_toInt_le] at *; omega) hv
  rw [nI_clamp (by omega)] at hj ⊢
  rw [nI_ltI (by omega) (by omega)] at h
  exact ⟨by omega, vp_in_nI (by omega) (by decide)⟩
theorem pq_inR {q lv : Int32} (h : fWithin q 0 lv = 1) (hv : lv ≤ 32) : vp_in q 33 := by
  unfold fWithin at h
  split at h
  · exact absurd h (by decide)
  · split at h
    · exact absurd h (by decide)
    · rename_i h1 h2
      rw [vp_in_iff]
      simp only [Int32.lt_iff_toInt_lt, Int32.le_iff_toInt_le] at *
      have e0 : (0 : Int32).toInt = 0 := by decide
      have e32 : (32 : Int32).toInt = 32 := by decide
      omega
