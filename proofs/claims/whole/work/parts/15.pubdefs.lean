def pPt (x g6 : Nat → Int32) (t dx dy : Int32) : Nat → Int32 := bDiv (bTake x g6 t) dx dy
def xTile (g6 : Nat → Int32) (t w : Int32) : Int32 := if fWithin w 0 3 = 0 then 1 else if fGHas g6 t = 0 then 1 else 0
def xPart (g6 : Nat → Int32) (t w : Int32) : Int32 := if fWithin w 0 4 = 0 then 1 else if fGHas g6 t = 0 then 1 else 0
def vPart (y : Nat → Int32) (lv bw bh : Int32) (pf qf : Nat → Int32) (w : Int32) : Int32 := if w = 4 then fTot y lv bw bh pf qf (lv.toNatClampNeg + 1) else fEdge y w
def xLevel (g6 : Nat → Int32) (lv t q w : Int32) : Int32 := if fWithin w 0 5 = 0 then 1 else if fGHas g6 t = 0 then 1 else if fWithin q 0 lv = 0 then 1 else 0
def xBand (g6 : Nat → Int32) (lv t q bn w : Int32) : Int32 := if fWithin w 0 5 = 0 then 1 else if fGHas g6 t = 0 then 1 else if fWithin q 0 lv = 0 then 1 else if fWithin bn (fHalv q) (fLast q) = 0 then 1 else 0
def vBand (y : Nat → Int32) (lv bw bh : Int32) (pf qf : Nat → Int32) (q bn w : Int32) : Int32 := if 3 < w then (if w = 4 then fBW bw pf q else fBW bh qf q) else fEdge (bBand y lv q bn) w
def xPrec (g6 y : Nat → Int32) (lv : Int32) (pf qf : Nat → Int32) (t q pn w : Int32) : Int32 := if fWithin w 0 3 = 0 then 1 else if fGHas g6 t = 0 then 1 else if fWithin q 0 lv = 0 then 1 else if fGHas (gPrec (bLev y lv q) pf qf q) pn = 0 then 1 else 0
def pSh (y : Nat → Int32) (lv : Int32) (pf qf : Nat → Int32) (q bn pn : Int32) : Nat → Int32 := bShare (bBand y lv q bn) (gPrec (bLev y lv q) pf qf q) q pn
def xShare (g6 y : Nat → Int32) (lv : Int32) (pf qf : Nat → Int32) (t q bn pn w : Int32) : Int32 := if fWithin w 0 5 = 0 then 1 else if fGHas g6 t = 0 then 1 else if fWithin q 0 lv = 0 then 1 else if fWithin bn (fHalv q) (fLast q) = 0 then 1 else if fGHas (gPrec (bLev y lv q) pf qf q) pn = 0 then 1 else 0
def xBlock (g6 y : Nat → Int32) (lv bw bh : Int32) (pf qf : Nat → Int32) (t q bn pn kb w : Int32) : Int32 := if fWithin w 0 3 = 0 then 1 else if fGHas g6 t = 0 then 1 else if fWithin q 0 lv = 0 then 1 else if fWithin bn (fHalv q) (fLast q) = 0 then 1 else if fGHas (gPrec (bLev y lv q) pf qf q) pn = 0 then 1 else if fGHas (gBlk (pSh y lv pf qf q bn pn) bw bh pf qf q) kb = 0 then 1 else 0
def xWhere (x : Nat → Int32) (dx dy px py : Int32) : Int32 := if fHas x (px.toInt64 * dx.toInt64) (py.toInt64 * dy.toInt64) = 0 then 1 else 0
def xCoef (g6 y : Nat → Int32) (t px py w : Int32) : Int32 := if fWithin w 0 5 = 0 then 1 else if fGHas g6 t = 0 then 1 else if fHas y px.toInt64 py.toInt64 = 0 then 1 else 0
def xArea (p0 p1 p2 p3 : Int32) : Int32 := if p0 < 0 then 1 else if p1 < 0 then 1 else if 32767 < p2 then 1 else if p3 ≤ 32767 then (if p2 ≤ p0 then 1 else if p1 < p3 then 0 else 1) else 1
def xTiles (x : Nat → Int32) (p0 p1 p2 p3 : Int32) : Int32 := if fEmpty x = 0 then (if fWithin p2 1 32767 = 0 then 2 else if fWithin p3 1 32767 = 0 then 2 else if fFirst p0 p2 (x 0) = 0 then 2 else if fFirst p1 p3 (x 1) = 0 then 2 else if fCount p0 p2 (x 2) * fCount p1 p3 (x 3) ≤ 65535 then 0 else 2) else 1
def xComp (p0 p1 n : Int32) : Int32 := if fWithin p0 1 255 = 0 then 1 else if fWithin p1 1 255 = 0 then 1 else if n < 16 then 0 else 2
def xCod (p1 p2 p3 : Int32) : Int32 := if fWithin p1 0 32 = 0 then 2 else if fWithin p2 2 10 = 0 then 2 else if fWithin p3 2 10 = 0 then 2 else if p2 + p3 ≤ 12 then 0 else 2
def xPre (p1 p2 p3 : Int32) : Int32 := if fWithin p1 0 32 = 0 then 1 else if fWithin p2 (fHalv p1) 15 = 0 then 2 else if fWithin p3 (fHalv p1) 15 = 0 then 2 else 0
