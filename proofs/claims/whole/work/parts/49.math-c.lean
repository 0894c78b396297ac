section PqMath3
theorem mg_empty {a b c d : Nat} (ha : a ≤ 65535) (hb : b ≤ 65535) (hc : c ≤ 65535) (hd : d ≤ 65535) : fEmpty (bq a b c d) = 0 ↔ a < c ∧ b < d := by
  unfold fEmpty bq
  show (if nI c ≤ nI a then (1 : Int32) else if nI b < nI d then 0 else 1) = 0 ↔ _
  by_cases h1 : c ≤ a
  · rw [if_pos (nI_le h1 (by omega))]
    exact ⟨fun h => absurd h (by decide), fun h => by omega⟩
  · rw [if_neg (fun z => h1 ((nI_leI (by omega) (by omega)).mp z))]
    by_cases h2 : b < d
    · rw [if_pos (nI_lt h2 (by omega))]
      exact ⟨fun _ => ⟨by omega, h2⟩, fun _ => rfl⟩
    · rw [if_neg (fun z => h2 ((nI_ltI (by omega) (by omega)).mp z))]
      exact ⟨fun h => absurd h (by decide), fun h => absurd h.2 h2⟩
def cn (a b w : Nat) : Nat := (b - 1) / 2 ^ w - a / 2 ^ w + 1
theorem cn_le {a b w : Nat} (h : a < b) : cn a b w ≤ b := by
  unfold cn
  have h1 := Nat.div_le_self (b - 1) (2 ^ w)
  have h2 := Nat.sub_le ((b - 1) / 2 ^ w) (a / 2 ^ w)
  generalize (b - 1) / 2 ^ w - a / 2 ^ w = z at *
  generalize (b - 1) / 2 ^ w = y at *
  omega
theorem cn_div {a b w : Nat} (h : a < b) : a / 2 ^ w ≤ (b - 1) / 2 ^ w := Nat.div_le_div_right (by omega)
theorem mg_sq {a b w : Nat} (hab : a < b) (hb : b ≤ 65535) (hw : w ≤ 15) : mSq (nI a) (nI b) (nI w) = nI (cn a b w) := by
  unfold mSq cn
  have h1 := cn_div (w := w) hab
  rw [if_neg (nI_ge hab (by omega)), ma_1, pk_sub (by omega), ma_shr (by omega) (by omega), ma_shr (by omega) (by omega), pk_sub h1, nI_add]
theorem mg_sq0 {a b : Nat} {e : Int32} (hab : b ≤ a) (ha : a ≤ 65535) : mSq (nI a) (nI b) e = 0 := by
  unfold mSq
  rw [if_pos (nI_le hab (by omega))]
theorem mg_cnt {a b w : Nat} (hab : a < b) (hb : b ≤ 65535) (hw : w ≤ 15) : fCount (nI (a / 2 ^ w * 2 ^ w)) (nI (2 ^ w)) (nI b) = nI (cn a b w) := by
  have hp : 2 ^ w ≤ 2 ^ 15 := ma_p2 hw
  have h0 : 0 < 2 ^ w := Nat.two_pow_pos w
  have h1 : a / 2 ^ w * 2 ^ w ≤ a := Nat.div_mul_le_self a _
  unfold fCount cn
  rw [if_pos (by rw [ma_1]; exact nI_le h0 (by omega)), pk_sub (by omega), nI_add, ma_1, pk_sub (by omega), pk_div (by omega) h0 (by omega)]
  congr 1
  have e : b - a / 2 ^ w * 2 ^ w + 2 ^ w - 1 = (b - 1 - 2 ^ w * (a / 2 ^ w)) + 2 ^ w := by
    rw [Nat.mul_comm (2 ^ w)]
    omega
  rw [e, Nat.add_div_right _ h0, Nat.sub_mul_div]
theorem mg_shx {a w : Nat} (ha : a ≤ 65535) (hw : w ≤ 15) : (nI a >>> (nI w &&& 31)) <<< (nI w &&& 31) = nI (a / 2 ^ w * 2 ^ w) := by
  have h1 : a / 2 ^ w * 2 ^ w ≤ a := Nat.div_mul_le_self a _
  rw [ma_shr (by omega) (by omega), ma_shl (by omega) (by omega)]
theorem mg_pow {a b c d w h : Nat} (hc : c ≤ 65535) (hd : d ≤ 65535) (hw : w ≤ 15) (hh : h ≤ 15) (h1 : a < c) (h2 : b < d) : gPow (bq a b c d) (nI w) (nI h) = gq (a / 2 ^ w * 2 ^ w) (b / 2 ^ h * 2 ^ h) (2 ^ w) (2 ^ h) (cn a c w) (cn b d h) := by
  have he := (mg_empty (by omega) (by omega) hc hd).mpr ⟨h1, h2⟩
  unfold gPow gLay fLay gq
  rw [he]
  show fSix ((nI a >>> (nI w &&& 31)) <<< (nI w &&& 31)) ((nI b >>> (nI h &&& 31)) <<< (nI h &&& 31)) (1 <<< (nI w &&& 31)) (1 <<< (nI h &&& 31)) (if (0 : Int32) = 0 then fCount ((nI a >>> (nI w &&& 31)) <<< (nI w &&& 31)) (1 <<< (nI w &&& 31)) (nI c) else 0) (if (0 : Int32) = 0 then fCount ((nI b >>> (nI h &&& 31)) <<< (nI h &&& 31)) (1 <<< (nI h &&& 31)) (nI d) else 0) = _
  rw [if_pos rfl, if_pos rfl, mg_shx (by omega) hw, mg_shx (by omega) hh, ma_one (by omega), ma_one (by omega), mg_cnt h1 hc hw, mg_cnt h2 hd hh]
theorem mg_pow45 {x : Nat → Int32} {w h : Int32} (he : ¬ fEmpty x = 0) : (gPow x w h) 4 = 0 ∧ (gPow x w h) 5 = 0 := by
  unfold gPow gLay fLay
  rw [if_neg he, if_neg he]
  exact ⟨rfl, rfl⟩
theorem mg_ghas0 {g : Nat → Int32} {k : Int32} (h : g 4 = 0) : fGHas g k = 0 := by
  unfold fGHas
  rw [h, Int32.zero_mul]
  by_cases h1 : k < 0
  · rw [if_pos h1]
  · rw [if_neg h1, if_pos (mb_nlt.mp h1)]
theorem mg_or {x y : Nat} (hx : x < 32768) (hy : y < 65536) : (nI x <<< ((16 : Int32) &&& 31)) ||| nI y = nI (x * 65536 + y) := by
  have e : nI x <<< ((16 : Int32) &&& 31) = nI (x * 65536) := ma_shl (k := 16) (by decide) (by omega)
  rw [e]
  apply Int32.toBitVec_inj.mp
  apply BitVec.eq_of_toNat_eq
  rw [Int32.toBitVec_or, BitVec.toNat_or, pk_tn (by omega), pk_tn (by omega), pk_tn (by omega)]
  have := Nat.shiftLeft_add_eq_or_of_lt (i := 16) (b := y) (by omega) x
  rw [Nat.shiftLeft_eq] at this
  exact this.symm
section Cells
variable {a b c d w h : Nat} {f6 f7 : Nat → Int32} {cx q : Int32}
theorem mg_col (hc : c ≤ 65535) (hd : d ≤ 65535) (hw : w ≤ 15) (h1 : a < c) (h2 : b < d) (e6 : f6 ((33 * cx) + q).toNatClampNeg = nI w) : mCol (bq a b c d) f6 cx q = nI (cn a c w) := by
  unfold mCol
  rw [if_pos ((mg_empty (by omega) (by omega) hc hd).mpr ⟨h1, h2⟩), e6]
  exact mg_sq h1 hc hw
theorem mg_row (hc : c ≤ 65535) (hd : d ≤ 65535) (hh : h ≤ 15) (h1 : a < c) (h2 : b < d) (e7 : f7 ((33 * cx) + q).toNatClampNeg = nI h) : mRow (bq a b c d) f7 cx q = nI (cn b d h) := by
  unfold mRow
  rw [if_pos ((mg_empty (by omega) (by omega) hc hd).mpr ⟨h1, h2⟩), e7]
  exact mg_sq h2 hd hh
theorem mg_col0 {x : Nat → Int32} (he : ¬ fEmpty x = 0) : mCol x f6 cx q = 0 ∧ mRow x f7 cx q = 0 := by
  unfold mCol mRow
  rw [if_neg he, if_neg he]
  exact ⟨rfl, rfl⟩
theorem mg_pl (hc : c ≤ 32767) (hd : d ≤ 32767) (hw : w ≤ 15) (hh : h ≤ 15) (h1 : a < c) (h2 : b < d) (e6 : f6 ((33 * cx) + q).toNatClampNeg = nI w) (e7 : f7 ((33 * cx) + q).toNatClampNeg = nI h) {P : Nat} (hP : P < cn a c w * cn b d h) :
    a / 2 ^ w + P % cn a c w ≤ (c - 1) / 2 ^ w ∧ b / 2 ^ h + P / cn a c w ≤ (d - 1) / 2 ^ h ∧ mPlace (bq a b c d) f6 f7 cx q (nI P) = nI ((a / 2 ^ w + P % cn a c w) * 65536 + (b / 2 ^ h + P / cn a c w)) := by
  have hp : P % cn a c w < cn a c w := Nat.mod_lt _ (by unfold cn; omega)
  have hq : P / cn a c w < cn b d h := Nat.div_lt_of_lt_mul hP
  have k1 := cn_div (w := w) h1
  have k2 := cn_div (w := h) h2
  have k3 := Nat.div_le_self (c - 1) (2 ^ w)
  have k4 := Nat.div_le_self (d - 1) (2 ^ h)
  have l1 : cn a c w ≤ 32767 := Nat.le_trans (cn_le h1) hc
  have l2 : cn b d h ≤ 32767 := Nat.le_trans (cn_le h2) hd
  have hPb : P < 2 ^ 31 := by
    have : cn a c w * cn b d h ≤ 32767 * 32767 := Nat.mul_le_mul l1 l2
    omega
  have g1 : a / 2 ^ w + P % cn a c w ≤ (c - 1) / 2 ^ w := by have : cn a c w = (c - 1) / 2 ^ w - a / 2 ^ w + 1 := rfl; omega
  have g2 : b / 2 ^ h + P / cn a c w ≤ (d - 1) / 2 ^ h := by have : cn b d h = (d - 1) / 2 ^ h - b / 2 ^ h + 1 := rfl; omega
  refine ⟨g1, g2, ?_⟩
  unfold mPlace mPl1
  rw [mg_col (by omega) (by omega) hw h1 h2 e6, mg_row (by omega) (by omega) hh h1 h2 e7, if_neg (nI_pos hPb), if_neg (nI_ne0 (by unfold cn; omega) (by omega)), pk_div hPb (by unfold cn; omega) (by omega), if_pos (nI_lt hq (by omega)), pk_mul, pk_sub (Nat.div_mul_le_self _ _), e6, e7]
  show (((nI a >>> (nI w &&& 31)) + nI (P - P / cn a c w * cn a c w)) <<< ((16 : Int32) &&& 31)) ||| ((nI b >>> (nI h &&& 31)) + nI (P / cn a c w)) = _
  have em : P - P / cn a c w * cn a c w = P % cn a c w := by
    have := Nat.div_add_mod P (cn a c w)
    rw [Nat.mul_comm] at this
    omega
  rw [em, ma_shr (by omega) (by omega), ma_shr (by omega) (by omega), nI_add, nI_add, mg_or (by omega) (by omega)]
theorem mg_hi {x y : Nat} (hx : x < 32768) (hy : y < 65536) : nI (x * 65536 + y) >>> ((16 : Int32) &&& 31) = nI x := by
  have := ma_shr (a := x * 65536 + y) (k := 16) (by omega) (by decide)
  rw [show (x * 65536 + y) / 2 ^ 16 = x by omega] at this
  exact this
theorem mg_lo {x y : Nat} (hx : x < 32768) (hy : y < 65536) : nI (x * 65536 + y) &&& 65535 = nI y := by
  rw [pk_andN (by omega) 16 (by decide)]
  congr 1
  omega
theorem mg_keep {z : Nat → Int32} {co ro : Nat} (hw : w ≤ 15) (hh : h ≤ 15) (h1 : co * 2 ^ w < 2 ^ 31) (h2 : ro * 2 ^ h < 2 ^ 31) : mKeep z (nI co) (nI ro) (nI w) (nI h) = bCut z (nI (co * 2 ^ w)) (nI (ro * 2 ^ h)) (nI (2 ^ w)) (nI (2 ^ h)) := by
  unfold mKeep
  rw [mb_cut, ma_shl (by omega) (by omega), ma_shl (by omega) (by omega), ma_one (by omega), ma_one (by omega)]
/-- the cell P of a grid of powers: its corner -/
theorem mg_corner (hc : c ≤ 32767) (hd : d ≤ 32767) (hw : w ≤ 15) (hh : h ≤ 15) (h1 : a < c) (h2 : b < d) {P : Nat} (hP : P < cn a c w * cn b d h) :
    fLeft (gPow (bq a b c d) (nI w) (nI h)) (nI P) = nI ((a / 2 ^ w + P % cn a c w) * 2 ^ w) ∧ fTop (gPow (bq a b c d) (nI w) (nI h)) (nI P) = nI ((b / 2 ^ h + P / cn a c w) * 2 ^ h) ∧ (gPow (bq a b c d) (nI w) (nI h)) 2 = nI (2 ^ w) ∧ (gPow (bq a b c d) (nI w) (nI h)) 3 = nI (2 ^ h) ∧ (a / 2 ^ w + P % cn a c w) * 2 ^ w ≤ 32767 ∧ (b / 2 ^ h + P / cn a c w) * 2 ^ h ≤ 32767 := by
  obtain ⟨g1, g2, -⟩ := mg_pl (f6 := fun _ => nI w) (f7 := fun _ => nI h) (cx := 0) (q := 0) hc hd hw hh h1 h2 rfl rfl hP
  have l1 : cn a c w ≤ 32767 := Nat.le_trans (cn_le h1) hc
  have l2 : cn b d h ≤ 32767 := Nat.le_trans (cn_le h2) hd
  have hPb : P < 2 ^ 31 := by
    have : cn a c w * cn b d h ≤ 32767 * 32767 := Nat.mul_le_mul l1 l2
    omega
  have n1 : 1 ≤ cn a c w := by unfold cn; omega
  rw [mg_pow (by omega) (by omega) hw hh h1 h2, mb_left n1 (by omega) hPb, mb_top n1 (by omega) hPb, Nat.add_mul, Nat.add_mul]
  refine ⟨rfl, rfl, rfl, rfl, ?_, ?_⟩
  · rw [← Nat.add_mul]
    have := Nat.mul_le_mul_right (2 ^ w) g1
    have := Nat.div_mul_le_self (c - 1) (2 ^ w)
    omega
  · rw [← Nat.add_mul]
    have := Nat.mul_le_mul_right (2 ^ h) g2
    have := Nat.div_mul_le_self (d - 1) (2 ^ h)
    omega
end Cells
end PqMath3
