section PqMath5
theorem i10 {c : Prop} [Decidable c] {X : Int32} (h : (if c then 1 else X) = 0) : ¬ c ∧ X = 0 := by
  by_cases hc : c
  · rw [if_pos hc] at h
    exact absurd h (by decide)
  · rw [if_neg hc] at h
    exact ⟨hc, h⟩
theorem c_w45 {w A B E : Int32} (hw : fWithin w 0 5 = 1) : (if 3 < w then (if w = 4 then A else B) else E) = (if w = 4 then A else if w = 5 then B else E) := by
  obtain ⟨h1, h2⟩ := fWithin_iff.mp hw
  by_cases h : 3 < w
  · rw [if_pos h]
    by_cases h4 : w = 4
    · rw [if_pos h4, if_pos h4]
    · have : w = 5 := by
        apply Int32.toInt_inj.mp
        have : w.toInt ≠ 4 := fun e => h4 (Int32.toInt_inj.mp e)
        rw [mb_lt] at h h2
        have e3 : (3 : Int32).toInt = 3 := by decide
        have e5 : (5 : Int32).toInt = 5 := by decide
        omega
      rw [if_neg h4, if_neg h4, if_pos this]
  · rw [if_neg h, if_neg (fun z => h (by rw [z]; decide)), if_neg (fun z => h (by rw [z]; decide))]
section Ctx5
variable {pk nc n t cx q bn pn kb : Int32} {x g pp gg f1 f2 f3 f4 f5 f6 f7 pf qf : Nat → Int32} {dx dy lv bw bh : Int32} {J : Nat} {r V a b c d w h : Nat}
theorem c_hf {n a : Nat} (h : a ≤ 32767) : hf n a ≤ 32767 := Nat.le_trans hf_le h
theorem M_level (hRel : Rel pk x g pp gg) (hN : fIn nc cx = 1) (hJ : cx = nI J) (hJ16 : J < 16) (ok : okC dx dy lv bw bh pf qf) (rc : RC J f1 f2 f3 f4 f5 f6 f7 dx dy lv bw bh pf qf) (t q w : Int32) :
    xLevel g lv t q w = mxLevel pk gg f3 nc t cx q w ∧ (xLevel g lv t q w = 0 → fEoc (bLev (bDiv (bTake x g t) dx dy) lv q) (gPrec (bLev (bDiv (bTake x g t) dx dy) lv q) pf qf q) w = mvLevel (mLE pp gg f1 f2 f3 t cx q) f6 f7 cx q w) := by
  have ec : cx.toNatClampNeg = J := by rw [hJ]; exact nI_clamp (by omega)
  refine ⟨?_, fun h0 => ?_⟩
  · unfold mxLevel xLevel
    rw [mw_if, if_neg (pq_1n0 hN), R_okT hRel, ec, rc.2.2.1, mInL_eq]
  · unfold xLevel at h0
    obtain ⟨g1, h0⟩ := i10 h0
    obtain ⟨g2, h0⟩ := i10 h0
    obtain ⟨g3, h0⟩ := i10 h0
    have ht := n01 (fGHas_01 _ _) g2
    obtain ⟨rfl, rfl, rfl, hR⟩ := R_pic hRel ht
    obtain ⟨r, V, a, b, c, d, w9, h, e1, e2, h3, h4, ha, hb, hc, hd, e5, e6, e7, e8, e9, e10, e11, e12, hw, hh, h13⟩ := c_cx hR ht (n01 (fWithin_01 _ _ _) g3) hJ hJ16 ok rc
    rw [e5, e7, e8]
    unfold gPrec mvLevel
    rw [e9, e10]
    obtain ⟨k4, k5⟩ := c_col (f6 := f6) (f7 := f7) (cx := cx) (q := q) (c_hf (n := V - r) ha) (c_hf (n := V - r) hb) (c_hf (n := V - r) hc) (c_hf (n := V - r) hd) hw hh e11 e12
    exact c_eoc (n01 (fWithin_01 _ _ _) g1) k4 k5
theorem c_bw {f4 : Nat → Int32} {bw : Int32} {pf f6 : Nat → Int32} (e4 : f4 cx.toNatClampNeg = bw) (e6 : f6 ((33 * cx) + q).toNatClampNeg = pf q.toNatClampNeg) : fBW bw pf q = mBW f6 f4 cx q := by
  unfold fBW mBW mWd mInB fHalv
  have key : ∀ (u v : Int32), (if u ≤ v then u else v) = pq_min u v := fun u v => mb_min u v
  rw [e4, e6, key]
  by_cases h : q = 0
  · rw [if_pos h, if_pos h, Int32.sub_zero]
  · rw [if_neg h, if_neg h]
theorem c_bwn {bw : Int32} {pf : Nat → Int32} (hb : ∃ B : Nat, B ≤ 10 ∧ bw = nI B) (ep : pf q.toNatClampNeg = nI w) (eq1 : q = nI r) (hr : r ≤ 32) (hw : w ≤ 15) (hw1 : r ≠ 0 → 1 ≤ w) : ∃ K : Nat, K ≤ 15 ∧ fBW bw pf q = nI K := by
  obtain ⟨B, hB, rfl⟩ := hb
  unfold fBW fHalv
  rw [ep]
  by_cases h : q = 0
  · rw [if_pos h, Int32.sub_zero, mb_nmin (by omega) (by omega)]
    exact ⟨_, by omega, rfl⟩
  · rw [if_neg h]
    have : r ≠ 0 := fun z => h (by rw [eq1, z]; exact nI_0)
    have := hw1 this
    rw [ma_1, pk_sub (by omega), mb_nmin (by omega) (by omega)]
    exact ⟨_, by omega, rfl⟩
theorem c_band (hcx : CX x g f1 f2 f3 f6 f7 pf qf dx dy lv t cx q r V a b c d w h) (hbn : fWithin bn (fHalv q) (fLast q) = 1) : ∃ a' b' c' d' : Nat, a' ≤ 32767 ∧ b' ≤ 32767 ∧ c' ≤ 32767 ∧ d' ≤ 32767 ∧ bBand (bq a b c d) lv q bn = bq a' b' c' d' ∧ mBE x g f1 f2 f3 t cx q bn = bq a' b' c' d' ∧ (∀ X : Nat, hf (V - r) a ≤ X → (r ≠ 0 → nI (X % 2) = bn &&& 1) → a' ≤ (if r = 0 then X else X / 2)) ∧ (∀ Y : Nat, hf (V - r) b ≤ Y → (r ≠ 0 → nI (Y % 2) = bn >>> ((1 : Int32) &&& 31)) → b' ≤ (if r = 0 then Y else Y / 2)) := by
  obtain ⟨e1, e2, h3, h4, ha, hb', hc, hd, e5, e6, e7, e8, e9, e10, e11, e12, hw, hh, h13⟩ := hcx
  obtain ⟨k1, k2⟩ := fWithin_iff.mp hbn
  unfold mBE mBand bBand
  rw [e8]
  by_cases hq : q = 0
  · have hr : r = 0 := by rw [e1, ← nI_0] at hq; exact (nI_eq (by omega) (by decide)).mp hq
    have hbz : bn = 0 := by
      unfold fHalv at k1; unfold fLast at k2
      rw [if_pos hq] at k1 k2
      apply Int32.toInt_inj.mp
      rw [mb_lt] at k1 k2
      omega
    refine ⟨_, _, _, _, c_hf (n := V - r) ha, c_hf (n := V - r) hb', c_hf (n := V - r) hc, c_hf (n := V - r) hd, ?_, ?_, fun X hX _ => by rw [if_pos hr]; exact hX, fun Y hY _ => by rw [if_pos hr]; exact hY⟩
    · unfold fHalv
      rw [if_pos hq, Int32.add_zero, hbz]
      have z1 : (0 : Int32) &&& 1 = 0 := by decide
      have z2 : (0 : Int32) >>> ((1 : Int32) &&& 31) = 0 := by decide
      rw [z1, z2, ← e7]
      rfl
    · rw [if_pos (by rw [hq]; decide)]
  · have hr : r ≠ 0 := fun z => hq (by rw [e1, z]; exact nI_0)
    unfold fHalv at k1; unfold fLast at k2
    rw [if_neg hq] at k1 k2
    obtain ⟨k, hk, rfl⟩ := nI_of (x := bn) (by
      intro z
      rw [mb_lt] at k1 z
      have e0 : (0 : Int32).toInt = 0 := by decide
      have e1 : (1 : Int32).toInt = 1 := by decide
      omega)
    have k3 : 1 ≤ k := by
      rw [ma_1, nI_ltI hk (by decide)] at k1
      omega
    have k4 : k ≤ 3 := by
      have e3 : (3 : Int32) = nI 3 := by decide
      rw [e3, nI_ltI (by decide) hk] at k2
      omega
    have hb9 : ∀ {n o a : Nat}, a ≤ 32767 → hb n o a ≤ 32767 := by
      intro n o a ha
      have := c_hf (n := n) ha
      unfold hb
      omega
    have hx9 : ∀ {E o X : Nat}, hf (V - r) E ≤ X → X % 2 = o → hb (V - r) o E ≤ X / 2 := by
      intro E o X h1 h2
      unfold hb
      omega
    refine ⟨_, _, _, _, hb9 (n := V - r) (o := k % 2) ha, hb9 (n := V - r) (o := k / 2) hb', hb9 (n := V - r) (o := k % 2) hc, hb9 (n := V - r) (o := k / 2) hd, ?_, ?_, fun X hX hm => ?_, fun Y hY hm => ?_⟩
    · unfold fHalv
      rw [if_neg hq, e1, e2, pk_sub h3, nI_1, pk_andN (by omega) 1 (by decide), ma_shr1 hk]
      exact ma_bandb (by omega) (by omega) (by omega) (by omega) (by omega) (by omega) (by omega)
    · rw [if_neg (by rw [e1]; exact nI_nle (by omega) (by omega)), ma_band (by omega) (by omega) (by omega) (by omega) (by omega) k3 k4, pk_andN (by omega) 1 (by decide), ma_shr1 hk]
      exact ma_bandb (by omega) (by omega) (by omega) (by omega) (by omega) (by omega) (by omega)
    · have h1 := hm hr
      rw [pk_andN (by omega) 1 (by decide), nI_eq (by omega) (by omega)] at h1
      rw [if_neg hr]
      exact hx9 hX (by rw [h1])
    · have h1 := hm hr
      rw [ma_shr1 hk, nI_eq (by omega) (by omega)] at h1
      rw [if_neg hr]
      exact hx9 hY h1
theorem M_band (hRel : Rel pk x g pp gg) (hN : fIn nc cx = 1) (hJ : cx = nI J) (hJ16 : J < 16) (ok : okC dx dy lv bw bh pf qf) (rc : RC J f1 f2 f3 f4 f5 f6 f7 dx dy lv bw bh pf qf) (t q bn w : Int32) :
    xBand g lv t q bn w = mxBand pk gg f3 nc t cx q bn w ∧ (xBand g lv t q bn w = 0 → vBand (bDiv (bTake x g t) dx dy) lv bw bh pf qf q bn w = mvBand (mBE pp gg f1 f2 f3 t cx q bn) f4 f5 f6 f7 cx q w) := by
  have ec : cx.toNatClampNeg = J := by rw [hJ]; exact nI_clamp (by omega)
  refine ⟨?_, fun h0 => ?_⟩
  · unfold mxBand xBand
    rw [mw_if, if_neg (pq_1n0 hN), R_okT hRel, ec, rc.2.2.1, mInL_eq, mIsB_eq]
  · unfold xBand at h0
    obtain ⟨g1, h0⟩ := i10 h0
    obtain ⟨g2, h0⟩ := i10 h0
    obtain ⟨g3, h0⟩ := i10 h0
    obtain ⟨g4, h0⟩ := i10 h0
    have ht := n01 (fGHas_01 _ _) g2
    obtain ⟨rfl, rfl, rfl, hR⟩ := R_pic hRel ht
    obtain ⟨r, V, a, b, c, d, w9, h, hcx⟩ := c_cx hR ht (n01 (fWithin_01 _ _ _) g3) hJ hJ16 ok rc
    obtain ⟨a', b', c', d', l1, l2, l3, l4, q1, q2, -, -⟩ := c_band hcx (n01 (fWithin_01 _ _ _) g4)
    obtain ⟨e1, e2, h3, h4, ha, hb, hc, hd, e5, e6, e7, e8, e9, e10, e11, e12, hw, hh, h13⟩ := hcx
    unfold vBand mvBand
    rw [e5, q1, q2, c_bw (f4 := f4) (f6 := f6) (cx := cx) (by rw [ec]; exact rc.2.2.2.1) (e11.trans e9.symm), c_bw (f4 := f5) (f6 := f7) (cx := cx) (by rw [ec]; exact rc.2.2.2.2.1) (e12.trans e10.symm)]
    exact c_w45 (n01 (fWithin_01 _ _ _) g1)
/-- the precincts that there are -/
theorem c_has (ha : a ≤ 32767) (hb : b ≤ 32767) (hc : c ≤ 32767) (hd : d ≤ 32767) (hw : w ≤ 15) (hh : h ≤ 15) (e6 : f6 ((33 * cx) + q).toNatClampNeg = nI w) (e7 : f7 ((33 * cx) + q).toNatClampNeg = nI h) (pn : Int32) : fGHas (gPow (bq a b c d) (nI w) (nI h)) pn = 0 ↔ mPlace (bq a b c d) f6 f7 cx q pn < 0 := by
  have em : (-1 : Int32) < 0 := by decide
  by_cases he : fEmpty (bq a b c d) = 0
  · have h12 := (mg_empty (by omega) (by omega) (by omega) (by omega)).mp he
    have l1 : cn a c w ≤ 32767 := Nat.le_trans (cn_le h12.1) hc
    have l2 : cn b d h ≤ 32767 := Nat.le_trans (cn_le h12.2) hd
    have hPb : cn a c w * cn b d h < 2 ^ 31 := by
      have : cn a c w * cn b d h ≤ 32767 * 32767 := Nat.mul_le_mul l1 l2
      omega
    by_cases hp : pn < 0
    · unfold fGHas mPlace
      rw [if_pos hp, if_pos hp]
      exact ⟨fun _ => em, fun _ => rfl⟩
    · obtain ⟨P, hP, rfl⟩ := nI_of hp
      by_cases hlt : P < cn a c w * cn b d h
      · obtain ⟨k1, k2, k3⟩ := mg_pl hc hd hw hh h12.1 h12.2 e6 e7 hlt
        have k4 := Nat.div_le_self (c - 1) (2 ^ w)
        have k5 := Nat.div_le_self (d - 1) (2 ^ h)
        rw [k3, mg_pow (by omega) (by omega) hw hh h12.1 h12.2, mb_ghas1 hPb hlt]
        refine ⟨fun z => absurd z (by decide), fun z => absurd z (nI_pos ?_)⟩
        generalize a / 2 ^ w + P % cn a c w = u1 at *
        generalize b / 2 ^ h + P / cn a c w = u2 at *
        generalize (c - 1) / 2 ^ w = u3 at *
        generalize (d - 1) / 2 ^ h = u4 at *
        omega
      · have n1 : 0 < cn a c w := by unfold cn; omega
        have hq : ¬ P / cn a c w < cn b d h := fun z => hlt ((Nat.div_lt_iff_lt_mul n1).mp z |> (fun y => by rw [Nat.mul_comm]; exact y))
        have f0 : fGHas (gPow (bq a b c d) (nI w) (nI h)) (nI P) = 0 := by
          rw [mg_pow (by omega) (by omega) hw hh h12.1 h12.2]
          refine (fGHas_01 _ _).resolve_right (fun z => ?_)
          obtain ⟨K, hK, eK⟩ := mb_ghas hPb z
          rw [nI_eq hP (by omega)] at eK
          omega
        rw [f0]
        refine ⟨fun _ => ?_, fun _ => rfl⟩
        unfold mPlace
        rw [mg_col (by omega) (by omega) hw h12.1 h12.2 e6, mg_row (by omega) (by omega) hh h12.1 h12.2 e7, if_neg hp, if_neg (nI_ne0 n1 (by omega)), pk_div hP n1 (by omega), if_neg (fun z => hq ((nI_ltI (Nat.lt_of_le_of_lt (Nat.div_le_self _ _) hP) (by omega)).mp z))]
        exact em
  · rw [mg_ghas0 (mg_pow45 he).1]
    refine ⟨fun _ => ?_, fun _ => rfl⟩
    unfold mPlace
    rw [(mg_col0 (f6 := f6) (f7 := f7) (cx := cx) (q := q) he).1]
    by_cases hp : pn < 0
    · rw [if_pos hp]; exact em
    · rw [if_neg hp, if_pos rfl]; exact em
/-- a precinct that there is: its box is not empty, its number and its cell -/
theorem c_is (ha : a ≤ 32767) (hb : b ≤ 32767) (hc : c ≤ 32767) (hd : d ≤ 32767) (hw : w ≤ 15) (hh : h ≤ 15) {pn : Int32} (hp : fGHas (gPow (bq a b c d) (nI w) (nI h)) pn = 1) : a < c ∧ b < d ∧ ∃ P : Nat, P < cn a c w * cn b d h ∧ pn = nI P := by
  by_cases he : fEmpty (bq a b c d) = 0
  · have h12 := (mg_empty (by omega) (by omega) (by omega) (by omega)).mp he
    have l1 : cn a c w ≤ 32767 := Nat.le_trans (cn_le h12.1) hc
    have l2 : cn b d h ≤ 32767 := Nat.le_trans (cn_le h12.2) hd
    have hPb : cn a c w * cn b d h < 2 ^ 31 := by
      have : cn a c w * cn b d h ≤ 32767 * 32767 := Nat.mul_le_mul l1 l2
      omega
    rw [mg_pow (by omega) (by omega) hw hh h12.1 h12.2] at hp
    exact ⟨h12.1, h12.2, mb_ghas hPb hp⟩
  · rw [mg_ghas0 (mg_pow45 he).1] at hp
    exact absurd hp (by decide)
end Ctx5
end PqMath5
