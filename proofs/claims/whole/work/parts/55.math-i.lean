section PqMath9
variable {pk nc n t cx q bn pn kb : Int32} {x g pp gg f1 f2 f3 f4 f5 f6 f7 pf qf : Nat → Int32} {dx dy lv bw bh : Int32} {J : Nat} {r V a b c d w h : Nat}
theorem d_or (x y : Int32) : ((x ||| y) &&& 1) = 0 ↔ (x &&& 1) = 0 ∧ (y &&& 1) = 0 := by
  rw [pk_and (x ||| y) 1 (by decide), pk_and x 1 (by decide), pk_and y 1 (by decide), ← nI_0, Int32.toBitVec_or, BitVec.toNat_or, Nat.or_mod_two_pow]
  have h1 : x.toBitVec.toNat % 2 ^ 1 < 2 := Nat.mod_lt _ (by decide)
  have h2 : y.toBitVec.toNat % 2 ^ 1 < 2 := Nat.mod_lt _ (by decide)
  generalize x.toBitVec.toNat % 2 ^ 1 = A at *
  generalize y.toBitVec.toNat % 2 ^ 1 = B at *
  rcases (show A = 0 ∨ A = 1 by omega) with h | h <;> rcases (show B = 0 ∨ B = 1 by omega) with h' | h' <;> subst h <;> subst h' <;> decide
theorem d_down : ∀ (j : Nat) (x y : Int32), fDown j x y = mDown j x y := by
  intro j
  induction j with
  | zero => intro x y; rfl
  | succ j ih =>
    intro x y
    rw [fDown, mDown, ih]
    by_cases h : ((x ||| y) &&& 1) = 0
    · obtain ⟨h1, h2⟩ := (d_or x y).mp h
      rw [if_pos h, if_pos h1, if_pos h2]
    · rw [if_neg h]
      by_cases h1 : (x &&& 1) = 0
      · rw [if_pos h1, if_neg (fun h2 => h ((d_or x y).mpr ⟨h1, h2⟩))]
      · rw [if_neg h1]
theorem d_and1 {X : Nat} (h : X < 2 ^ 31) : nI X &&& 1 = nI (X % 2) := pk_andN (by omega) 1 (by decide)
theorem d_inv : ∀ (j X Y : Nat), X < 2 ^ 31 → Y < 2 ^ 31 → j ≤ 32 → ∃ r X' Y' : Nat, fDown j (nI X) (nI Y) = (nI r, nI X', nI Y') ∧ r ≤ j ∧ X = X' * 2 ^ (j - r) ∧ Y = Y' * 2 ^ (j - r) ∧ (r ≠ 0 → X' % 2 = 1 ∨ Y' % 2 = 1) := by
  intro j
  induction j with
  | zero =>
    intro X Y hX hY _
    exact ⟨0, X, Y, by rw [fDown, nI_0], Nat.le_refl _, by simp, by simp, fun z => absurd rfl z⟩
  | succ j ih =>
    intro X Y hX hY hj
    rw [fDown]
    by_cases hc : ((nI X ||| nI Y) &&& 1) = 0
    · obtain ⟨h1, h2⟩ := (d_or _ _).mp hc
      rw [d_and1 hX, ← nI_0, nI_eq (by omega) (by decide)] at h1
      rw [d_and1 hY, ← nI_0, nI_eq (by omega) (by decide)] at h2
      rw [if_pos hc, ma_shr1 hX, ma_shr1 hY]
      obtain ⟨r, X', Y', e, hr, eX, eY, ho⟩ := ih (X / 2) (Y / 2) (by omega) (by omega) (by omega)
      have ep : 2 ^ (j + 1 - r) = 2 ^ (j - r) * 2 := by rw [← Nat.pow_succ]; congr 1; omega
      refine ⟨r, X', Y', e, by omega, ?_, ?_, ho⟩
      · rw [ep, ← Nat.mul_assoc, ← eX]
        omega
      · rw [ep, ← Nat.mul_assoc, ← eY]
        omega
    · rw [if_neg hc]
      refine ⟨j + 1, X, Y, rfl, Nat.le_refl _, by simp, by simp, fun _ => ?_⟩
      rcases (show X % 2 = 1 ∨ Y % 2 = 1 ∨ (X % 2 = 0 ∧ Y % 2 = 0) by omega) with z | z | z
      · exact Or.inl z
      · exact Or.inr z
      · exact absurd ((d_or _ _).mpr ⟨by rw [d_and1 hX, z.1, nI_0], by rw [d_and1 hY, z.2, nI_0]⟩) hc
theorem d_lt (u v : Int32) : lg_cmp u.toInt64 v.toInt64 < 0 ↔ u < v := by
  rw [lg_cmp_lt, Int64.lt_iff_toInt_lt, Int32.toInt_toInt64, Int32.toInt_toInt64, mb_lt]
theorem d_ge (u v : Int32) : 0 ≤ lg_cmp u.toInt64 v.toInt64 ↔ v ≤ u := by
  rw [lg_cmp_ge, Int64.le_iff_toInt_le, Int32.toInt_toInt64, Int32.toInt_toInt64, mb_le]
theorem d_has (y : Nat → Int32) (px py : Int32) : (if fHas y px.toInt64 py.toInt64 = 0 then (1 : Int32) else 0) = if px < y 0 then 1 else if y 2 ≤ px then 1 else if py < y 1 then 1 else if y 3 ≤ py then 1 else 0 := by
  unfold fHas
  by_cases h1 : px < y 0
  · rw [if_pos ((d_lt _ _).mpr h1), if_pos rfl, if_pos h1]
  rw [if_neg (fun z => h1 ((d_lt _ _).mp z)), if_neg h1]
  by_cases h2 : y 2 ≤ px
  · rw [if_pos ((d_ge _ _).mpr h2), if_pos rfl, if_pos h2]
  rw [if_neg (fun z => h2 ((d_ge _ _).mp z)), if_neg h2]
  by_cases h3 : py < y 1
  · rw [if_pos ((d_lt _ _).mpr h3), if_pos rfl, if_pos h3]
  rw [if_neg (fun z => h3 ((d_lt _ _).mp z)), if_neg h3]
  by_cases h4 : y 3 ≤ py
  · rw [if_pos ((d_ge _ _).mpr h4), if_pos rfl, if_pos h4]
  · rw [if_neg (fun z => h4 ((d_ge _ _).mp z)), if_neg h4, if_neg m01]
theorem d_num {A B E F n m X Y : Nat} (hE : 1 ≤ E) (hF : 1 ≤ F) (hE2 : E < 2 ^ 31) (hF2 : F < 2 ^ 31) (h1 : A * E ≤ X) (h2 : B * F ≤ Y) (hX : X < 2 ^ 31) (hY : Y < 2 ^ 31) : fNum (gq (A * E) (B * F) E F n m) (nI X) (nI Y) = nI ((Y / F - B) * n + (X / E - A)) := by
  unfold fNum gq
  show (if nI E < 1 then (0 : Int32) else if 1 ≤ nI F then (((nI Y - nI (B * F)) / nI F) * nI n) + ((nI X - nI (A * E)) / nI E) else 0) = _
  rw [if_neg (by rw [ma_1]; exact nI_nlt hE hE2), if_pos (by rw [ma_1]; exact nI_le hF hF2), pk_sub h2, pk_sub h1, pk_div (by omega) hF hF2, pk_div (by omega) hE hE2, pk_mul, nI_add]
  congr 1
  rw [Nat.mul_comm B F, Nat.mul_comm A E, Nat.sub_mul_div, Nat.sub_mul_div]
theorem d_mnum {z0 z1 hx hy n K M K' M' : Nat} (h0 : z0 < 2 ^ 31) (h1 : z1 < 2 ^ 31) (h2 : hx < 2 ^ 31) (h3 : hy < 2 ^ 31) (hK : K ≤ 15) (hM : M ≤ 15) (hK' : K' ≤ 15) (hM' : M' ≤ 15) (g0 : z0 / 2 ^ K' ≤ hx / 2 ^ K) (g1 : z1 / 2 ^ M' ≤ hy / 2 ^ M) : ((((nI hy >>> (nI M &&& 31)) - (nI z1 >>> (nI M' &&& 31))) * nI n) + (nI hx >>> (nI K &&& 31))) - (nI z0 >>> (nI K' &&& 31)) = nI ((hy / 2 ^ M - z1 / 2 ^ M') * n + (hx / 2 ^ K - z0 / 2 ^ K')) := by
  rw [ma_shr h3 (by omega), ma_shr h1 (by omega), ma_shr h2 (by omega), ma_shr h0 (by omega), pk_sub g1, pk_mul, nI_add, pk_sub (by omega)]
  congr 1
  omega
/-- a sample's halves -/
def hv (r X : Nat) : Nat := if r = 0 then X else X / 2
theorem hv_le {r X : Nat} : hv r X ≤ X := by
  unfold hv
  split <;> omega
theorem d_hv {r X : Nat} (hr : r < 2 ^ 31) (hX : X < 2 ^ 31) : mHv (nI r) (nI X) = nI (hv r X) ∧ nI X >>> (fHalv (nI r) &&& 31) = nI (hv r X) := by
  unfold mHv fHalv hv
  by_cases h : r = 0
  · have z : nI r = 0 := by rw [h]; exact nI_0
    rw [if_pos z, if_pos z, if_pos h, sb_shr0]
    exact ⟨rfl, rfl⟩
  · have : ¬ nI r = 0 := nI_ne0 (by omega) hr
    rw [if_neg this, if_neg this, if_neg h, ma_shr1 hX]
    exact ⟨rfl, rfl⟩
/-- the exponent within the band -/
def eb (r w : Nat) : Nat := if r = 0 then w else w - 1
theorem d_eb {r w : Nat} (hr : r < 2 ^ 31) (h1 : r ≠ 0 → 1 ≤ w) (ew : f6 ((33 * cx) + nI r).toNatClampNeg = nI w) : mWd f6 cx (nI r) = nI (eb r w) := by
  unfold mWd mInB eb
  rw [ew]
  by_cases h : r = 0
  · have z : nI r = 0 := by rw [h]; exact nI_0
    rw [if_pos z, if_pos h]
  · have z : ¬ nI r = 0 := nI_ne0 (by omega) hr
    rw [if_neg z, if_neg h, ma_1, pk_sub (h1 h)]
theorem d_sh {r w X : Nat} (h1 : r ≠ 0 → 1 ≤ w) : hv r X / 2 ^ eb r w = X / 2 ^ w := by
  unfold hv eb
  by_cases h : r = 0
  · rw [if_pos h, if_pos h]
  · rw [if_neg h, if_neg h, Nat.div_div_eq_div_mul, Nat.mul_comm, ← Nat.pow_succ]
    congr 2
    have := h1 h
    omega
theorem d_pos {A B C D X Y w h : Nat} (h1 : A ≤ X) (h2 : X < C) (h3 : B ≤ Y) (h4 : Y < D) :
    ((Y / 2 ^ h - B / 2 ^ h) * cn A C w + (X / 2 ^ w - A / 2 ^ w)) % cn A C w = X / 2 ^ w - A / 2 ^ w ∧ ((Y / 2 ^ h - B / 2 ^ h) * cn A C w + (X / 2 ^ w - A / 2 ^ w)) / cn A C w = Y / 2 ^ h - B / 2 ^ h ∧ (Y / 2 ^ h - B / 2 ^ h) * cn A C w + (X / 2 ^ w - A / 2 ^ w) < cn A C w * cn B D h := by
  have k1 : X / 2 ^ w ≤ (C - 1) / 2 ^ w := Nat.div_le_div_right (by omega)
  have k2 : Y / 2 ^ h ≤ (D - 1) / 2 ^ h := Nat.div_le_div_right (by omega)
  have u1 : X / 2 ^ w - A / 2 ^ w < cn A C w := by unfold cn; omega
  have u2 : Y / 2 ^ h - B / 2 ^ h < cn B D h := by unfold cn; omega
  generalize X / 2 ^ w - A / 2 ^ w = u at *
  generalize Y / 2 ^ h - B / 2 ^ h = v at *
  generalize cn A C w = n at *
  generalize cn B D h = m at *
  refine ⟨?_, ?_, ?_⟩
  · rw [Nat.add_comm, Nat.add_mul_mod_self_right, Nat.mod_eq_of_lt u1]
  · rw [Nat.add_comm, Nat.add_mul_div_right _ _ (by omega), Nat.div_eq_of_lt u1, Nat.zero_add]
  · have : (v + 1) * n ≤ m * n := Nat.mul_le_mul_right _ u2
    rw [Nat.add_mul, Nat.one_mul] at this
    rw [Nat.mul_comm n m]
    omega
/-- the grid of a share's blocks, with a share of nothing too -/
theorem d_gs {s0 s1 s2 s3 K M : Nat} (l0 : s0 ≤ 32767) (l1 : s1 ≤ 32767) (l2 : s2 ≤ 32767) (l3 : s3 ≤ 32767) (hs : (s0 < s2 ∧ s1 < s3) ∨ (s0 = 0 ∧ s1 = 0 ∧ s2 = 0 ∧ s3 = 0)) (hK : K ≤ 15) (hM : M ≤ 15) : ∃ n m : Nat, gPow (bq s0 s1 s2 s3) (nI K) (nI M) = gq (s0 / 2 ^ K * 2 ^ K) (s1 / 2 ^ M * 2 ^ M) (2 ^ K) (2 ^ M) n m ∧ mSq (nI s0) (nI s2) (nI K) = nI n := by
  rcases hs with hs | ⟨rfl, rfl, rfl, rfl⟩
  · exact ⟨_, _, mg_pow (by omega) (by omega) hK hM hs.1 hs.2, mg_sq hs.1 (by omega) hK⟩
  · refine ⟨0, 0, ?_, by rw [mg_sq0 (by omega) (by omega), nI_0]⟩
    have he : ¬ fEmpty (bq 0 0 0 0) = 0 := by decide
    unfold gPow gLay fLay gq
    rw [if_neg he, if_neg he]
    show fSix ((nI 0 >>> (nI K &&& 31)) <<< (nI K &&& 31)) ((nI 0 >>> (nI M &&& 31)) <<< (nI M &&& 31)) (1 <<< (nI K &&& 31)) (1 <<< (nI M &&& 31)) 0 0 = _
    rw [mg_shx (by omega) hK, mg_shx (by omega) hM, ma_one (by omega), ma_one (by omega), nI_0]
theorem d_hfle {n E X : Nat} (h : E ≤ X * 2 ^ n) : hf n E ≤ X := by
  unfold hf
  have h0 : 0 < 2 ^ n := Nat.two_pow_pos n
  rw [← Nat.lt_succ_iff, Nat.div_lt_iff_lt_mul h0, Nat.succ_mul]
  omega
theorem d_hflt {n E X : Nat} (h : X * 2 ^ n < E) : X < hf n E := by
  unfold hf
  have h0 : 0 < 2 ^ n := Nat.two_pow_pos n
  rw [Nat.lt_iff_add_one_le, Nat.le_div_iff_mul_le h0, Nat.add_mul, Nat.one_mul]
  omega
theorem d_bn1 (X Y : Nat) : nI (X % 2 + 2 * (Y % 2)) &&& 1 = nI (X % 2) := by
  have e : (X % 2 + 2 * (Y % 2)) % 2 = X % 2 := by omega
  rw [d_and1 (by omega), e]
theorem d_bn2 (X Y : Nat) : nI (X % 2 + 2 * (Y % 2)) >>> ((1 : Int32) &&& 31) = nI (Y % 2) := by
  have e : (X % 2 + 2 * (Y % 2)) / 2 = Y % 2 := by omega
  rw [ma_shr1 (by omega), e]
set_option maxHeartbeats 800000 in
theorem M_coef (hRel : Rel pk x g pp gg) (hN : fIn nc cx = 1) (hJ : cx = nI J) (hJ16 : J < 16) (ok : okC dx dy lv bw bh pf qf) (rc : RC J f1 f2 f3 f4 f5 f6 f7 dx dy lv bw bh pf qf) (t px py w : Int32) :
    xCoef g (bDiv (bTake x g t) dx dy) t px py w = mxCoef pk pp gg f1 f2 nc t cx px py w ∧ (xCoef g (bDiv (bTake x g t) dx dy) t px py w = 0 → fOfCo (bDiv (bTake x g t) dx dy) lv bw bh pf qf (fDown lv.toNatClampNeg px py).1 (fDown lv.toNatClampNeg px py).2.1 (fDown lv.toNatClampNeg px py).2.2 w = mOfCo pp gg f1 f2 f3 f4 f5 f6 f7 t cx (mDown (f3 cx.toNatClampNeg).toNatClampNeg px py).1 (mDown (f3 cx.toNatClampNeg).toNatClampNeg px py).2.1 (mDown (f3 cx.toNatClampNeg).toNatClampNeg px py).2.2 w) := by
  have ec : cx.toNatClampNeg = J := by rw [hJ]; exact nI_clamp (by omega)
  have hx : xCoef g (bDiv (bTake x g t) dx dy) t px py w = if fWithin w 0 5 = 0 then 1 else if fGHas g t = 0 then 1 else if px < (bDiv (bTake x g t) dx dy) 0 then 1 else if (bDiv (bTake x g t) dx dy) 2 ≤ px then 1 else if py < (bDiv (bTake x g t) dx dy) 1 then 1 else if (bDiv (bTake x g t) dx dy) 3 ≤ py then 1 else 0 := by
    unfold xCoef
    rw [d_has]
  have hm : mxCoef pk pp gg f1 f2 nc t cx px py w = if fWithin w 0 5 = 0 then 1 else if fGHas g t = 0 then 1 else if px < (mPt pp gg f1 f2 t cx) 0 then 1 else if (mPt pp gg f1 f2 t cx) 2 ≤ px then 1 else if py < (mPt pp gg f1 f2 t cx) 1 then 1 else if (mPt pp gg f1 f2 t cx) 3 ≤ py then 1 else 0 := by
    unfold mxCoef
    rw [mw_if, if_neg (pq_1n0 hN), R_okT hRel]
  rw [hx, hm]
  by_cases g1 : fWithin w 0 5 = 0
  · rw [if_pos g1, if_pos g1]
    exact ⟨rfl, fun z => absurd z (by decide)⟩
  rw [if_neg g1, if_neg g1]
  by_cases g2 : fGHas g t = 0
  · rw [if_pos g2, if_pos g2]
    exact ⟨rfl, fun z => absurd z (by decide)⟩
  rw [if_neg g2, if_neg g2]
  have ht := n01 (fGHas_01 _ _) g2
  obtain ⟨rfl, rfl, rfl, hR⟩ := R_pic hRel ht
  have hpt := c_pt (t := t) hR hJ hJ16 ok rc
  rw [hpt]
  refine ⟨rfl, fun h0 => ?_⟩
  obtain ⟨V, hV, eV⟩ := ok.2.2.1
  have hq0 : fWithin (nI 0) 0 lv = 1 := by
    rw [eV]
    exact fWithin_iff.mpr ⟨by rw [nI_0]; decide, nI_nlt (by omega) (by omega)⟩
  obtain ⟨r0, V0, a, b, c, d, w0, h00, -, -, -, -, ha, hb, hc, hd, e5, -⟩ := c_cx hR ht hq0 hJ hJ16 ok rc
  rw [e5] at h0
  obtain ⟨p1, h0⟩ := i10 h0
  obtain ⟨p2, h0⟩ := i10 h0
  obtain ⟨p3, h0⟩ := i10 h0
  obtain ⟨p4, -⟩ := i10 h0
  have p1 : ¬ px < nI a := p1
  have p2 : ¬ nI c ≤ px := p2
  have p3 : ¬ py < nI b := p3
  have p4 : ¬ nI d ≤ py := p4
  have np : ∀ {u : Int32} {k : Nat}, k ≤ 32767 → ¬ u < nI k → ¬ u < 0 := by
    intro u k hk h1 h2
    apply h1
    rw [mb_lt] at h2 ⊢
    rw [nI_toInt (by omega)]
    have e0 : (0 : Int32).toInt = 0 := by decide
    omega
  obtain ⟨PX, hPX, rfl⟩ := nI_of (np ha p1)
  obtain ⟨PY, hPY, rfl⟩ := nI_of (np hb p3)
  rw [nI_ltI hPX (by omega)] at p1
  rw [nI_leI (by omega) hPX] at p2
  rw [nI_ltI hPY (by omega)] at p3
  rw [nI_leI (by omega) hPY] at p4
  obtain ⟨r, X, Y, eD, hr, eX, eY, ho⟩ := d_inv V PX PY hPX hPY hV
  have eL : lv.toNatClampNeg = V := by rw [eV]; exact nI_clamp (by omega)
  rw [ec, rc.2.2.1, ← d_down, eL, eD]
  show fOfCo (bDiv (bTake pp gg t) dx dy) lv bw bh pf qf (nI r) (nI X) (nI Y) w = mOfCo pp gg f1 f2 f3 f4 f5 f6 f7 t cx (nI r) (nI X) (nI Y) w
  have hq : fWithin (nI r) 0 lv = 1 := by
    rw [eV]
    exact fWithin_iff.mpr ⟨nI_pos (by omega), nI_nlt (by omega) (by omega)⟩
  obtain ⟨r', V', a', b', c', d', w9, h9, hcx⟩ := c_cx hR ht hq hJ hJ16 ok rc
  have hcx1 := hcx
  obtain ⟨e1, e2, h3, h4, ha', hb', hc', hd', e5', e6, e7, e8, e9, e10, e11, e12, hw, hh, h13⟩ := hcx
  have er : r' = r := ((nI_eq (by omega) (by omega)).mp e1).symm
  have eV2 : V' = V := ((nI_eq (by omega) (by omega)).mp (eV.symm.trans e2)).symm
  subst er eV2
  have ebox : bq a b c d = bq a' b' c' d' := e5.symm.trans e5'
  have ea : a = a' := (nI_eq (by omega) (by omega)).mp (congrFun ebox 0)
  have eb' : b = b' := (nI_eq (by omega) (by omega)).mp (congrFun ebox 1)
  have ec' : c = c' := (nI_eq (by omega) (by omega)).mp (congrFun ebox 2)
  have ed' : d = d' := (nI_eq (by omega) (by omega)).mp (congrFun ebox 3)
  subst ea eb' ec' ed'
  have i1 : hf (V' - r') a ≤ X := d_hfle (by omega)
  have i2 : X < hf (V' - r') c := d_hflt (by omega)
  have i3 : hf (V' - r') b ≤ Y := d_hfle (by omega)
  have i4 : Y < hf (V' - r') d := d_hflt (by omega)
  have c1 := c_hf (n := V' - r') ha
  have c2 := c_hf (n := V' - r') hb
  have c3 := c_hf (n := V' - r') hc
  have c4 := c_hf (n := V' - r') hd
  have hX : X < 2 ^ 31 := by omega
  have hY : Y < 2 ^ 31 := by omega
  have hr31 : r' < 2 ^ 31 := by omega
  obtain ⟨x1, x2⟩ := d_hv hr31 hX
  obtain ⟨y1, y2⟩ := d_hv hr31 hY
  obtain ⟨w1, w2⟩ := fWithin_iff.mp (n01 (fWithin_01 _ _ _) g1)
  -- the precinct
  have P5 : fNum (gPow (bq (hf (V' - r') a) (hf (V' - r') b) (hf (V' - r') c) (hf (V' - r') d)) (nI w9) (nI h9)) (nI X) (nI Y) = nI ((Y / 2 ^ h9 - hf (V' - r') b / 2 ^ h9) * cn (hf (V' - r') a) (hf (V' - r') c) w9 + (X / 2 ^ w9 - hf (V' - r') a / 2 ^ w9)) := by
    have pw : 2 ^ w9 ≤ 2 ^ 15 := ma_p2 hw
    have ph : 2 ^ h9 ≤ 2 ^ 15 := ma_p2 hh
    rw [mg_pow (by omega) (by omega) hw hh (by omega) (by omega)]
    have q1 := Nat.div_mul_le_self (hf (V' - r') a) (2 ^ w9)
    have q2 := Nat.div_mul_le_self (hf (V' - r') b) (2 ^ h9)
    exact d_num (Nat.two_pow_pos _) (Nat.two_pow_pos _) (by omega) (by omega) (by omega) (by omega) hX hY
  have P6 : mPn (mLE pp gg f1 f2 f3 t cx (nI r')) f6 f7 cx (nI r') (nI (hv r' X)) (nI (hv r' Y)) = nI ((Y / 2 ^ h9 - hf (V' - r') b / 2 ^ h9) * cn (hf (V' - r') a) (hf (V' - r') c) w9 + (X / 2 ^ w9 - hf (V' - r') a / 2 ^ w9)) := by
    unfold mPn
    rw [e8, mg_col (by omega) (by omega) hw (by omega) (by omega) e11, e11, e12, d_eb hr31 (fun z => (h13 z).1) e11, d_eb hr31 (fun z => (h13 z).2) e12]
    have s1 := d_sh (X := X) (fun z => (h13 z).1)
    have s2 := d_sh (X := Y) (fun z => (h13 z).2)
    have l1 : hv r' X ≤ X := hv_le
    have l2 : hv r' Y ≤ Y := hv_le
    have b1 : eb r' w9 ≤ 15 := by unfold eb; split <;> omega
    have b2 : eb r' h9 ≤ 15 := by unfold eb; split <;> omega
    have := d_mnum (n := cn (hf (V' - r') a) (hf (V' - r') c) w9) (z0 := hf (V' - r') a) (z1 := hf (V' - r') b) (hx := hv r' X) (hy := hv r' Y) (K := eb r' w9) (M := eb r' h9) (K' := w9) (M' := h9) (by omega) (by omega) (by omega) (by omega) b1 b2 hw hh (by rw [s1]; exact Nat.div_le_div_right i1) (by rw [s2]; exact Nat.div_le_div_right i3)
    rw [s1, s2] at this
    exact this
  obtain ⟨k1, k2, k3⟩ := d_pos (A := hf (V' - r') a) (B := hf (V' - r') b) (w := w9) (h := h9) i1 i2 i3 i4
  generalize hP : (Y / 2 ^ h9 - hf (V' - r') b / 2 ^ h9) * cn (hf (V' - r') a) (hf (V' - r') c) w9 + (X / 2 ^ w9 - hf (V' - r') a / 2 ^ w9) = P at *
  have hB : fBandOf (nI r') (nI X) (nI Y) = if r' = 0 then 0 else nI (X % 2 + 2 * (Y % 2)) := by
    unfold fBandOf
    by_cases h : r' = 0
    · have z : nI r' = 0 := by rw [h]; exact nI_0
      rw [if_pos z, if_pos h]
    · have e2' : (2 : Int32) = nI 2 := by decide
      rw [if_neg (nI_ne0 (by omega) hr31), if_neg h, d_and1 hX, d_and1 hY, e2', pk_mul, nI_add]
  have hbn : fWithin (fBandOf (nI r') (nI X) (nI Y)) (fHalv (nI r')) (fLast (nI r')) = 1 := by
    rw [hB]
    unfold fHalv fLast
    by_cases h : r' = 0
    · have z : nI r' = 0 := by rw [h]; exact nI_0
      rw [if_pos z, if_pos z, if_pos h]
      decide
    · have e3' : (3 : Int32) = nI 3 := by decide
      have := ho h
      rw [if_neg (nI_ne0 (by omega) hr31), if_neg (nI_ne0 (by omega) hr31), if_neg h, ma_1, e3']
      exact fWithin_iff.mpr ⟨nI_nlt (by omega) (by omega), nI_nlt (by omega) (by omega)⟩
  have hgh : fGHas (gPow (bq (hf (V' - r') a) (hf (V' - r') b) (hf (V' - r') c) (hf (V' - r') d)) (nI w9) (nI h9)) (nI P) = 1 := by
    have l1 : cn (hf (V' - r') a) (hf (V' - r') c) w9 ≤ 32767 := Nat.le_trans (cn_le (by omega)) c3
    have l2 : cn (hf (V' - r') b) (hf (V' - r') d) h9 ≤ 32767 := Nat.le_trans (cn_le (by omega)) c4
    have hPb : cn (hf (V' - r') a) (hf (V' - r') c) w9 * cn (hf (V' - r') b) (hf (V' - r') d) h9 < 2 ^ 31 := by
      have : cn (hf (V' - r') a) (hf (V' - r') c) w9 * cn (hf (V' - r') b) (hf (V' - r') d) h9 ≤ 32767 * 32767 := Nat.mul_le_mul l1 l2
      omega
    rw [mg_pow (by omega) (by omega) hw hh (by omega) (by omega)]
    exact mb_ghas1 hPb k3
  have hP31 : P < 2 ^ 31 := by
    have l1 : cn (hf (V' - r') a) (hf (V' - r') c) w9 ≤ 32767 := Nat.le_trans (cn_le (by omega)) c3
    have l2 : cn (hf (V' - r') b) (hf (V' - r') d) h9 ≤ 32767 := Nat.le_trans (cn_le (by omega)) c4
    have : cn (hf (V' - r') a) (hf (V' - r') c) w9 * cn (hf (V' - r') b) (hf (V' - r') d) h9 ≤ 32767 * 32767 := Nat.mul_le_mul l1 l2
    omega
  have hpl := c_has c1 c2 c3 c4 hw hh e11 e12 (nI P)
  unfold fOfCo mOfCo gPrec
  rw [e5, e7, e9, e10, x1, x2, y1, y2, P5, P6]
  by_cases v4 : 4 ≤ w
  · have n0 : ¬ w = 0 := fun z => absurd (z ▸ v4) (by decide)
    have n1 : ¬ w = 1 := fun z => absurd (z ▸ v4) (by decide)
    have n2 : ¬ w = 2 := fun z => absurd (z ▸ v4) (by decide)
    have n3 : ¬ w = 3 := fun z => absurd (z ▸ v4) (by decide)
    rw [if_neg n0, if_neg n1, if_neg n2, if_neg n3, if_pos v4]
    by_cases v5 : w = 4
    · rw [if_pos v5, if_pos v5]
    rw [if_neg v5, if_neg v5, mIsB_eq, hbn, if_neg m01, e8, if_neg (fun z => absurd (hgh.symm.trans (hpl.mpr z)) (by decide))]
    obtain ⟨s0, s1, s2, s3, l0, l1, l2, l3, hs, z1, z2, z3⟩ := c_share hcx1 hbn hgh
    have m1 : hf (V' - r') a / 2 ^ w9 ≤ X / 2 ^ w9 := Nat.div_le_div_right i1
    have m2 : hf (V' - r') b / 2 ^ h9 ≤ Y / 2 ^ h9 := Nat.div_le_div_right i3
    obtain ⟨t1, t2⟩ := z3 X Y P hP31 rfl i1 i3 (fun h => by rw [hB, if_neg h, d_bn1]) (fun h => by rw [hB, if_neg h, d_bn2]) (by rw [k1]; exact Nat.add_sub_cancel' m1) (by rw [k2]; exact Nat.add_sub_cancel' m2)
    have t1 : s0 ≤ hv r' X := t1
    have t2 : s1 ≤ hv r' Y := t2
    obtain ⟨K, M, hK, hM, eK, eM, mK, mM⟩ := c_bws ok rc ec hcx1
    obtain ⟨n9, m9, g9, q9⟩ := d_gs l0 l1 l2 l3 hs hK hM
    rw [z1, z2]
    unfold gBlk mNum
    rw [eK, eM, mK, mM, g9]
    show _ = ((((nI (hv r' Y) >>> (nI M &&& 31)) - (nI s1 >>> (nI M &&& 31))) * mSq (nI s0) (nI s2) (nI K)) + (nI (hv r' X) >>> (nI K &&& 31))) - (nI s0 >>> (nI K &&& 31))
    have lx : hv r' X ≤ X := hv_le
    have ly : hv r' Y ≤ Y := hv_le
    have pw : 2 ^ K ≤ 2 ^ 15 := ma_p2 hK
    have ph : 2 ^ M ≤ 2 ^ 15 := ma_p2 hM
    have u1 := Nat.div_mul_le_self s0 (2 ^ K)
    have u2 := Nat.div_mul_le_self s1 (2 ^ M)
    rw [q9, d_mnum (by omega) (by omega) (by omega) (by omega) hK hM hK hM (Nat.div_le_div_right t1) (Nat.div_le_div_right t2), d_num (Nat.two_pow_pos _) (Nat.two_pow_pos _) (by omega) (by omega) (by omega) (by omega) (by omega) (by omega)]
  · rw [if_neg v4]
    by_cases n0 : w = 0
    · rw [if_pos n0, if_pos n0]
    rw [if_neg n0, if_neg n0]
    by_cases n1 : w = 1
    · rw [if_pos n1, if_pos n1]
    rw [if_neg n1, if_neg n1]
    by_cases n2 : w = 2
    · rw [if_pos n2, if_pos n2]
    rw [if_neg n2, if_neg n2, if_pos]
    apply Int32.toInt_inj.mp
    have q0 : w.toInt ≠ 0 := fun z => n0 (Int32.toInt_inj.mp z)
    have q1 : w.toInt ≠ 1 := fun z => n1 (Int32.toInt_inj.mp z)
    have q2 : w.toInt ≠ 2 := fun z => n2 (Int32.toInt_inj.mp z)
    rw [mb_lt] at w1
    rw [mb_le] at v4
    have e0 : (0 : Int32).toInt = 0 := by decide
    have e4 : (4 : Int32).toInt = 4 := by decide
    have e3 : (3 : Int32).toInt = 3 := by decide
    omega
end PqMath9
