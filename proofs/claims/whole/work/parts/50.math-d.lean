section PqMath4
def Rel (pk : Int32) (x g pp gg : Nat → Int32) : Prop := (pk = 0 ∧ x = fQuad 0 0 0 0 ∧ g 4 = 0) ∨ (pk = 1 ∧ pp = x ∧ gg = g ∧ RP x g)
def okC (dx dy lv bw bh : Int32) (pf qf : Nat → Int32) : Prop := (∃ D : Nat, 1 ≤ D ∧ D ≤ 255 ∧ dx = nI D) ∧ (∃ D : Nat, 1 ≤ D ∧ D ≤ 255 ∧ dy = nI D) ∧ (∃ V : Nat, V ≤ 32 ∧ lv = nI V) ∧ (∃ B : Nat, B ≤ 10 ∧ bw = nI B) ∧ (∃ B : Nat, B ≤ 10 ∧ bh = nI B) ∧ ∀ r : Nat, r ≤ 32 → (∃ w : Nat, w ≤ 15 ∧ (r ≠ 0 → 1 ≤ w) ∧ pf r = nI w) ∧ (∃ w : Nat, w ≤ 15 ∧ (r ≠ 0 → 1 ≤ w) ∧ qf r = nI w)
def RC (J : Nat) (f1 f2 f3 f4 f5 f6 f7 : Nat → Int32) (dx dy lv bw bh : Int32) (pf qf : Nat → Int32) : Prop := f1 J = dx ∧ f2 J = dy ∧ f3 J = lv ∧ f4 J = bw ∧ f5 J = bh ∧ ∀ r : Nat, r ≤ 32 → f6 (33 * J + r) = pf r ∧ f7 (33 * J + r) = qf r
theorem m01 : ¬ (1 : Int32) = 0 := by decide
theorem fWithin_iff {v lo hi : Int32} : fWithin v lo hi = 1 ↔ ¬ v < lo ∧ ¬ hi < v := by
  unfold fWithin
  by_cases h1 : v < lo
  · rw [if_pos h1]; exact ⟨fun h => absurd h (by decide), fun h => absurd h1 h.1⟩
  · rw [if_neg h1]
    by_cases h2 : hi < v
    · rw [if_pos h2]; exact ⟨fun h => absurd h (by decide), fun h => absurd h2 h.2⟩
    · rw [if_neg h2]; exact ⟨fun _ => ⟨h1, h2⟩, fun _ => rfl⟩
theorem mw_if {α : Type} {w hi : Int32} {A B : α} : (if w < 0 then A else if hi < w then A else B) = (if fWithin w 0 hi = 0 then A else B) := by
  unfold fWithin
  by_cases h1 : w < 0
  · rw [if_pos h1, if_pos h1, if_pos rfl]
  · rw [if_neg h1, if_neg h1]
    by_cases h2 : hi < w
    · rw [if_pos h2, if_pos h2, if_pos rfl]
    · rw [if_neg h2, if_neg h2, if_neg m01]
theorem mInL_eq (q lv : Int32) : mInL q lv = fWithin q 0 lv := by
  unfold mInL fWithin
  by_cases h1 : q < 0
  · rw [if_pos h1, if_pos h1]
  · rw [if_neg h1, if_neg h1]
    by_cases h2 : lv < q
    · rw [if_pos h2, if_neg (mb_nle.mpr h2)]
    · rw [if_neg h2, if_pos (mb_nlt.mp h2)]
theorem mIsB_eq (q bn : Int32) : mIsB q bn = fWithin bn (fHalv q) (fLast q) := by
  unfold mIsB fHalv fLast
  by_cases h : q = 0
  · rw [if_pos h, if_pos h, if_pos h]
    unfold fWithin
    by_cases h2 : bn = 0
    · rw [if_pos h2, h2]; decide
    · rw [if_neg h2]
      by_cases h3 : bn < 0
      · rw [if_pos h3]
      · rw [if_neg h3, if_pos]
        have : bn.toInt ≠ 0 := fun e => h2 (Int32.toInt_inj.mp e)
        rw [mb_lt] at h3 ⊢
        have e0 : (0 : Int32).toInt = 0 := by decide
        omega
  · rw [if_neg h, if_neg h, if_neg h]
    unfold fWithin
    rfl
theorem R_okT {pk : Int32} {x g pp gg : Nat → Int32} (h : Rel pk x g pp gg) (t : Int32) : mOkT pk gg t = fGHas g t := by
  rcases h with ⟨rfl, rfl, h4⟩ | ⟨rfl, rfl, rfl, hR⟩
  · rw [mg_ghas0 h4]
    rfl
  · unfold mOkT fGHas
    rw [if_neg m01]
    by_cases h1 : t < 0
    · rw [if_pos h1, if_pos h1]
    · rw [if_neg h1, if_neg h1]
      by_cases h2 : t < gg 4 * gg 5
      · rw [if_pos h2, if_neg (mb_nle.mpr h2)]
      · rw [if_neg h2, if_pos (mb_nlt.mp h2)]
theorem R_pic {pk : Int32} {x g pp gg : Nat → Int32} {t : Int32} (h : Rel pk x g pp gg) (ht : fGHas g t = 1) : pk = 1 ∧ pp = x ∧ gg = g ∧ RP x g := by
  rcases h with ⟨rfl, rfl, h4⟩ | h
  · rw [mg_ghas0 h4] at ht
    exact absurd ht (by decide)
  · exact h
theorem n01 {x : Int32} (h : x = 0 ∨ x = 1) (hn : ¬ x = 0) : x = 1 := h.resolve_left hn
theorem M_tile {pk : Int32} {x g pp gg : Nat → Int32} (h : Rel pk x g pp gg) (t w : Int32) : xTile g t w = mxTile pk gg t w ∧ (xTile g t w = 0 → fEdge (bTake x g t) w = fEdge (mTile pp gg t) w) := by
  have e : xTile g t w = mxTile pk gg t w := by
    unfold mxTile xTile
    rw [mw_if, R_okT h]
  refine ⟨e, fun h0 => ?_⟩
  have ht : fGHas g t = 1 := by
    refine n01 (fGHas_01 g t) (fun hz => ?_)
    unfold xTile at h0
    rw [if_pos hz] at h0
    split at h0 <;> exact absurd h0 (by decide)
  obtain ⟨rfl, rfl, rfl, hR⟩ := R_pic h ht
  rw [mb_tile (RP_g4 hR)]
section Ctx
variable {pk nc n t cx q : Int32} {x g pp gg f1 f2 f3 f4 f5 f6 f7 pf qf : Nat → Int32} {dx dy lv bw bh : Int32} {J : Nat}
theorem c_pt (hR : RP x g) (hJ : cx = nI J) (hJ16 : J < 16) (ok : okC dx dy lv bw bh pf qf) (rc : RC J f1 f2 f3 f4 f5 f6 f7 dx dy lv bw bh pf qf) : mPt x g f1 f2 t cx = bDiv (bTake x g t) dx dy := by
  obtain ⟨⟨D1, g1, g2, rfl⟩, ⟨D2, g3, g4, rfl⟩, -⟩ := ok
  have ec : cx.toNatClampNeg = J := by rw [hJ]; exact nI_clamp (by omega)
  unfold mPt
  rw [mb_tile (RP_g4 hR)]
  exact mb_part (by rw [ec]; exact rc.1) (by rw [ec]; exact rc.2.1) (by rw [ma_1]; exact nI_le g1 (by omega)) (by rw [ma_1]; exact nI_le g3 (by omega))
/-- what is known of a level that there is -/
def CX (x g f1 f2 f3 f6 f7 pf qf : Nat → Int32) (dx dy lv t cx q : Int32) (r V a b c d w h : Nat) : Prop := q = nI r ∧ lv = nI V ∧ r ≤ V ∧ V ≤ 32 ∧ a ≤ 32767 ∧ b ≤ 32767 ∧ c ≤ 32767 ∧ d ≤ 32767 ∧ bDiv (bTake x g t) dx dy = bq a b c d ∧ mPt x g f1 f2 t cx = bq a b c d ∧ bLev (bq a b c d) lv q = bq (hf (V - r) a) (hf (V - r) b) (hf (V - r) c) (hf (V - r) d) ∧ mLE x g f1 f2 f3 t cx q = bq (hf (V - r) a) (hf (V - r) b) (hf (V - r) c) (hf (V - r) d) ∧ pf q.toNatClampNeg = nI w ∧ qf q.toNatClampNeg = nI h ∧ f6 ((33 * cx) + q).toNatClampNeg = nI w ∧ f7 ((33 * cx) + q).toNatClampNeg = nI h ∧ w ≤ 15 ∧ h ≤ 15 ∧ (r ≠ 0 → 1 ≤ w ∧ 1 ≤ h)
theorem c_rq (hq : fWithin q 0 lv = 1) (ok : okC dx dy lv bw bh pf qf) : ∃ r V : Nat, q = nI r ∧ lv = nI V ∧ r ≤ V ∧ V ≤ 32 := by
  obtain ⟨-, -, ⟨V, hV, rfl⟩, -⟩ := ok
  obtain ⟨h1, h2⟩ := fWithin_iff.mp hq
  obtain ⟨r, hr, rfl⟩ := nI_of h1
  exact ⟨r, V, rfl, rfl, by rw [nI_ltI (by omega) hr] at h2; omega, hV⟩
theorem c_cx (hR : RP x g) (ht : fGHas g t = 1) (hq : fWithin q 0 lv = 1) (hJ : cx = nI J) (hJ16 : J < 16) (ok : okC dx dy lv bw bh pf qf) (rc : RC J f1 f2 f3 f4 f5 f6 f7 dx dy lv bw bh pf qf) : ∃ r V a b c d w h : Nat, CX x g f1 f2 f3 f6 f7 pf qf dx dy lv t cx q r V a b c d w h := by
  have hpt := c_pt (t := t) hR hJ hJ16 ok rc
  obtain ⟨r, V, hr, hlv, hrV, hV⟩ := c_rq hq ok
  obtain ⟨⟨D1, g1, g2, hdx⟩, ⟨D2, g3, g4, hdy⟩, -, -, -, hpf⟩ := ok
  obtain ⟨⟨w, hw, hw1, ew⟩, ⟨h, hh, hh1, eh⟩⟩ := hpf r (by omega)
  obtain ⟨a, b, c, d, ha, hb, hc, hd, e⟩ := RP_part hR ht g1 g3 g2 g4
  rw [← hdx, ← hdy] at e
  have ec : cx.toNatClampNeg = J := by rw [hJ]; exact nI_clamp (by omega)
  have eq1 : q.toNatClampNeg = r := by rw [hr]; exact nI_clamp (by omega)
  have eix : ((33 * cx) + q).toNatClampNeg = 33 * J + r := by rw [hJ, hr, mIx_nI]; exact nI_clamp (by omega)
  have en : lv - q = nI (V - r) := by rw [hlv, hr]; exact pk_sub hrV
  obtain ⟨-, -, r3, -, -, r6⟩ := rc
  obtain ⟨r6, r7⟩ := r6 r (by omega)
  refine ⟨r, V, a, b, c, d, w, h, hr, hlv, hrV, hV, ha, hb, hc, hd, e, hpt.trans e, ?_, ?_, ?_, ?_, ?_, ?_, hw, hh, fun z => ⟨hw1 z, hh1 z⟩⟩
  · unfold bLev
    rw [en]
    exact ma_bscal0 (by omega) (by omega) (by omega) (by omega) (by omega)
  · unfold mLE
    rw [hpt, e, ec, r3, en, nI_clamp (by omega)]
    exact ma_lev _ (by omega) (by omega) (by omega) (by omega)
  · rw [eq1]; exact ew
  · rw [eq1]; exact eh
  · rw [eix, r6]; exact ew
  · rw [eix, r7]; exact eh
/-- a grid of powers over a box: as the reference counts -/
theorem c_col {a b c d w h : Nat} (ha : a ≤ 32767) (hb : b ≤ 32767) (hc : c ≤ 32767) (hd : d ≤ 32767) (hw : w ≤ 15) (hh : h ≤ 15) (e6 : f6 ((33 * cx) + q).toNatClampNeg = nI w) (e7 : f7 ((33 * cx) + q).toNatClampNeg = nI h) : (gPow (bq a b c d) (nI w) (nI h)) 4 = mCol (bq a b c d) f6 cx q ∧ (gPow (bq a b c d) (nI w) (nI h)) 5 = mRow (bq a b c d) f7 cx q := by
  by_cases he : fEmpty (bq a b c d) = 0
  · have h12 := (mg_empty (by omega) (by omega) (by omega) (by omega)).mp he
    rw [mg_pow (by omega) (by omega) hw hh h12.1 h12.2, mg_col (by omega) (by omega) hw h12.1 h12.2 e6, mg_row (by omega) (by omega) hh h12.1 h12.2 e7]
    exact ⟨rfl, rfl⟩
  · have k1 := mg_pow45 (w := nI w) (h := nI h) he
    have k2 := mg_col0 (f6 := f6) (f7 := f7) (cx := cx) (q := q) he
    rw [k1.1, k1.2, k2.1, k2.2]
    exact ⟨rfl, rfl⟩
theorem c_eoc {y gr : Nat → Int32} {w : Int32} (hw : fWithin w 0 5 = 1) {A B : Int32} (e4 : gr 4 = A) (e5 : gr 5 = B) : fEoc y gr w = (if w = 4 then A else if w = 5 then B else fEdge y w) := by
  unfold fEoc
  rw [e4, e5]
  obtain ⟨h1, h2⟩ := fWithin_iff.mp hw
  by_cases h : 3 < w
  · rw [if_pos h]
    by_cases h4 : w = 4
    · rw [if_pos h4, if_pos h4]
    · have : w = 5 := by
        apply Int32.toInt_inj.mp
        have : w.toInt ≠ 4 := fun e => h4 (Int32.toInt_inj.mp e)
        rw [mb_lt] at h h2
        have e3 : (3 : Int32).toInt = 3 := by decide
        have e5 : (5 : Int32).toInt = 5 := by decide
        omega
      rw [if_neg h4, if_neg h4, if_pos this]
  · rw [if_neg h, if_neg (fun z => h (by rw [z]; decide)), if_neg (fun z => h (by rw [z]; decide))]
end Ctx
end PqMath4
