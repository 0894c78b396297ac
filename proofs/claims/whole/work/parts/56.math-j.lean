section PqMath10
variable {pk nc n t cx q bn pn kb : Int32} {x g pp gg f1 f2 f3 f4 f5 f6 f7 pf qf : Nat → Int32} {dx dy lv bw bh : Int32} {J : Nat} {r V a b c d w h : Nat}
theorem t_0 : (0 : Int32).toInt = 0 := by decide
theorem t_1 : (1 : Int32).toInt = 1 := by decide
theorem t_2 : (2 : Int32).toInt = 2 := by decide
theorem t_10 : (10 : Int32).toInt = 10 := by decide
theorem t_15 : (15 : Int32).toInt = 15 := by decide
theorem t_16 : (16 : Int32).toInt = 16 := by decide
theorem t_32 : (32 : Int32).toInt = 32 := by decide
theorem t_255 : (255 : Int32).toInt = 255 := by decide
theorem t_m : (32767 : Int32).toInt = 32767 := by decide
theorem M_area (p0 p1 p2 p3 : Int32) : xArea p0 p1 p2 p3 = mArea p0 p1 p2 p3 := by
  unfold xArea mArea
  by_cases h1 : p0 < 0
  · rw [if_pos h1, if_pos h1]
  rw [if_neg h1, if_neg h1]
  by_cases h2 : p1 < 0
  · rw [if_pos h2, if_pos h2]
  rw [if_neg h2, if_neg h2]
  by_cases h3 : 32767 < p2
  · rw [if_pos h3, if_pos h3]
    (repeat' split) <;> rfl
  rw [if_neg h3, if_neg h3]
  by_cases h4 : p3 ≤ 32767
  · rw [if_pos h4]
    by_cases h5 : p2 ≤ p0
    · rw [if_pos h5, if_pos h5]
    rw [if_neg h5, if_neg h5]
    by_cases h6 : p1 < p3
    · rw [if_pos h6, if_neg (mb_nle.mpr h6), if_neg (mb_nlt.mpr h4)]
    · rw [if_neg h6, if_pos (mb_nlt.mp h6)]
  · rw [if_neg h4, if_pos (mb_nle.mp h4)]
    (repeat' split) <;> rfl
theorem R_area {p0 p1 p2 p3 : Int32} (h0 : xArea p0 p1 p2 p3 = 0) : Rel 1 (fQuad p0 p1 p2 p3) (gLay 0 0 p2 p3 (fQuad p0 p1 p2 p3)) (fQuad p0 p1 p2 p3) (fSix 0 0 p2 p3 1 1) := by
  rw [M_area] at h0
  unfold mArea at h0
  obtain ⟨h1, h0⟩ := i10 h0
  obtain ⟨h2, h0⟩ := i10 h0
  obtain ⟨h3, h0⟩ := i10 h0
  obtain ⟨h4, h0⟩ := i10 h0
  obtain ⟨h5, h0⟩ := i10 h0
  obtain ⟨h6, -⟩ := i10 h0
  have nn : ∀ {u v : Int32}, ¬ u < 0 → ¬ v ≤ u → ¬ v < 0 := by
    intro u v h1 h2 h3
    rw [mb_lt, t_0] at h1 h3
    rw [mb_le] at h2
    omega
  obtain ⟨X2, k2, rfl⟩ := nI_of (nn h1 h3)
  obtain ⟨X3, k3, rfl⟩ := nI_of (nn h2 h4)
  obtain ⟨X0, k0, rfl⟩ := nI_of h1
  obtain ⟨X1, k1, rfl⟩ := nI_of h2
  rw [nI_leI k2 k0] at h3
  rw [nI_leI k3 k1] at h4
  have em : (32767 : Int32) = nI 32767 := by decide
  rw [em, nI_ltI (by decide) k2] at h5
  rw [em, nI_ltI (by decide) k3] at h6
  have cnt : ∀ {E : Nat}, 1 ≤ E → E ≤ 32767 → fCount 0 (nI E) (nI E) = 1 ∧ (E - 0 + E - 1) / E = 1 := by
    intro E h1 h2
    have e : (E - 0 + E - 1) / E = 1 := by
      rw [Nat.div_eq_iff (by omega)]
      omega
    refine ⟨?_, e⟩
    unfold fCount
    rw [if_pos (by rw [ma_1]; exact nI_le h1 (by omega)), Int32.sub_zero, nI_add, ma_1, pk_sub (by omega), pk_div (by omega) (by omega) (by omega)]
    rw [Nat.sub_zero] at e
    rw [e]
  have he : fEmpty (fQuad (nI X0) (nI X1) (nI X2) (nI X3)) = 0 := (mg_empty (a := X0) (b := X1) (c := X2) (d := X3) (by omega) (by omega) (by omega) (by omega)).mpr ⟨by omega, by omega⟩
  have eg : gLay 0 0 (nI X2) (nI X3) (fQuad (nI X0) (nI X1) (nI X2) (nI X3)) = fSix 0 0 (nI X2) (nI X3) 1 1 := by
    unfold gLay fLay
    rw [if_pos he, if_pos he]
    show fSix 0 0 (nI X2) (nI X3) (fCount 0 (nI X2) (nI X2)) (fCount 0 (nI X3) (nI X3)) = _
    rw [(cnt (by omega) (by omega)).1, (cnt (by omega) (by omega)).1]
  refine Or.inr ⟨rfl, rfl, eg.symm, X0, X1, X2, X3, 0, 0, X2, X3, 1, 1, rfl, ?_, by omega, by omega, by omega, by omega, Nat.zero_le _, Nat.zero_le _, by omega, by omega, by omega, by omega, (cnt (by omega) (by omega)).2.symm, (cnt (by omega) (by omega)).2.symm, by decide⟩
  rw [eg]
  rfl
theorem i20 {c : Prop} [Decidable c] {X : Int32} (h : (if c then 2 else X) = 0) : ¬ c ∧ X = 0 := by
  by_cases hc : c
  · rw [if_pos hc] at h
    exact absurd h (by decide)
  · rw [if_neg hc] at h
    exact ⟨hc, h⟩
theorem fFirst_iff {st sz f : Int32} : fFirst st sz f = 1 ↔ ¬ st < 0 ∧ ¬ f < st ∧ ¬ st + sz ≤ f := by
  unfold fFirst
  by_cases h : fWithin st 0 f = 0
  · rw [if_pos h]
    refine ⟨fun z => absurd z (by decide), fun z => ?_⟩
    rw [fWithin_iff.mpr ⟨z.1, z.2.1⟩] at h
    exact absurd h (by decide)
  · rw [if_neg h]
    have := fWithin_iff.mp (n01 (fWithin_01 _ _ _) h)
    by_cases h2 : st + sz ≤ f
    · rw [if_pos h2]
      exact ⟨fun z => absurd z (by decide), fun z => absurd h2 z.2.2⟩
    · rw [if_neg h2]
      exact ⟨fun _ => ⟨this.1, this.2, h2⟩, fun _ => rfl⟩
/-- the boundaries of a tiling, both ways -/
def BT (x : Nat → Int32) (p0 p1 p2 p3 : Int32) : Prop := (¬ p0 < 0 ∧ ¬ p1 < 0 ∧ ¬ p2 < 1 ∧ ¬ 32767 < p2 ∧ ¬ p3 < 1 ∧ ¬ 32767 < p3) ∧ ¬ x 0 < p0 ∧ ¬ x 1 < p1 ∧ ¬ p0 + p2 ≤ x 0 ∧ ¬ p1 + p3 ≤ x 1
theorem t_pcs {P0 P2 X2 : Nat} (h1 : 1 ≤ P2) (h2 : P2 ≤ 32767) (h3 : P0 ≤ X2) (h4 : X2 ≤ 32767) : fCount (nI P0) (nI P2) (nI X2) = nI ((X2 - P0 + P2 - 1) / P2) ∧ mPcs (nI P0) (nI X2) (nI P2) = nI ((X2 - P0 + P2 - 1) / P2) := by
  refine ⟨?_, ?_⟩
  · unfold fCount
    rw [if_pos (by rw [ma_1]; exact nI_le h1 (by omega)), pk_sub h3, nI_add, ma_1, pk_sub (by omega), pk_div (by omega) (by omega) (by omega)]
  · unfold mPcs
    have k1 := Nat.div_le_self (X2 - P0) P2
    have k2 := Nat.div_mul_le_self (X2 - P0) P2
    have k3 := Nat.div_add_mod (X2 - P0) P2
    have k4 := Nat.mod_lt (X2 - P0) (y := P2) (by omega)
    rw [Nat.mul_comm] at k3
    rw [pk_sub h3, pk_div (by omega) (by omega) (by omega), pk_mul]
    by_cases h : X2 - P0 ≤ (X2 - P0) / P2 * P2
    · rw [if_pos (nI_le h (by omega))]
      congr 1
      symm
      rw [Nat.div_eq_iff (by omega)]
      omega
    · rw [if_neg (fun z => h ((nI_leI (by omega) (by omega)).mp z)), nI_1]
      congr 1
      symm
      rw [Nat.div_eq_iff (by omega), Nat.add_mul]
      omega
theorem M_tiles (hRel : Rel pk x g pp gg) (p0 p1 p2 p3 : Int32) :
    xTiles x p0 p1 p2 p3 = mTiles pk pp p0 p1 p2 p3 ∧ (xTiles x p0 p1 p2 p3 = 0 → pk = 1 ∧ gLay p0 p1 p2 p3 x = fSix p0 p1 p2 p3 (mPcs p0 (pp 2) p2) (mPcs p1 (pp 3) p3) ∧ Rel pk x (gLay p0 p1 p2 p3 x) pp (fSix p0 p1 p2 p3 (mPcs p0 (pp 2) p2) (mPcs p1 (pp 3) p3))) := by
  rcases hRel with ⟨rfl, rfl, h4⟩ | ⟨rfl, rfl, rfl, hR⟩
  · unfold xTiles mTiles
    rw [if_neg (by decide), if_pos rfl]
    exact ⟨rfl, fun z => absurd z (by decide)⟩
  · obtain ⟨X0, X1, X2, X3, G0, G1, G2, G3, C, R, rfl, rfl, h1, h2, h3, h4, h5, h6, h7, h8, h9, h10, hC, hR, h11⟩ := hR
    have he : fEmpty (bq X0 X1 X2 X3) = 0 := (mg_empty (by omega) (by omega) (by omega) (by omega)).mpr ⟨h1, h3⟩
    have hx : xTiles (bq X0 X1 X2 X3) p0 p1 p2 p3 = if fWithin p2 1 32767 = 0 then 2 else if fWithin p3 1 32767 = 0 then 2 else if fFirst p0 p2 (nI X0) = 0 then 2 else if fFirst p1 p3 (nI X1) = 0 then 2 else if fCount p0 p2 (nI X2) * fCount p1 p3 (nI X3) ≤ 65535 then 0 else 2 := by
      unfold xTiles
      rw [if_pos he]
      rfl
    have hm : mTiles 1 (bq X0 X1 X2 X3) p0 p1 p2 p3 = if p0 < 0 then 2 else if p1 < 0 then 2 else if p2 < 1 then 2 else if 32767 < p2 then 2 else if p3 < 1 then 2 else if 32767 < p3 then 2 else if nI X0 < p0 then 2 else if nI X1 < p1 then 2 else if p0 + p2 ≤ nI X0 then 2 else if p1 + p3 ≤ nI X1 then 2 else if lg_cmp ((mPcs p0 (nI X2) p2).toInt64 * (mPcs p1 (nI X3) p3).toInt64) 65535 ≤ 0 then 0 else 2 := by
      unfold mTiles
      rw [if_neg m01]
      rfl
    rw [hx, hm]
    by_cases hb : BT (bq X0 X1 X2 X3) p0 p1 p2 p3
    · obtain ⟨⟨b1, b2, b3, b4, b5, b6⟩, b7, b8, b9, b10⟩ := hb
      have b7 : ¬ nI X0 < p0 := b7
      have b8 : ¬ nI X1 < p1 := b8
      have b9 : ¬ p0 + p2 ≤ nI X0 := b9
      have b10 : ¬ p1 + p3 ≤ nI X1 := b10
      have w2 : ¬ fWithin p2 1 32767 = 0 := pq_1n0 (fWithin_iff.mpr ⟨b3, b4⟩)
      have w3 : ¬ fWithin p3 1 32767 = 0 := pq_1n0 (fWithin_iff.mpr ⟨b5, b6⟩)
      have w0 : ¬ fFirst p0 p2 (nI X0) = 0 := pq_1n0 (fFirst_iff.mpr ⟨b1, b7, b9⟩)
      have w1 : ¬ fFirst p1 p3 (nI X1) = 0 := pq_1n0 (fFirst_iff.mpr ⟨b2, b8, b10⟩)
      rw [if_neg w2, if_neg w3, if_neg w0, if_neg w1, if_neg b1, if_neg b2, if_neg b3, if_neg b4, if_neg b5, if_neg b6, if_neg b7, if_neg b8, if_neg b9, if_neg b10]
      have nn : ∀ {u : Int32}, ¬ u < 1 → ¬ u < 0 := by
        intro u h1 h2
        rw [mb_lt, t_1] at h1
        rw [mb_lt, t_0] at h2
        omega
      obtain ⟨P0, k0, rfl⟩ := nI_of b1
      obtain ⟨P1, k1, rfl⟩ := nI_of b2
      obtain ⟨P2, k2, rfl⟩ := nI_of (nn b3)
      obtain ⟨P3, k3, rfl⟩ := nI_of (nn b5)
      have em : (32767 : Int32) = nI 32767 := by decide
      rw [ma_1, nI_ltI k2 (by decide)] at b3
      rw [ma_1, nI_ltI k3 (by decide)] at b5
      rw [em, nI_ltI (by decide) k2] at b4
      rw [em, nI_ltI (by decide) k3] at b6
      rw [nI_ltI (by omega) k0] at b7
      rw [nI_ltI (by omega) k1] at b8
      rw [nI_add, nI_leI (by omega) (by omega)] at b9
      rw [nI_add, nI_leI (by omega) (by omega)] at b10
      obtain ⟨u1, u2⟩ := t_pcs (P0 := P0) (P2 := P2) (X2 := X2) (by omega) (by omega) (by omega) (by omega)
      obtain ⟨v1, v2⟩ := t_pcs (P0 := P1) (P2 := P3) (X2 := X3) (by omega) (by omega) (by omega) (by omega)
      have c1 := mb_cle (D := X2 - P0) (G := P2) (by omega)
      have c2 := mb_cle (D := X3 - P1) (G := P3) (by omega)
      have eg : gLay (nI P0) (nI P1) (nI P2) (nI P3) (bq X0 X1 X2 X3) = fSix (nI P0) (nI P1) (nI P2) (nI P3) (mPcs (nI P0) ((bq X0 X1 X2 X3) 2) (nI P2)) (mPcs (nI P1) ((bq X0 X1 X2 X3) 3) (nI P3)) := by
        unfold gLay fLay
        rw [if_pos he, if_pos he]
        show fSix _ _ _ _ (fCount (nI P0) (nI P2) (nI X2)) (fCount (nI P1) (nI P3) (nI X3)) = fSix _ _ _ _ (mPcs (nI P0) (nI X2) (nI P2)) (mPcs (nI P1) (nI X3) (nI P3))
        rw [u1, u2, v1, v2]
      have hpr : (X2 - P0 + P2 - 1) / P2 * ((X3 - P1 + P3 - 1) / P3) ≤ 32767 * 32767 := Nat.mul_le_mul (by omega) (by omega)
      rw [u1, v1, u2, v2, pk_mul, nI_l (by omega), nI_l (by omega), lN_mul]
      have e6 : (65535 : Int32) = nI 65535 := by decide
      have e7 : (65535 : Int64) = lN 65535 := by decide
      by_cases hle : (X2 - P0 + P2 - 1) / P2 * ((X3 - P1 + P3 - 1) / P3) ≤ 65535
      · have q1 : nI ((X2 - P0 + P2 - 1) / P2 * ((X3 - P1 + P3 - 1) / P3)) ≤ 65535 := by
          rw [e6]
          exact nI_le hle (by decide)
        have q2 : lg_cmp (lN ((X2 - P0 + P2 - 1) / P2 * ((X3 - P1 + P3 - 1) / P3))) 65535 ≤ 0 := by
          rw [lg_cmp_le, e7, lN_le (by omega) (by decide)]
          exact hle
        rw [if_pos q1, if_pos q2]
        refine ⟨rfl, fun _ => ⟨rfl, eg, Or.inr ⟨rfl, rfl, eg.symm, X0, X1, X2, X3, P0, P1, P2, P3, (X2 - P0 + P2 - 1) / P2, (X3 - P1 + P3 - 1) / P3, rfl, ?_, h1, h2, h3, h4, by omega, by omega, by omega, by omega, by omega, by omega, rfl, rfl, hle⟩⟩⟩
        rw [eg]
        show fSix _ _ _ _ (mPcs (nI P0) (nI X2) (nI P2)) (mPcs (nI P1) (nI X3) (nI P3)) = _
        rw [u2, v2]
        rfl
      · have q1 : ¬ nI ((X2 - P0 + P2 - 1) / P2 * ((X3 - P1 + P3 - 1) / P3)) ≤ 65535 := by
          rw [e6]
          exact nI_ge (by omega) (by omega)
        have q2 : ¬ lg_cmp (lN ((X2 - P0 + P2 - 1) / P2 * ((X3 - P1 + P3 - 1) / P3))) 65535 ≤ 0 := by
          rw [lg_cmp_le, e7, lN_le (by omega) (by decide)]
          exact hle
        rw [if_neg q1, if_neg q2]
        exact ⟨rfl, fun z => absurd z (by decide)⟩
    · have x2 : (if fWithin p2 1 32767 = 0 then (2 : Int32) else if fWithin p3 1 32767 = 0 then 2 else if fFirst p0 p2 (nI X0) = 0 then 2 else if fFirst p1 p3 (nI X1) = 0 then 2 else if fCount p0 p2 (nI X2) * fCount p1 p3 (nI X3) ≤ 65535 then 0 else 2) = 2 := by
        by_cases w2 : fWithin p2 1 32767 = 0
        · rw [if_pos w2]
        rw [if_neg w2]
        by_cases w3 : fWithin p3 1 32767 = 0
        · rw [if_pos w3]
        rw [if_neg w3]
        by_cases w0 : fFirst p0 p2 (nI X0) = 0
        · rw [if_pos w0]
        rw [if_neg w0]
        by_cases w1 : fFirst p1 p3 (nI X1) = 0
        · rw [if_pos w1]
        exfalso
        apply hb
        have w2 := fWithin_iff.mp (n01 (fWithin_01 _ _ _) w2)
        have w3 := fWithin_iff.mp (n01 (fWithin_01 _ _ _) w3)
        have w0 := fFirst_iff.mp (n01 (fFirst_01 _ _ _) w0)
        have w1 := fFirst_iff.mp (n01 (fFirst_01 _ _ _) w1)
        exact ⟨⟨w0.1, w1.1, w2.1, w2.2, w3.1, w3.2⟩, w0.2.1, w1.2.1, w0.2.2, w1.2.2⟩
      have m2 : (if p0 < 0 then (2 : Int32) else if p1 < 0 then 2 else if p2 < 1 then 2 else if 32767 < p2 then 2 else if p3 < 1 then 2 else if 32767 < p3 then 2 else if nI X0 < p0 then 2 else if nI X1 < p1 then 2 else if p0 + p2 ≤ nI X0 then 2 else if p1 + p3 ≤ nI X1 then 2 else if lg_cmp ((mPcs p0 (nI X2) p2).toInt64 * (mPcs p1 (nI X3) p3).toInt64) 65535 ≤ 0 then 0 else 2) = 2 := by
        by_cases b1 : p0 < 0
        · rw [if_pos b1]
        rw [if_neg b1]
        by_cases b2 : p1 < 0
        · rw [if_pos b2]
        rw [if_neg b2]
        by_cases b3 : p2 < 1
        · rw [if_pos b3]
        rw [if_neg b3]
        by_cases b4 : 32767 < p2
        · rw [if_pos b4]
        rw [if_neg b4]
        by_cases b5 : p3 < 1
        · rw [if_pos b5]
        rw [if_neg b5]
        by_cases b6 : 32767 < p3
        · rw [if_pos b6]
        rw [if_neg b6]
        by_cases b7 : nI X0 < p0
        · rw [if_pos b7]
        rw [if_neg b7]
        by_cases b8 : nI X1 < p1
        · rw [if_pos b8]
        rw [if_neg b8]
        by_cases b9 : p0 + p2 ≤ nI X0
        · rw [if_pos b9]
        rw [if_neg b9]
        by_cases b10 : p1 + p3 ≤ nI X1
        · rw [if_pos b10]
        exact absurd ⟨⟨b1, b2, b3, b4, b5, b6⟩, b7, b8, b9, b10⟩ hb
      rw [x2, m2]
      exact ⟨rfl, fun z => absurd z (by decide)⟩
end PqMath10
