section PqMath2
theorem mb_le {x y : Int32} : x ≤ y ↔ x.toInt ≤ y.toInt := Int32.le_iff_toInt_le
theorem mb_lt {x y : Int32} : x < y ↔ x.toInt < y.toInt := Int32.lt_iff_toInt_lt
theorem mb_nle {x y : Int32} : ¬ x ≤ y ↔ y < x := by rw [mb_le, mb_lt]; omega
theorem mb_nlt {x y : Int32} : ¬ x < y ↔ y ≤ x := by rw [mb_le, mb_lt]; omega
theorem mb_max (x y : Int32) : mMax x y = pq_max x y := by
  unfold mMax pq_max
  by_cases h : x < y
  · rw [if_pos h, if_neg (mb_nle.mpr h)]
  · rw [if_neg h, if_pos (mb_nlt.mp h)]
theorem mb_min (x y : Int32) : mMin x y = pq_min x y := by
  unfold mMin pq_min
  by_cases h : y < x
  · rw [if_pos h, if_neg (mb_nle.mpr h)]
  · rw [if_neg h, if_pos (mb_nlt.mp h)]
theorem mb_maxc (x y : Int32) : pq_max x y = pq_max y x := by
  unfold pq_max
  by_cases h : x < y
  · rw [if_pos h, if_neg (mb_nlt.mpr (by rw [mb_lt] at h; rw [mb_le]; omega))]
  · by_cases h2 : y < x
    · rw [if_neg h, if_pos h2]
    · rw [if_neg h, if_neg h2]
      apply Int32.toInt_inj.mp
      rw [mb_lt] at h h2
      omega
theorem mb_minc (x y : Int32) : pq_min x y = pq_min y x := by
  unfold pq_min
  by_cases h : x < y
  · rw [if_pos h, if_neg (mb_nlt.mpr (by rw [mb_lt] at h; rw [mb_le]; omega))]
  · by_cases h2 : y < x
    · rw [if_neg h, if_pos h2]
    · rw [if_neg h, if_neg h2]
      apply Int32.toInt_inj.mp
      rw [mb_lt] at h h2
      omega
theorem mb_cut (x : Nat → Int32) (le to wd ht : Int32) : mCut x le to wd ht = bCut x le to wd ht := by unfold mCut bCut; rw [mb_max, mb_max, mb_min, mb_min]
theorem mb_tile {x g : Nat → Int32} {t : Int32} (h : 1 ≤ g 4) : mTile x g t = bTake x g t := by
  unfold mTile bTake bCut
  have e1 : fLeft g t = mLeft g t := by unfold fLeft mLeft; rw [if_pos h]
  have e2 : fTop g t = mTop g t := by unfold fTop mTop; rw [if_pos h]
  rw [e1, e2, mb_max, mb_max, mb_min, mb_min, mb_maxc (x 0), mb_maxc (x 1), mb_minc (x 2), mb_minc (x 3)]
theorem mb_part {x f1 f2 : Nat → Int32} {cx dx dy : Int32} (e1 : f1 cx.toNatClampNeg = dx) (e2 : f2 cx.toNatClampNeg = dy) (h1 : 1 ≤ dx) (h2 : 1 ≤ dy) : mPart x f1 f2 cx = bDiv x dx dy := by
  unfold mPart bDiv mUp fDivd
  rw [e1, e2, if_pos h1, if_pos h1, if_pos h2, if_pos h2]
theorem mb_nmax {a b : Nat} (ha : a < 2 ^ 31) (hb : b < 2 ^ 31) : pq_max (nI a) (nI b) = nI (max a b) := by
  unfold pq_max
  by_cases h : a < b
  · rw [if_pos ((nI_ltI ha hb).mpr h), Nat.max_eq_right (by omega)]
  · rw [if_neg (fun z => h ((nI_ltI ha hb).mp z)), Nat.max_eq_left (by omega)]
theorem mb_nmin {a b : Nat} (ha : a < 2 ^ 31) (hb : b < 2 ^ 31) : pq_min (nI a) (nI b) = nI (min a b) := by
  unfold pq_min
  by_cases h : b < a
  · rw [if_pos ((nI_ltI hb ha).mpr h), Nat.min_eq_right (by omega)]
  · rw [if_neg (fun z => h ((nI_ltI hb ha).mp z)), Nat.min_eq_left (by omega)]
theorem mb_bcut {a b c d l t w h : Nat} (ha : a ≤ 65535) (hb : b ≤ 65535) (hc : c ≤ 65535) (hd : d ≤ 65535) (hl : l < 2 ^ 30) (ht : t < 2 ^ 30) (hw : w < 2 ^ 30) (hh : h < 2 ^ 30) : bCut (bq a b c d) (nI l) (nI t) (nI w) (nI h) = bq (max a l) (max b t) (min c (l + w)) (min d (t + h)) := by
  unfold bCut bq
  show fQuad (pq_max (nI a) (nI l)) (pq_max (nI b) (nI t)) (pq_min (nI c) (nI l + nI w)) (pq_min (nI d) (nI t + nI h)) = _
  rw [nI_add, nI_add, mb_nmax (by omega) (by omega), mb_nmax (by omega) (by omega), mb_nmin (by omega) (by omega), mb_nmin (by omega) (by omega)]
/-- a grid of six naturals -/
def gq (a b c d e f : Nat) : Nat → Int32 := fSix (nI a) (nI b) (nI c) (nI d) (nI e) (nI f)
theorem mb_left {a b c d e f k : Nat} (he : 1 ≤ e) (he2 : e < 2 ^ 31) (hk : k < 2 ^ 31) : fLeft (gq a b c d e f) (nI k) = nI (a + k % e * c) := by
  unfold fLeft gq
  show (if 1 ≤ nI e then nI a + ((nI k - nI k / nI e * nI e) * nI c) else nI a) = _
  rw [if_pos (by rw [ma_1]; exact nI_le he he2), pk_rem hk (by omega) he2, pk_mul, nI_add]
theorem mb_top {a b c d e f k : Nat} (he : 1 ≤ e) (he2 : e < 2 ^ 31) (hk : k < 2 ^ 31) : fTop (gq a b c d e f) (nI k) = nI (b + k / e * d) := by
  unfold fTop gq
  show (if 1 ≤ nI e then nI b + ((nI k / nI e) * nI d) else nI b) = _
  rw [if_pos (by rw [ma_1]; exact nI_le he he2), pk_div hk (by omega) he2, pk_mul, nI_add]
theorem mb_ghas {a b c d e f : Nat} {k : Int32} (h : e * f < 2 ^ 31) (hk : fGHas (gq a b c d e f) k = 1) : ∃ K : Nat, K < e * f ∧ k = nI K := by
  unfold fGHas at hk
  have e0 : (gq a b c d e f) 4 * (gq a b c d e f) 5 = nI (e * f) := pk_mul e f
  rw [e0] at hk
  split at hk
  · exact absurd hk (by decide)
  · rename_i h1
    split at hk
    · exact absurd hk (by decide)
    · rename_i h2
      rcases pk_ix k h with z | z | z
      · exact absurd z h1
      · exact absurd z h2
      · exact z
theorem mb_ghas1 {a b c d e f K : Nat} (h : e * f < 2 ^ 31) (hk : K < e * f) : fGHas (gq a b c d e f) (nI K) = 1 := by
  unfold fGHas
  have e0 : (gq a b c d e f) 4 * (gq a b c d e f) 5 = nI (e * f) := pk_mul e f
  rw [e0, if_neg (nI_pos (by omega)), if_neg (nI_ge hk h)]
/-- a picture and its tiles -/
def RP (x g : Nat → Int32) : Prop := ∃ X0 X1 X2 X3 G0 G1 G2 G3 C R : Nat, x = bq X0 X1 X2 X3 ∧ g = gq G0 G1 G2 G3 C R ∧ X0 < X2 ∧ X2 ≤ 32767 ∧ X1 < X3 ∧ X3 ≤ 32767 ∧ G0 ≤ X0 ∧ G1 ≤ X1 ∧ 1 ≤ G2 ∧ G2 ≤ 32767 ∧ 1 ≤ G3 ∧ G3 ≤ 32767 ∧ C = (X2 - G0 + G2 - 1) / G2 ∧ R = (X3 - G1 + G3 - 1) / G3 ∧ C * R ≤ 65535
theorem mb_ceil {D G j : Nat} (hG : 1 ≤ G) (hj : j < (D + G - 1) / G) : j * G < D ∨ (D = 0 ∧ False) := by
  have h1 : (j + 1) * G ≤ D + G - 1 := (Nat.le_div_iff_mul_le (by omega)).mp hj
  rw [Nat.add_mul, Nat.one_mul] at h1
  omega
theorem mb_cpos {D G : Nat} (hG : 1 ≤ G) (hD : 1 ≤ D) : 1 ≤ (D + G - 1) / G := by
  rw [Nat.le_div_iff_mul_le (by omega)]
  omega
theorem mb_cle {D G : Nat} (hG : 1 ≤ G) : (D + G - 1) / G ≤ D := by
  rcases Nat.eq_zero_or_pos D with h | h
  · subst h
    rw [Nat.div_eq_of_lt (by omega)]
    exact Nat.le_refl 0
  · apply Nat.div_le_of_le_mul
    have : 1 * (G - 1) ≤ D * (G - 1) := Nat.mul_le_mul_right _ h
    have e : G * D = D * (G - 1) + D := by
      rw [Nat.mul_comm]
      conv => lhs; rw [show G = (G - 1) + 1 by omega]
      rw [Nat.mul_add, Nat.mul_one]
    omega
theorem RP_g4 {x g : Nat → Int32} (h : RP x g) : 1 ≤ g 4 := by
  obtain ⟨X0, X1, X2, X3, G0, G1, G2, G3, C, R, rfl, rfl, h1, h2, h3, h4, h5, h6, h7, h8, h9, h10, hC, hR, h11⟩ := h
  show (1 : Int32) ≤ nI C
  have := mb_cpos (D := X2 - G0) h7 (by omega)
  have := mb_cle (D := X2 - G0) h7
  rw [ma_1]
  exact nI_le (by omega) (by omega)
/-- a part's box -/
theorem RP_part {x g : Nat → Int32} {t : Int32} (h : RP x g) (ht : fGHas g t = 1) {d1 d2 : Nat} (hd1 : 1 ≤ d1) (hd2 : 1 ≤ d2) (hl1 : d1 ≤ 255) (hl2 : d2 ≤ 255) : ∃ a b c d : Nat, a ≤ 32767 ∧ b ≤ 32767 ∧ c ≤ 32767 ∧ d ≤ 32767 ∧ bDiv (bTake x g t) (nI d1) (nI d2) = bq a b c d := by
  obtain ⟨X0, X1, X2, X3, G0, G1, G2, G3, C, R, rfl, rfl, h1, h2, h3, h4, h5, h6, h7, h8, h9, h10, hC, hR, h11⟩ := h
  have c1 := mb_cpos (D := X2 - G0) h7 (by omega)
  have c2 := mb_cle (D := X2 - G0) h7
  have r1 := mb_cpos (D := X3 - G1) h9 (by omega)
  have r2 := mb_cle (D := X3 - G1) h9
  rw [← hC] at c1 c2
  rw [← hR] at r1 r2
  obtain ⟨T, hT, rfl⟩ := mb_ghas (by omega) ht
  have hm : T % C < C := Nat.mod_lt _ (by omega)
  have hq : T / C < R := Nat.div_lt_of_lt_mul hT
  have l1 : T % C * G2 < X2 - G0 := by
    rcases mb_ceil (D := X2 - G0) h7 (by rw [← hC]; exact hm) with z | z
    · exact z
    · exact z.2.elim
  have l2 : T / C * G3 < X3 - G1 := by
    rcases mb_ceil (D := X3 - G1) h9 (by rw [← hR]; exact hq) with z | z
    · exact z
    · exact z.2.elim
  have e : bTake (bq X0 X1 X2 X3) (gq G0 G1 G2 G3 C R) (nI T) = bq (max X0 (G0 + T % C * G2)) (max X1 (G1 + T / C * G3)) (min X2 (G0 + T % C * G2 + G2)) (min X3 (G1 + T / C * G3 + G3)) := by
    unfold bTake
    rw [mb_left (by omega) (by omega) (by omega), mb_top (by omega) (by omega) (by omega)]
    exact mb_bcut (by omega) (by omega) (by omega) (by omega) (by omega) (by omega) (by omega) (by omega)
  rw [e]
  generalize hA : max X0 (G0 + T % C * G2) = A
  generalize hB : max X1 (G1 + T / C * G3) = B
  generalize hE : min X2 (G0 + T % C * G2 + G2) = E
  generalize hF : min X3 (G1 + T / C * G3 + G3) = F
  have bA : A ≤ 32767 := by omega
  have bB : B ≤ 32767 := by omega
  have bE : E ≤ 32767 := by omega
  have bF : F ≤ 32767 := by omega
  refine ⟨(A + d1 - 1) / d1, (B + d2 - 1) / d2, (E + d1 - 1) / d1, (F + d2 - 1) / d2, Nat.le_trans (mb_cle hd1) bA, Nat.le_trans (mb_cle hd2) bB, Nat.le_trans (mb_cle hd1) bE, Nat.le_trans (mb_cle hd2) bF, ?_⟩
  have dv : ∀ {a d : Nat}, a ≤ 32767 → 1 ≤ d → d ≤ 255 → fDivd (nI a) (nI d) = nI ((a + d - 1) / d) := by
    intro a d ha hd hl
    unfold fDivd
    rw [if_pos (by rw [ma_1]; exact nI_le hd (by omega)), nI_add, ma_1, pk_sub (by omega), pk_div (by omega) (by omega) (by omega)]
  unfold bDiv bq
  show fQuad (fDivd (nI A) (nI d1)) (fDivd (nI B) (nI d2)) (fDivd (nI E) (nI d1)) (fDivd (nI F) (nI d2)) = _
  rw [dv bA hd1 hl1, dv bB hd2 hl2, dv bE hd1 hl1, dv bF hd2 hl2]
end PqMath2
