section PqMath11
variable {pk nc n t cx q bn pn kb : Int32} {x g pp gg f1 f2 f3 f4 f5 f6 f7 pf qf : Nat → Int32} {dx dy lv bw bh : Int32} {J : Nat} {r V a b c d w h : Nat}
theorem M_comp {N : Nat} (hn : n = nI N) (hN : N ≤ 16) (p0 p1 : Int32) : xComp p0 p1 n = mComp n p0 p1 := by
  unfold xComp mComp
  have e16 : (16 : Int32) = nI 16 := by decide
  by_cases h1 : p0 < 1
  · rw [if_pos h1, if_pos]
    unfold fWithin
    rw [if_pos h1]
  by_cases h2 : 255 < p0
  · rw [if_neg h1, if_pos h2, if_pos]
    unfold fWithin
    rw [if_neg h1, if_pos h2]
  rw [if_neg h1, if_neg h2, if_neg (pq_1n0 (fWithin_iff.mpr ⟨h1, h2⟩))]
  by_cases h3 : p1 < 1
  · rw [if_pos h3, if_pos]
    unfold fWithin
    rw [if_pos h3]
  by_cases h4 : 255 < p1
  · rw [if_neg h3, if_neg (mb_nle.mpr h4), if_pos]
    unfold fWithin
    rw [if_neg h3, if_pos h4]
  rw [if_neg h3, if_pos (mb_nlt.mp h4), if_neg (pq_1n0 (fWithin_iff.mpr ⟨h3, h4⟩)), hn, e16]
  by_cases h5 : N < 16
  · rw [if_pos (nI_lt h5 (by decide)), if_neg (fun z => absurd ((nI_eq (by omega) (by decide)).mp z) (by omega))]
  · rw [if_neg (fun z => h5 ((nI_ltI (by omega) (by decide)).mp z)), if_pos (by rw [show N = 16 by omega])]
theorem mw_if2 {α : Type} {w lo hi : Int32} {A B : α} : (if w < lo then A else if hi < w then A else B) = (if fWithin w lo hi = 0 then A else B) := by
  unfold fWithin
  by_cases h1 : w < lo
  · rw [if_pos h1, if_pos h1, if_pos rfl]
  · rw [if_neg h1, if_neg h1]
    by_cases h2 : hi < w
    · rw [if_pos h2, if_pos h2, if_pos rfl]
    · rw [if_neg h2, if_neg h2, if_neg m01]
theorem M_cod (hN : fIn nc cx = 1) (p1 p2 p3 : Int32) : xCod p1 p2 p3 = mCod nc cx p1 p2 p3 := by
  unfold xCod mCod
  rw [if_neg (pq_1n0 hN), mw_if2, mw_if2, mw_if2]
  by_cases h : p2 + p3 ≤ 12
  · rw [if_pos h, if_neg (mb_nlt.mpr h)]
  · rw [if_neg h, if_pos (mb_nle.mp h)]
theorem M_pre (hN : fIn nc cx = 1) (p1 p2 p3 : Int32) : xPre p1 p2 p3 = mPre nc cx p1 p2 p3 := by
  unfold xPre mPre
  rw [if_neg (pq_1n0 hN)]
  by_cases h1 : p1 < 0
  · rw [if_pos h1, if_pos]
    unfold fWithin
    rw [if_pos h1]
  rw [if_neg h1]
  by_cases h2 : p1 ≤ 32
  · rw [if_pos h2, if_neg (pq_1n0 (fWithin_iff.mpr ⟨h1, mb_nlt.mpr h2⟩))]
    unfold fHalv
    by_cases h0 : p1 = 0
    · rw [if_pos h0, if_pos h0, mw_if2, mw_if2]
    · rw [if_neg h0, if_neg h0, ← mw_if2, ← mw_if2]
      have lo : ∀ u : Int32, u < 1 ↔ (u < 0 ∨ u ≤ 0) := by
        intro u
        rw [mb_lt, mb_lt, mb_le, t_0, t_1]
        omega
      by_cases a1 : p2 < 0
      · rw [if_pos ((lo p2).mpr (Or.inl a1)), if_pos a1]
      rw [if_neg a1]
      by_cases a2 : 15 < p2
      · rw [if_pos a2, if_pos a2]
        split <;> rfl
      rw [if_neg a2, if_neg a2]
      by_cases a3 : p2 ≤ 0
      · rw [if_pos ((lo p2).mpr (Or.inr a3)), if_pos a3]
        (repeat' split) <;> rfl
      rw [if_neg (fun z => ((lo p2).mp z).elim a1 a3), if_neg a3]
      by_cases b1 : p3 < 0
      · rw [if_pos ((lo p3).mpr (Or.inl b1)), if_pos b1]
      rw [if_neg b1]
      by_cases b2 : 15 < p3
      · rw [if_pos b2, if_pos b2]
        split <;> rfl
      rw [if_neg b2, if_neg b2]
      by_cases b3 : p3 ≤ 0
      · rw [if_pos ((lo p3).mpr (Or.inr b3)), if_pos b3]
      · rw [if_neg (fun z => ((lo p3).mp z).elim b1 b3), if_neg b3]
  · rw [if_neg h2, if_pos]
    unfold fWithin
    rw [if_neg h1, if_pos (mb_nle.mp h2)]
/-- a number within two others, as a natural -/
theorem w_nat {v lo hi : Int32} {l h : Nat} (hl : lo = nI l) (hh : hi = nI h) (hb : h < 2 ^ 31) (hlh : l ≤ h) (hw : fWithin v lo hi = 1) : ∃ k : Nat, l ≤ k ∧ k ≤ h ∧ v = nI k := by
  obtain ⟨h1, h2⟩ := fWithin_iff.mp hw
  rw [hl] at h1
  rw [hh] at h2
  obtain ⟨k, hk, rfl⟩ := nI_of (x := v) (by
    intro z
    apply h1
    rw [mb_lt] at z ⊢
    rw [nI_toInt (by omega)]
    rw [t_0] at z
    omega)
  rw [nI_ltI hk (by omega)] at h1
  rw [nI_ltI hb hk] at h2
  exact ⟨k, by omega, by omega, rfl⟩
abbrev CR := Nat × Nat × Nat × Int32 × Int32 × Int32 × Int32 × Int32 × (Nat → Int32) × (Nat → Int32)
/-- a component, as both sides know it -/
def crOK (cf : Nat → Option Nat) (J : Nat) (f1 f2 f3 f4 f5 f6 f7 : Nat → Int32) (c : CR) : Prop := match c with
  | (k, _, _, dx, dy, lv, bw, bh, pf, qf) => cf J = some k ∧ okC dx dy lv bw bh pf qf ∧ RC J f1 f2 f3 f4 f5 f6 f7 dx dy lv bw bh pf qf
def CI (n nc : Int32) (cf : Nat → Option Nat) (f1 f2 f3 f4 f5 f6 f7 : Nat → Int32) (cs : List CR) : Prop := n = nI cs.length ∧ nc = n ∧ cs.length ≤ 16 ∧ ∀ (J : Nat) (c : CR), cs[J]? = some c → crOK cf J f1 f2 f3 f4 f5 f6 f7 c
variable {cf : Nat → Option Nat} {cs pre post : List CR}
theorem CI_in (h : CI n nc cf f1 f2 f3 f4 f5 f6 f7 cs) (hc : fIn n cx = 1) : ∃ (k pa qa : Nat) (dx dy lv bw bh : Int32) (pf qf : Nat → Int32) (pre post : List CR), cs = pre ++ (k, pa, qa, dx, dy, lv, bw, bh, pf, qf) :: post ∧ cx = nI pre.length ∧ pre.length < 16 ∧ cf cx.toNatClampNeg = some k ∧ okC dx dy lv bw bh pf qf ∧ RC pre.length f1 f2 f3 f4 f5 f6 f7 dx dy lv bw bh pf qf := by
  obtain ⟨h1, h2, h3, h4⟩ := h
  have hi := fIn_iff hc
  rw [h1, nI_toInt (by omega)] at hi
  obtain ⟨j, hj, rfl⟩ := mI_nn hi.1
  rw [nI_toInt hj] at hi
  have hlt : j < cs.length := by omega
  have hs : cs = cs.take j ++ cs[j] :: cs.drop (j + 1) := by
    rw [← List.drop_eq_getElem_cons hlt, List.take_append_drop]
  have hl : (cs.take j).length = j := by rw [List.length_take]; omega
  have hok := h4 j cs[j] (List.getElem?_eq_getElem hlt)
  generalize hcj : cs[j] = cj at *
  obtain ⟨k, pa, qa, dx, dy, lv, bw, bh, pf, qf⟩ := cj
  refine ⟨k, pa, qa, dx, dy, lv, bw, bh, pf, qf, cs.take j, cs.drop (j + 1), hs, by rw [hl], by omega, ?_, hok.2.1, ?_⟩
  · rw [nI_clamp hj]
    exact hok.1
  · rw [hl]
    exact hok.2.2
theorem mI_of {pk : Int32} (hR : Rel pk x g pp gg) (h : CI n nc cf f1 f2 f3 f4 f5 f6 f7 cs) : mI pk gg nc f1 f2 f3 := by
  obtain ⟨h1, h2, h3, h4⟩ := h
  subst h2
  refine ⟨fun hp => ?_, ?_, ?_, fun cx hc => ?_⟩
  · rcases hR with ⟨rfl, -⟩ | ⟨rfl, rfl, rfl, hR⟩
    · exact absurd rfl hp
    · obtain ⟨X0, X1, X2, X3, G0, G1, G2, G3, C, R, rfl, rfl, i1, i2, i3, i4, i5, i6, i7, i8, i9, i10, hC, hR, i11⟩ := hR
      have c1 := mb_cpos (D := X2 - G0) i7 (by omega)
      have c2 := mb_cle (D := X2 - G0) i7
      show ¬ nI G2 = 0 ∧ ¬ nI G3 = 0 ∧ ¬ nI C = 0
      exact ⟨nI_ne0 (by omega) (by omega), nI_ne0 (by omega) (by omega), nI_ne0 (by omega) (by omega)⟩
  · rw [h1]
    exact nI_pos' (by omega)
  · have e16 : (16 : Int32) = nI 16 := by decide
    rw [h1, e16]
    exact nI_le h3 (by decide)
  · obtain ⟨k, pa, qa, dx, dy, lv, bw, bh, pf, qf, pre, post, -, e1, e2, -, ok, rc⟩ := CI_in ⟨h1, rfl, h3, h4⟩ hc
    rw [e1, nI_clamp (by omega), rc.1, rc.2.1, rc.2.2.1]
    obtain ⟨⟨D1, g1, g2, rfl⟩, ⟨D2, g3, g4, rfl⟩, ⟨V, hV, rfl⟩, -⟩ := ok
    have e32 : (32 : Int32) = nI 32 := by decide
    exact ⟨nI_ne0 (by omega) (by omega), nI_ne0 (by omega) (by omega), nI_pos' (by omega), by rw [e32]; exact nI_le hV (by decide)⟩
theorem CI_16 (h : CI n nc cf f1 f2 f3 f4 f5 f6 f7 cs) : n ≤ 16 := by
  have e16 : (16 : Int32) = nI 16 := by decide
  rw [h.1, e16]
  exact nI_le h.2.2.1 (by decide)
theorem okC_lv (ok : okC dx dy lv bw bh pf qf) : lv ≤ 32 ∧ 0 ≤ lv := by
  obtain ⟨-, -, ⟨V, hV, rfl⟩, -⟩ := ok
  have e32 : (32 : Int32) = nI 32 := by decide
  exact ⟨by rw [e32]; exact nI_le hV (by decide), nI_pos' (by omega)⟩
theorem get_mid {α : Type} {p q : List α} {c c' : α} {j : Nat} (h : j ≠ p.length) : (p ++ c' :: q)[j]? = (p ++ c :: q)[j]? := by
  rcases Nat.lt_or_ge j p.length with h1 | h1
  · rw [List.getElem?_append_left h1, List.getElem?_append_left h1]
  · rw [List.getElem?_append_right h1, List.getElem?_append_right h1]
    obtain ⟨i, hi⟩ := Nat.exists_eq_succ_of_ne_zero (show j - p.length ≠ 0 by omega)
    rw [hi]
    rfl
theorem get_at {α : Type} {p q : List α} {c : α} : (p ++ c :: q)[p.length]? = some c := by
  rw [List.getElem?_append_right (Nat.le_refl _), Nat.sub_self]
  rfl
theorem upd_at {f : Nat → Int32} {i : Nat} {v : Int32} : upd f i v i = v := by unfold upd; exact if_pos rfl
theorem upd_ne {f : Nat → Int32} {i j : Nat} {v : Int32} (h : j ≠ i) : upd f i v j = f j := by unfold upd; exact if_neg h
/-- what a change of one component keeps -/
theorem CI_put {k pa qa : Nat} {dx' dy' lv' bw' bh' : Int32} {pf' qf' f1' f2' f3' f4' f5' f6' f7' : Nat → Int32} {c0 : CR} (h : CI n nc cf f1 f2 f3 f4 f5 f6 f7 (pre ++ c0 :: post)) (hk : cf pre.length = some k) (ok : okC dx' dy' lv' bw' bh' pf' qf') (rc : RC pre.length f1' f2' f3' f4' f5' f6' f7' dx' dy' lv' bw' bh' pf' qf')
    (hr : ∀ (J : Nat) (dx dy lv bw bh : Int32) (pf qf : Nat → Int32), J ≠ pre.length → RC J f1 f2 f3 f4 f5 f6 f7 dx dy lv bw bh pf qf → RC J f1' f2' f3' f4' f5' f6' f7' dx dy lv bw bh pf qf) : CI n nc cf f1' f2' f3' f4' f5' f6' f7' (pre ++ (k, pa, qa, dx', dy', lv', bw', bh', pf', qf') :: post) := by
  obtain ⟨h1, h2, h3, h4⟩ := h
  have el : (pre ++ (k, pa, qa, dx', dy', lv', bw', bh', pf', qf') :: post).length = (pre ++ c0 :: post).length := by
    rw [List.length_append, List.length_append]
    rfl
  refine ⟨by rw [el]; exact h1, h2, by rw [el]; exact h3, fun J c hJ => ?_⟩
  by_cases e : J = pre.length
  · subst e
    rw [get_at] at hJ
    cases hJ
    exact ⟨hk, ok, rc⟩
  · rw [get_mid (c := c0) e] at hJ
    have := h4 J c hJ
    obtain ⟨k', pa', qa', dx, dy, lv, bw, bh, pf, qf⟩ := c
    exact ⟨this.1, this.2.1, hr J _ _ _ _ _ _ _ e this.2.2⟩
theorem CI_cod {k pa qa : Nat} {z2 z3 z4 : Int32} (h : CI n nc cf f1 f2 f3 f4 f5 f6 f7 (pre ++ (k, pa, qa, dx, dy, lv, bw, bh, pf, qf) :: post)) (hx : cx = nI pre.length) (hl : pre.length < 16) (hk : cf cx.toNatClampNeg = some k) (ok : okC dx dy lv bw bh pf qf) (rc : RC pre.length f1 f2 f3 f4 f5 f6 f7 dx dy lv bw bh pf qf) (h0 : xCod z2 z3 z4 = 0) : CI n nc cf f1 f2 (upd f3 cx.toNatClampNeg z2) (upd f4 cx.toNatClampNeg z3) (upd f5 cx.toNatClampNeg z4) f6 f7 (pre ++ (k, pa, qa, dx, dy, z2, z3, z4, pf, qf) :: post) := by
  have ec : cx.toNatClampNeg = pre.length := by rw [hx]; exact nI_clamp (by omega)
  rw [ec] at hk ⊢
  unfold xCod at h0
  obtain ⟨g1, h0⟩ := i20 h0
  obtain ⟨g2, h0⟩ := i20 h0
  obtain ⟨g3, -⟩ := i20 h0
  obtain ⟨V, -, v2, v3⟩ := w_nat (l := 0) (h := 32) (by decide) (by decide) (by decide) (by decide) (n01 (fWithin_01 _ _ _) g1)
  obtain ⟨B, -, b2, b3⟩ := w_nat (l := 2) (h := 10) (by decide) (by decide) (by decide) (by decide) (n01 (fWithin_01 _ _ _) g2)
  obtain ⟨E, -, e2, e3⟩ := w_nat (l := 2) (h := 10) (by decide) (by decide) (by decide) (by decide) (n01 (fWithin_01 _ _ _) g3)
  obtain ⟨o1, o2, o3, o4, o5, o6⟩ := ok
  obtain ⟨r1, r2, r3, r4, r5, r6⟩ := rc
  refine CI_put h hk ⟨o1, o2, ⟨V, v2, v3⟩, ⟨B, b2, b3⟩, ⟨E, e2, e3⟩, o6⟩ ⟨r1, r2, upd_at, upd_at, upd_at, r6⟩ (fun J dx dy lv bw bh pf qf hJ hr => ?_)
  obtain ⟨r1, r2, r3, r4, r5, r6⟩ := hr
  exact ⟨r1, r2, (upd_ne hJ).trans r3, (upd_ne hJ).trans r4, (upd_ne hJ).trans r5, r6⟩
theorem CI_pre {k pa qa : Nat} {z2 z3 z4 : Int32} (h : CI n nc cf f1 f2 f3 f4 f5 f6 f7 (pre ++ (k, pa, qa, dx, dy, lv, bw, bh, pf, qf) :: post)) (hx : cx = nI pre.length) (hl : pre.length < 16) (hk : cf cx.toNatClampNeg = some k) (ok : okC dx dy lv bw bh pf qf) (rc : RC pre.length f1 f2 f3 f4 f5 f6 f7 dx dy lv bw bh pf qf) (h0 : xPre z2 z3 z4 = 0) : CI n nc cf f1 f2 f3 f4 f5 (upd f6 ((33 * cx) + z2).toNatClampNeg z3) (upd f7 ((33 * cx) + z2).toNatClampNeg z4) (pre ++ (k, pa, qa, dx, dy, lv, bw, bh, upd pf z2.toNatClampNeg z3, upd qf z2.toNatClampNeg z4) :: post) := by
  have ec : cx.toNatClampNeg = pre.length := by rw [hx]; exact nI_clamp (by omega)
  rw [ec] at hk
  unfold xPre at h0
  obtain ⟨g1, h0⟩ := i10 h0
  obtain ⟨g2, h0⟩ := i20 h0
  obtain ⟨g3, -⟩ := i20 h0
  obtain ⟨q9, -, v2, v3⟩ := w_nat (l := 0) (h := 32) (by decide) (by decide) (by decide) (by decide) (n01 (fWithin_01 _ _ _) g1)
  have ez : z2.toNatClampNeg = q9 := by rw [v3]; exact nI_clamp (by omega)
  have ei : ((33 * cx) + z2).toNatClampNeg = 33 * pre.length + q9 := by rw [hx, v3, mIx_nI]; exact nI_clamp (by omega)
  have hh : ∀ {v : Int32}, fWithin v (fHalv z2) 15 = 1 → ∃ k : Nat, k ≤ 15 ∧ (q9 ≠ 0 → 1 ≤ k) ∧ v = nI k := by
    intro v hv
    unfold fHalv at hv
    by_cases hz : z2 = 0
    · rw [if_pos hz] at hv
      obtain ⟨k, -, k2, k3⟩ := w_nat (l := 0) (h := 15) (by decide) (by decide) (by decide) (by decide) hv
      refine ⟨k, k2, fun z => absurd ?_ z, k3⟩
      rw [v3, ← nI_0] at hz
      exact (nI_eq (by omega) (by decide)).mp hz
    · rw [if_neg hz] at hv
      obtain ⟨k, k1, k2, k3⟩ := w_nat (l := 1) (h := 15) (by decide) (by decide) (by decide) (by decide) hv
      exact ⟨k, k2, fun _ => k1, k3⟩
  rw [ei, ez]
  obtain ⟨o1, o2, o3, o4, o5, o6⟩ := ok
  obtain ⟨r1, r2, r3, r4, r5, r6⟩ := rc
  refine CI_put h hk ⟨o1, o2, o3, o4, o5, fun r hr => ?_⟩ ⟨r1, r2, r3, r4, r5, fun r hr => ?_⟩ (fun J dx dy lv bw bh pf qf hJ hr => ?_)
  · by_cases e : r = q9
    · subst e
      obtain ⟨k3, k4, k5, k6⟩ := hh (n01 (fWithin_01 _ _ _) g2)
      obtain ⟨l3, l4, l5, l6⟩ := hh (n01 (fWithin_01 _ _ _) g3)
      exact ⟨⟨k3, k4, k5, upd_at.trans k6⟩, ⟨l3, l4, l5, upd_at.trans l6⟩⟩
    · rw [upd_ne e, upd_ne e]
      exact o6 r hr
  · by_cases e : r = q9
    · subst e
      rw [upd_at, upd_at, upd_at, upd_at]
      exact ⟨rfl, rfl⟩
    · rw [upd_ne e, upd_ne e, upd_ne (by omega), upd_ne (by omega)]
      exact r6 r hr
  · obtain ⟨r1, r2, r3, r4, r5, r6⟩ := hr
    refine ⟨r1, r2, r3, r4, r5, fun r hr => ?_⟩
    rw [upd_ne (by omega), upd_ne (by omega)]
    exact r6 r hr
theorem CI_add {z1 z2 : Int32} {k pa qa : Nat} (h : CI n nc cf f1 f2 f3 f4 f5 f6 f7 cs) (h0 : xComp z1 z2 n = 0) : CI (n + 1) (nc + 1) (va_up cf n.toNatClampNeg (some k)) (upd f1 nc.toNatClampNeg z1) (upd f2 nc.toNatClampNeg z2) (upd f3 nc.toNatClampNeg 0) (upd f4 nc.toNatClampNeg 6) (upd f5 nc.toNatClampNeg 6) (mFill f6 nc 33) (mFill f7 nc 33) (cs ++ [(k, pa, qa, z1, z2, 0, 6, 6, (fun _ => 15), (fun _ => 15))]) := by
  obtain ⟨h1, h2, h3, h4⟩ := h
  subst h2
  unfold xComp at h0
  obtain ⟨g1, h0⟩ := i10 h0
  obtain ⟨g2, h0⟩ := i10 h0
  have e16 : (16 : Int32) = nI 16 := by decide
  have hl : cs.length < 16 := by
    rw [h1, e16] at h0
    by_cases z : cs.length < 16
    · exact z
    · rw [if_neg (nI_nlt (by omega) (by omega))] at h0
      exact absurd h0 (by decide)
  have ec : nc.toNatClampNeg = cs.length := by rw [h1]; exact nI_clamp (by omega)
  obtain ⟨D, d1, d2, d3⟩ := w_nat (l := 1) (h := 255) (by decide) (by decide) (by decide) (by decide) (n01 (fWithin_01 _ _ _) g1)
  obtain ⟨E, e1, e2, e3⟩ := w_nat (l := 1) (h := 255) (by decide) (by decide) (by decide) (by decide) (n01 (fWithin_01 _ _ _) g2)
  have e6 : (6 : Int32) = nI 6 := by decide
  have e15 : (15 : Int32) = nI 15 := by decide
  have fl : ∀ (f : Nat → Int32) (J r : Nat), r ≤ 32 → mFill f nc 33 (33 * J + r) = if J = cs.length then 15 else f (33 * J + r) := by
    intro f J r hr
    unfold mFill
    rw [ec]
    by_cases e : J = cs.length
    · rw [if_pos e, if_pos]
      subst e
      exact ⟨by omega, by omega⟩
    · rw [if_neg e, if_neg]
      omega
  refine ⟨?_, rfl, ?_, fun J c hJ => ?_⟩
  · rw [List.length_append, h1, nI_1]
    rfl
  · rw [List.length_append]
    show cs.length + 1 ≤ 16
    omega
  · by_cases e : J = cs.length
    · subst e
      rw [get_at] at hJ
      cases hJ
      rw [ec]
      refine ⟨?_, ⟨⟨D, d1, d2, d3⟩, ⟨E, e1, e2, e3⟩, ⟨0, by omega, by rw [nI_0]⟩, ⟨6, by omega, e6⟩, ⟨6, by omega, e6⟩, fun r hr => ⟨⟨15, by omega, fun _ => by omega, e15⟩, ⟨15, by omega, fun _ => by omega, e15⟩⟩⟩, upd_at, upd_at, upd_at, upd_at, upd_at, fun r hr => ?_⟩
      · unfold va_up
        exact if_pos rfl
      · rw [fl f6 _ r hr, fl f7 _ r hr, if_pos rfl, if_pos rfl]
        exact ⟨rfl, rfl⟩
    · have hJ2 : cs[J]? = some c := by
        rcases Nat.lt_or_ge J cs.length with g | g
        · rw [List.getElem?_append_left g] at hJ
          exact hJ
        · rw [List.getElem?_append_right g] at hJ
          obtain ⟨i, hi⟩ := Nat.exists_eq_succ_of_ne_zero (show J - cs.length ≠ 0 by omega)
          rw [hi] at hJ
          exact absurd hJ (by simp)
      have := h4 J c hJ2
      obtain ⟨k', pa', qa', dx, dy, lv, bw, bh, pf, qf⟩ := c
      obtain ⟨i1, i2, r1, r2, r3, r4, r5, r6⟩ := this
      rw [ec]
      refine ⟨?_, i2, (upd_ne e).trans r1, (upd_ne e).trans r2, (upd_ne e).trans r3, (upd_ne e).trans r4, (upd_ne e).trans r5, fun r hr => ?_⟩
      · unfold va_up
        rw [if_neg e]
        exact i1
      · rw [fl f6 _ r hr, fl f7 _ r hr, if_neg e, if_neg e]
        exact r6 r hr
end PqMath11
