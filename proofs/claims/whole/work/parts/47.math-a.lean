section PqMath
theorem ma_s : ∀ n, n < 32 → ((nI n &&& 31).toBitVec.smod 32).toNat = n := by decide +kernel
theorem ma_shr {a k : Nat} (ha : a < 2 ^ 31) (hk : k < 32) : nI a >>> (nI k &&& 31) = nI (a / 2 ^ k) := pk_shrN ha _ k (ma_s k hk)
theorem ma_shl {a k : Nat} (hk : k < 32) (h : a * 2 ^ k < 2 ^ 32) : nI a <<< (nI k &&& 31) = nI (a * 2 ^ k) := pk_shlN _ k (ma_s k hk) h
theorem ma_1 : (1 : Int32) = nI 1 := by decide
theorem ma_0 : (0 : Int32) = nI 0 := by decide
theorem ma_p2 {k n : Nat} (h : k ≤ n) : 2 ^ k ≤ 2 ^ n := Nat.pow_le_pow_right (by decide) h
theorem ma_one {k : Nat} (hk : k ≤ 30) : (1 : Int32) <<< (nI k &&& 31) = nI (2 ^ k) := by
  rw [ma_1, ma_shl (by omega) (by have := ma_p2 hk; omega), Nat.one_mul]
theorem ma_shr1 {a : Nat} (ha : a < 2 ^ 31) : nI a >>> ((1 : Int32) &&& 31) = nI (a / 2) := by
  have := ma_shr (k := 1) ha (by decide)
  rwa [Nat.pow_one] at this
theorem ma_lc : ∀ k, k < 64 → (((nI k).toInt64 &&& 63).toBitVec.smod 64).toNat = k := by decide +kernel
theorem ma_ltn {n : Nat} (h : n < 2 ^ 64) : (lN n).toBitVec.toNat = n := Nat.mod_eq_of_lt h
theorem ma_lshl {n k : Nat} (hk : k < 64) (h : n * 2 ^ k < 2 ^ 64) : lN n <<< ((nI k).toInt64 &&& 63) = lN (n * 2 ^ k) := by
  apply Int64.toBitVec_inj.mp
  apply BitVec.eq_of_toNat_eq
  have hn : n < 2 ^ 64 := Nat.lt_of_le_of_lt (Nat.le_mul_of_pos_right n (Nat.two_pow_pos k)) h
  show ((lN n).toBitVec <<< (((nI k).toInt64 &&& 63).toBitVec.smod 64).toNat).toNat = _
  rw [ma_lc k hk, BitVec.toNat_shiftLeft, Nat.shiftLeft_eq, ma_ltn hn, ma_ltn h, Nat.mod_eq_of_lt h]
theorem ma_lshr {n k : Nat} (h : n < 2 ^ 63) (hk : k < 64) : lN n >>> ((nI k).toInt64 &&& 63) = lN (n / 2 ^ k) := by
  apply Int64.toInt_inj.mp
  have h2 : n / 2 ^ k ≤ n := Nat.div_le_self _ _
  show ((lN n).toBitVec.sshiftRight (((nI k).toInt64 &&& 63).toBitVec.smod 64).toNat).toInt = _
  rw [ma_lc k hk, BitVec.toInt_sshiftRight, pk_lT (by omega)]
  show (lN n).toInt >>> k = _
  rw [pk_lT h, Int.shiftRight_eq_div_pow]
  rfl
theorem ma_lone {k : Nat} (hk : k ≤ 62) : (1 : Int64) <<< ((nI k).toInt64 &&& 63) = lN (2 ^ k) := by
  have e : (1 : Int64) = lN 1 := by decide
  rw [e, ma_lshl (by omega) (by have := ma_p2 hk; omega), Nat.one_mul]
theorem ma_scal {E n o : Nat} (hE : E ≤ 65535) (hn : n ≤ 33) (ho : o ≤ 1) : fScal (nI E) (nI n) (nI o) = nI ((E + 2 ^ n - 1 - o * (2 ^ n / 2)) / 2 ^ n) := by
  unfold fScal
  have hp : 2 ^ n ≤ 2 ^ 33 := ma_p2 hn
  have h0 : 0 < 2 ^ n := Nat.two_pow_pos n
  have e1 : (1 : Int64) = lN 1 := by decide
  have e2 : (lN (2 ^ n)) >>> ((1 : Int32).toInt64 &&& 63) = lN (2 ^ n / 2) := by
    have := ma_lshr (n := 2 ^ n) (k := 1) (by omega) (by decide)
    rwa [Nat.pow_one] at this
  rw [ma_lone (by omega), e2, nI_l (by omega), nI_l (n := o) (by omega), lN_mul]
  have hb : o * (2 ^ n / 2) ≤ 2 ^ n / 2 := by
    have : o * (2 ^ n / 2) ≤ 1 * (2 ^ n / 2) := Nat.mul_le_mul_right _ ho
    omega
  generalize o * (2 ^ n / 2) = bb at *
  have e3 : lN E - lN bb + lN (2 ^ n) = lN (E + (2 ^ n - bb)) := by
    have : lN (2 ^ n) = lN bb + lN (2 ^ n - bb) := by rw [lN_add]; congr 1; omega
    rw [this, ← Int64.add_assoc, Int64.sub_add_cancel, lN_add]
  rw [e3, e1, lN_sub (by omega), ma_lshr (by omega) (by omega), lN_i]
  congr 2
  omega
theorem ma_q4 {f : Nat → Int32} {a b c d : Int32} (h0 : f 0 = a) (h1 : f 1 = b) (h2 : f 2 = c) (h3 : f 3 = d) : fQuad (f 0) (f 1) (f 2) (f 3) = fQuad a b c d := by rw [h0, h1, h2, h3]
/-- a box of four naturals -/
def bq (a b c d : Nat) : Nat → Int32 := fQuad (nI a) (nI b) (nI c) (nI d)
def hf (n a : Nat) : Nat := (a + 2 ^ n - 1) / 2 ^ n
theorem hf_0 (a : Nat) : hf 0 a = a := by unfold hf; simp
theorem hf_s (n a : Nat) : hf (n + 1) a = hf n ((a + 1) / 2) := by
  unfold hf
  have h0 : 0 < 2 ^ n := Nat.two_pow_pos n
  have e : (a + 1) / 2 + 2 ^ n - 1 = (a + 1 + (2 ^ n - 1) * 2) / 2 := by
    rw [Nat.add_mul_div_right _ _ (by decide)]
    omega
  rw [e, Nat.div_div_eq_div_mul, Nat.pow_succ, Nat.mul_comm 2]
  congr 1
  omega
theorem hf_le {n a : Nat} : hf n a ≤ a := by
  unfold hf
  have h0 : 0 < 2 ^ n := Nat.two_pow_pos n
  rcases Nat.eq_zero_or_pos a with h | h
  · subst h
    rw [Nat.div_eq_of_lt (by omega)]
    exact Nat.le_refl 0
  · apply Nat.div_le_of_le_mul
    have : 1 * (2 ^ n - 1) ≤ a * (2 ^ n - 1) := Nat.mul_le_mul_right _ h
    have e : 2 ^ n * a = a * (2 ^ n - 1) + a := by
      rw [Nat.mul_comm]
      conv => lhs; rw [show 2 ^ n = (2 ^ n - 1) + 1 by omega]
      rw [Nat.mul_add, Nat.mul_one]
    omega
theorem ma_half {a b c d : Nat} (ha : a ≤ 65535) (hb : b ≤ 65535) (hc : c ≤ 65535) (hd : d ≤ 65535) : mHalf (bq a b c d) = bq ((a + 1) / 2) ((b + 1) / 2) ((c + 1) / 2) ((d + 1) / 2) := by
  unfold mHalf bq
  show fQuad ((nI a + 1) >>> ((1 : Int32) &&& 31)) ((nI b + 1) >>> ((1 : Int32) &&& 31)) ((nI c + 1) >>> ((1 : Int32) &&& 31)) ((nI d + 1) >>> ((1 : Int32) &&& 31)) = _
  rw [nI_1, nI_1, nI_1, nI_1, ma_shr1 (by omega), ma_shr1 (by omega), ma_shr1 (by omega), ma_shr1 (by omega)]
theorem ma_lev : ∀ (n : Nat) {a b c d : Nat}, a ≤ 65535 → b ≤ 65535 → c ≤ 65535 → d ≤ 65535 → mLev n (bq a b c d) = bq (hf n a) (hf n b) (hf n c) (hf n d) := by
  intro n
  induction n with
  | zero => intro a b c d _ _ _ _; rw [mLev, hf_0, hf_0, hf_0, hf_0]
  | succ n ih =>
    intro a b c d ha hb hc hd
    rw [mLev, ma_half ha hb hc hd, ih (by omega) (by omega) (by omega) (by omega), hf_s, hf_s, hf_s, hf_s]
theorem ma_scal0 {E n : Nat} (hE : E ≤ 65535) (hn : n ≤ 33) : fScal (nI E) (nI n) 0 = nI (hf n E) := by
  have := ma_scal (o := 0) hE hn (by decide)
  rw [Nat.zero_mul, Nat.sub_zero] at this
  exact this
theorem ma_bscal0 {a b c d n : Nat} (ha : a ≤ 65535) (hb : b ≤ 65535) (hc : c ≤ 65535) (hd : d ≤ 65535) (hn : n ≤ 33) : bScal (bq a b c d) (nI n) 0 0 = bq (hf n a) (hf n b) (hf n c) (hf n d) := by
  unfold bScal bq
  show fQuad (fScal (nI a) (nI n) 0) (fScal (nI b) (nI n) 0) (fScal (nI c) (nI n) 0) (fScal (nI d) (nI n) 0) = _
  rw [ma_scal0 ha hn, ma_scal0 hb hn, ma_scal0 hc hn, ma_scal0 hd hn]
/-- an axis of a band: with o the lower half of what is above -/
def hb (n o a : Nat) : Nat := (hf n a + (1 - o)) / 2
theorem ma_scalb {E n o : Nat} (hE : E ≤ 65535) (hn : n ≤ 32) (ho : o ≤ 1) : fScal (nI E) (nI (n + 1)) (nI o) = nI (hb n o E) := by
  rw [ma_scal hE (by omega) ho]
  congr 1
  unfold hb hf
  have h0 : 0 < 2 ^ n := Nat.two_pow_pos n
  have e1 : 2 ^ (n + 1) = 2 ^ n * 2 := Nat.pow_succ 2 n
  rw [e1, Nat.mul_div_cancel _ (by decide), ← Nat.div_div_eq_div_mul]
  congr 1
  rcases (show o = 0 ∨ o = 1 by omega) with h | h
  · subst h
    rw [Nat.zero_mul, Nat.sub_zero, ← Nat.add_div_right _ h0]
    congr 1
    omega
  · subst h
    rw [Nat.one_mul]
    congr 1
    omega
theorem ma_bandb {a b c d n ox oy : Nat} (ha : a ≤ 65535) (hb' : b ≤ 65535) (hc : c ≤ 65535) (hd : d ≤ 65535) (hn : n ≤ 32) (hx : ox ≤ 1) (hy : oy ≤ 1) : bScal (bq a b c d) (nI (n + 1)) (nI ox) (nI oy) = bq (hb n ox a) (hb n oy b) (hb n ox c) (hb n oy d) := by
  unfold bScal bq
  show fQuad (fScal (nI a) (nI (n + 1)) (nI ox)) (fScal (nI b) (nI (n + 1)) (nI oy)) (fScal (nI c) (nI (n + 1)) (nI ox)) (fScal (nI d) (nI (n + 1)) (nI oy)) = _
  rw [ma_scalb ha hn hx, ma_scalb hb' hn hy, ma_scalb hc hn hx, ma_scalb hd hn hy]
theorem ma_eq {x y : Nat} (hx : x < 2 ^ 31) (hy : y < 2 ^ 31) : mEq (nI x) (nI y) = nI (if x = y then 1 else 0) := by
  unfold mEq
  by_cases h : x = y
  · rw [if_pos h, if_pos (by rw [h]), ma_1]
  · rw [if_neg h, if_neg (fun z => h ((nI_eq hx hy).mp z)), ma_0]
theorem ma_bnd {a b c d k : Nat} (ha : a ≤ 65535) (hb' : b ≤ 65535) (hc : c ≤ 65535) (hd : d ≤ 65535) (hk : k ≤ 3) : mBnd (bq a b c d) (nI k) = bq ((a + (if k = 2 then 1 else 0)) / 2) ((b + (if k = 1 then 1 else 0)) / 2) ((c + (if k = 2 then 1 else 0)) / 2) ((d + (if k = 1 then 1 else 0)) / 2) := by
  have e2 : (2 : Int32) = nI 2 := by decide
  have g2 : (if k = 2 then 1 else 0) ≤ 1 := by split <;> omega
  have g1 : (if k = 1 then 1 else 0) ≤ 1 := by split <;> omega
  unfold mBnd bq
  show fQuad ((nI a + mEq (nI k) 2) >>> ((1 : Int32) &&& 31)) ((nI b + mEq (nI k) 1) >>> ((1 : Int32) &&& 31)) ((nI c + mEq (nI k) 2) >>> ((1 : Int32) &&& 31)) ((nI d + mEq (nI k) 1) >>> ((1 : Int32) &&& 31)) = _
  rw [e2, ma_1, ma_eq (by omega) (by decide), ma_eq (by omega) (by decide), nI_add, nI_add, nI_add, nI_add, ← ma_1, ma_shr1 (by omega), ma_shr1 (by omega), ma_shr1 (by omega), ma_shr1 (by omega)]
/-- the band k of a level's box -/
theorem ma_band {a b c d n k : Nat} (ha : a ≤ 65535) (hb' : b ≤ 65535) (hc : c ≤ 65535) (hd : d ≤ 65535) (hn : n ≤ 32) (h1 : 1 ≤ k) (hk : k ≤ 3) : mBnd (bq (hf n a) (hf n b) (hf n c) (hf n d)) (nI k) = bScal (bq a b c d) (nI (n + 1)) (nI k &&& 1) (nI k >>> ((1 : Int32) &&& 31)) := by
  have e1 : nI k &&& 1 = nI (k % 2) := pk_andN (by omega) 1 (by decide)
  have e2 : nI k >>> ((1 : Int32) &&& 31) = nI (k / 2) := ma_shr1 (by omega)
  rw [e1, e2, ma_bandb ha hb' hc hd hn (by omega) (by omega), ma_bnd (Nat.le_trans hf_le ha) (Nat.le_trans hf_le hb') (Nat.le_trans hf_le hc) (Nat.le_trans hf_le hd) hk]
  unfold hb
  rcases (show k = 1 ∨ k = 2 ∨ k = 3 by omega) with h | h | h <;> subst h <;> rfl
end PqMath
