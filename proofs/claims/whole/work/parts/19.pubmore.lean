theorem fWithin_1 {v lo hi : Int32} (h : ¬ fWithin v lo hi = 0) : fWithin v lo hi = 1 := (fWithin_01 v lo hi).resolve_left h
theorem pq_lvN {lv : Int32} (h0 : 0 ≤ lv) (hv : lv ≤ 32) : lv.toNatClampNeg ≤ 32 := by
  obtain ⟨i, hi, rfl⟩ := nI_of2 (M := 32) (n := 32) (by decide) (by intro h9; simp only [Int32.lt_iff_toInt_lt, Int32.le_iff_toInt_le] at *; omega) hv
  rw [nI_clamp (by omega)]
  exact hi
theorem pq_nIlv {lv : Int32} (h0 : 0 ≤ lv) (hv : lv ≤ 32) : nI lv.toNatClampNeg = lv := by
  obtain ⟨i, hi, rfl⟩ := nI_of2 (M := 32) (n := 32) (by decide) (by intro h9; simp only [Int32.lt_iff_toInt_lt, Int32.le_iff_toInt_le] at *; omega) hv
  rw [nI_clamp (by omega)]
