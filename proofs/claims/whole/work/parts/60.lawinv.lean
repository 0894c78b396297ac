
/-- a component's cells -/
def crCells (cI : ClassId) (c : CR) : va_W := match c with
  | (k, pa, qa, dx, dy, lv, bw, bh, pf, qf) => [(k, .inr (2, [.int dx, .int dy, .int lv, .int bw, .int bh, .ref pa, .ref qa])), (pa, .inl (cI, 33, .inl pf)), (qa, .inl (cI, 33, .inl qf))]
def crP (cI : ClassId) (cs : List CR) : va_W := cs.flatMap (crCells cI)
def LA (cC : ClassId) (cv : Nat) (pic : Nat) (tg : Nat) (ca : Nat) (n : Int32) (tb : Nat) (pb : Nat) (lb : Nat) (bb : Nat) (cb : Nat) (sb : Nat) (pg : Nat) (bg : Nat) (cf : Nat → Option Nat) (x : Nat → Int32) (g6 : Nat → Int32) (u : Nat → Nat → Int32) : va_W := [(cv, .inr (3, [.ref pic, .ref tg, .ref ca, .int n, .ref tb, .ref pb, .ref lb, .ref bb, .ref cb, .ref sb, .ref pg, .ref bg])), (pic, .inr (0, [.int (x 0), .int (x 1), .int (x 2), .int (x 3)])), (tg, .inr (1, [.int (g6 0), .int (g6 1), .int (g6 2), .int (g6 3), .int (g6 4), .int (g6 5)])), (ca, .inl (cC, 16, .inr (.inr (.inr (.inr cf))))), (tb, .inr (0, [.int ((u 0) 0), .int ((u 0) 1), .int ((u 0) 2), .int ((u 0) 3)])), (pb, .inr (0, [.int ((u 1) 0), .int ((u 1) 1), .int ((u 1) 2), .int ((u 1) 3)])), (lb, .inr (0, [.int ((u 2) 0), .int ((u 2) 1), .int ((u 2) 2), .int ((u 2) 3)])), (bb, .inr (0, [.int ((u 3) 0), .int ((u 3) 1), .int ((u 3) 2), .int ((u 3) 3)])), (cb, .inr (0, [.int ((u 4) 0), .int ((u 4) 1), .int ((u 4) 2), .int ((u 4) 3)])), (sb, .inr (0, [.int ((u 5) 0), .int ((u 5) 1), .int ((u 5) 2), .int ((u 5) 3)])), (pg, .inr (1, [.int ((u 6) 0), .int ((u 6) 1), .int ((u 6) 2), .int ((u 6) 3), .int ((u 6) 4), .int ((u 6) 5)])), (bg, .inr (1, [.int ((u 7) 0), .int ((u 7) 1), .int ((u 7) 2), .int ((u 7) 3), .int ((u 7) 4), .int ((u 7) 5)]))]
def LM (cI : ClassId) (mo : Nat) (a1 : Nat) (a2 : Nat) (a3 : Nat) (a4 : Nat) (a5 : Nat) (a6 : Nat) (a7 : Nat) (th : Int32) (pk : Int32) (nc : Int32) (pp : Nat → Int32) (gg : Nat → Int32) (ee : Nat → Int32) (f1 : Nat → Int32) (f2 : Nat → Int32) (f3 : Nat → Int32) (f4 : Nat → Int32) (f5 : Nat → Int32) (f6 : Nat → Int32) (f7 : Nat → Int32) : va_W := [(mo, .inr (4, [.int th, .int pk, .int (pp 0), .int (pp 1), .int (pp 2), .int (pp 3), .int (gg 0), .int (gg 1), .int (gg 2), .int (gg 3), .int (gg 4), .int (gg 5), .int nc, .ref a1, .ref a2, .ref a3, .ref a4, .ref a5, .ref a6, .ref a7, .int (ee 0), .int (ee 1), .int (ee 2), .int (ee 3)])), (a1, .inl (cI, 16, .inl f1)), (a2, .inl (cI, 16, .inl f2)), (a3, .inl (cI, 16, .inl f3)), (a4, .inl (cI, 16, .inl f4)), (a5, .inl (cI, 16, .inl f5)), (a6, .inl (cI, 528, .inl f6)), (a7, .inl (cI, 528, .inl f7))]
def LO (cL : ClassId) (oa : Nat) (of : Nat → Int64) : va_W := [(oa, .inl (cL, 1, .inr (.inl of)))]
def LW (cI cL cC : ClassId) (cv : Nat) (pic : Nat) (tg : Nat) (ca : Nat) (n : Int32) (tb : Nat) (pb : Nat) (lb : Nat) (bb : Nat) (cb : Nat) (sb : Nat) (pg : Nat) (bg : Nat) (cf : Nat → Option Nat) (x : Nat → Int32) (g6 : Nat → Int32) (u : Nat → Nat → Int32) (mo : Nat) (a1 : Nat) (a2 : Nat) (a3 : Nat) (a4 : Nat) (a5 : Nat) (a6 : Nat) (a7 : Nat) (th : Int32) (pk : Int32) (nc : Int32) (pp : Nat → Int32) (gg : Nat → Int32) (ee : Nat → Int32) (f1 : Nat → Int32) (f2 : Nat → Int32) (f3 : Nat → Int32) (f4 : Nat → Int32) (f5 : Nat → Int32) (f6 : Nat → Int32) (f7 : Nat → Int32) (oa : Nat) (of : Nat → Int64) (cs : List CR) : va_W := pq_app (pq_app (LA cC cv pic tg ca n tb pb lb bb cb sb pg bg cf x g6 u) (pq_app (LM cI mo a1 a2 a3 a4 a5 a6 a7 th pk nc pp gg ee f1 f2 f3 f4 f5 f6 f7) (LO cL oa of))) (crP cI cs)
/-- what holds at the head of the law's loop: both sides, the cells, the locals -/
abbrev LwS (D : va_G) (cI cL cC : ClassId) (A : Nat → Prop) (H0 : Heap) (b cv mo oa i : Nat) (H : Heap) (locs : List Loc) (ls : Array Slot) : Prop := ∃ (pic : Nat) (tg : Nat) (ca : Nat) (n : Int32) (tb : Nat) (pb : Nat) (lb : Nat) (bb : Nat) (cb : Nat) (sb : Nat) (pg : Nat) (bg : Nat) (cf : Nat → Option Nat) (x : Nat → Int32) (g6 : Nat → Int32) (u : Nat → Nat → Int32) (a1 : Nat) (a2 : Nat) (a3 : Nat) (a4 : Nat) (a5 : Nat) (a6 : Nat) (a7 : Nat) (th : Int32) (pk : Int32) (nc : Int32) (pp : Nat → Int32) (gg : Nat → Int32) (ee : Nat → Int32) (f1 : Nat → Int32) (f2 : Nat → Int32) (f3 : Nat → Int32) (f4 : Nat → Int32) (f5 : Nat → Int32) (f6 : Nat → Int32) (f7 : Nat → Int32) (of : Nat → Int64) (cs : List CR), Rel pk x g6 pp gg ∧ CI n nc cf f1 f2 f3 f4 f5 f6 f7 cs ∧ va_P D classes (LW cI cL cC cv pic tg ca n tb pb lb bb cb sb pg bg cf x g6 u mo a1 a2 a3 a4 a5 a6 a7 th pk nc pp gg ee f1 f2 f3 f4 f5 f6 f7 oa of cs) H ∧ va_D A (LW cI cL cC cv pic tg ca n tb pb lb bb cb sb pg bg cf x g6 u mo a1 a2 a3 a4 a5 a6 a7 th pk nc pp gg ee f1 f2 f3 f4 f5 f6 f7 oa of cs) ∧ va_S A H0 H locs ∧ lv_has ls 7 [(0, .ref b), (1, .ref cv), (2, .ref mo), (3, .ref oa), (4, .int (nI i))]
theorem lw_perm {α : Type} (a b c p q : List α) : ((a ++ b) ++ (p ++ (c ++ q))).Perm ((a ++ (c ++ b)) ++ (p ++ q)) := by
  simp only [List.append_assoc]
  refine List.Perm.append_left a ?_
  have h1 : (p ++ (c ++ q)).Perm (c ++ (p ++ q)) := List.perm_append_comm_assoc p c q
  exact (h1.append_left b).trans (List.perm_append_comm_assoc b c (p ++ q))
theorem crP_mid (cI : ClassId) (c : CR) (pre post : List CR) : crP cI (pre ++ c :: post) = crP cI pre ++ (crCells cI c ++ crP cI post) := by
  unfold crP
  rw [List.flatMap_append, List.flatMap_cons]
theorem lw_out (cI : ClassId) (a b : va_W) (c : CR) (pre post : List CR) : (pq_app (pq_app a b) (crP cI (pre ++ c :: post))).Perm (pq_app (pq_app a (pq_app (crCells cI c) b)) (pq_app (crP cI pre) (crP cI post))) := by
  rw [crP_mid]
  exact lw_perm a b (crCells cI c) (crP cI pre) (crP cI post)
theorem lw_in (cI : ClassId) (a b : va_W) (c : CR) (pre post : List CR) : (pq_app (pq_app a (pq_app (crCells cI c) b)) (pq_app (crP cI pre) (crP cI post))).Perm (pq_app (pq_app a b) (crP cI (pre ++ c :: post))) := (lw_out cI a b c pre post).symm
theorem lw_turn (a m o r : va_W) : (pq_app (pq_app a (pq_app m o)) r).Perm (pq_app (pq_app a (pq_app o m)) r) := List.Perm.append_right r (List.Perm.append_left a List.perm_append_comm)
theorem lw_addP {α : Type} (a m o c r : List α) : ((o ++ (a ++ (c ++ m))) ++ r).Perm ((a ++ (m ++ o)) ++ (r ++ c)) := by
  simp only [List.append_assoc]
  refine (List.perm_append_comm_assoc o a _).trans (List.Perm.append_left a ?_)
  have h1 : (c ++ (m ++ r)).Perm (m ++ (c ++ r)) := List.perm_append_comm_assoc c m r
  have h2 : (m ++ (c ++ r)).Perm (m ++ (r ++ c)) := List.Perm.append_left m List.perm_append_comm
  exact ((h1.trans h2).append_left o).trans (List.perm_append_comm_assoc o m _)
theorem lw_add (cI : ClassId) (a m o : va_W) (c : CR) (cs : List CR) : (pq_app (pq_app o (pq_app a (pq_app (crCells cI c) m))) (crP cI cs)).Perm (pq_app (pq_app a (pq_app m o)) (crP cI (cs ++ [c]))) := by
  have e : crP cI (cs ++ [c]) = crP cI cs ++ crCells cI c := by
    rw [crP_mid]
    show crP cI cs ++ (crCells cI c ++ []) = _
    rw [List.append_nil]
  rw [e]
  exact lw_addP a m o (crCells cI c) (crP cI cs)
theorem N_part {pk : Int32} {gg : Nat → Int32} {nc : Int32} {z1 : Int32} {z2 : Int32} {z3 : Int32} (h : fIn nc z2 = 0) : mxPart pk gg nc z1 z2 z3 = 1 := by
  unfold mxPart
  rw [if_pos h]
  try (repeat' split) <;> rfl
theorem N_level {pk : Int32} {gg : Nat → Int32} {f3 : Nat → Int32} {nc : Int32} {z1 : Int32} {z2 : Int32} {z3 : Int32} {z4 : Int32} (h : fIn nc z2 = 0) : mxLevel pk gg f3 nc z1 z2 z3 z4 = 1 := by
  unfold mxLevel
  rw [if_pos h]
  try (repeat' split) <;> rfl
theorem N_band {pk : Int32} {gg : Nat → Int32} {f3 : Nat → Int32} {nc : Int32} {z1 : Int32} {z2 : Int32} {z3 : Int32} {z4 : Int32} {z5 : Int32} (h : fIn nc z2 = 0) : mxBand pk gg f3 nc z1 z2 z3 z4 z5 = 1 := by
  unfold mxBand
  rw [if_pos h]
  try (repeat' split) <;> rfl
theorem N_precinct {pk : Int32} {pp : Nat → Int32} {gg : Nat → Int32} {f1 : Nat → Int32} {f2 : Nat → Int32} {f3 : Nat → Int32} {f6 : Nat → Int32} {f7 : Nat → Int32} {nc : Int32} {z1 : Int32} {z2 : Int32} {z3 : Int32} {z4 : Int32} {z5 : Int32} (h : fIn nc z2 = 0) : mxPrec pk pp gg f1 f2 f3 f6 f7 nc z1 z2 z3 z4 z5 = 1 := by
  unfold mxPrec
  rw [if_pos h]
  try (repeat' split) <;> rfl
theorem N_share {pk : Int32} {pp : Nat → Int32} {gg : Nat → Int32} {f1 : Nat → Int32} {f2 : Nat → Int32} {f3 : Nat → Int32} {f6 : Nat → Int32} {f7 : Nat → Int32} {nc : Int32} {z1 : Int32} {z2 : Int32} {z3 : Int32} {z4 : Int32} {z5 : Int32} {z6 : Int32} (h : fIn nc z2 = 0) : mxShare pk pp gg f1 f2 f3 f6 f7 nc z1 z2 z3 z4 z5 z6 = 1 := by
  unfold mxShare
  rw [if_pos h]
  try (repeat' split) <;> rfl
theorem N_block {pk : Int32} {pp : Nat → Int32} {gg : Nat → Int32} {f1 : Nat → Int32} {f2 : Nat → Int32} {f3 : Nat → Int32} {f4 : Nat → Int32} {f5 : Nat → Int32} {f6 : Nat → Int32} {f7 : Nat → Int32} {nc : Int32} {z1 : Int32} {z2 : Int32} {z3 : Int32} {z4 : Int32} {z5 : Int32} {z6 : Int32} {z7 : Int32} (h : fIn nc z2 = 0) : mxBlock pk pp gg f1 f2 f3 f4 f5 f6 f7 nc z1 z2 z3 z4 z5 z6 z7 = 1 := by
  unfold mxBlock
  rw [if_pos h]
  try (repeat' split) <;> rfl
theorem N_where {pk : Int32} {pp : Nat → Int32} {f1 : Nat → Int32} {f2 : Nat → Int32} {nc : Int32} {z1 : Int32} {z2 : Int32} {z3 : Int32} (h : fIn nc z1 = 0) : mxWhere pk pp f1 f2 nc z1 z2 z3 = 1 := by
  unfold mxWhere
  rw [if_pos h]
  try (repeat' split) <;> rfl
theorem N_coefficient {pk : Int32} {pp : Nat → Int32} {gg : Nat → Int32} {f1 : Nat → Int32} {f2 : Nat → Int32} {nc : Int32} {z1 : Int32} {z2 : Int32} {z3 : Int32} {z4 : Int32} {z5 : Int32} (h : fIn nc z2 = 0) : mxCoef pk pp gg f1 f2 nc z1 z2 z3 z4 z5 = 1 := by
  unfold mxCoef
  rw [if_pos h]
  try (repeat' split) <;> rfl
theorem N_coding {nc : Int32} {z1 : Int32} {z2 : Int32} {z3 : Int32} {z4 : Int32} (h : fIn nc z1 = 0) : mCod nc z1 z2 z3 z4 = 1 := by
  unfold mCod
  rw [if_pos h]
  try (repeat' split) <;> rfl
theorem N_precincts {nc : Int32} {z1 : Int32} {z2 : Int32} {z3 : Int32} {z4 : Int32} (h : fIn nc z1 = 0) : mPre nc z1 z2 z3 z4 = 1 := by
  unfold mPre
  rw [if_pos h]
  try (repeat' split) <;> rfl
