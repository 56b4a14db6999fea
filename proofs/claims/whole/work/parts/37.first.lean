/-! ===== the first that breaks a proof ===== -/
def f1 (N : Rw) : Option Nat := ff (fun l => decide (¬ (0 : Int32) ≤ slk N l)) (nL N)
def f2 (N : Rw) : Option Nat := ff (fun l => prd N l && decide (¬ slk N l = 0)) (nL N)
def f3 (N : Rw) : Option Nat := ff (fun p => lone N p && decide (¬ N (168 + p) ≤ 0)) (nP N)
def f4 (N : Rw) : Option Nat := ff (fun k => decide (¬ N (184 + k) ≤ 0) && decide (¬ hlf (N (178 + k)) ≤ pwi N (N (178 + k)))) (nK N)
theorem k31 : ((3 : Int32) ≤ 1) = False := by decide
theorem k32 : ((3 : Int32) ≤ 2) = False := by decide
theorem k33 : ((3 : Int32) ≤ 3) = True := by decide
theorem k34 : ((3 : Int32) ≤ 4) = True := by decide
theorem k21 : ((2 : Int32) = 1) = False := by decide
theorem k13 : ((1 : Int32) = 3) = False := by decide
theorem k23 : ((2 : Int32) = 3) = False := by decide
theorem k43 : ((4 : Int32) = 3) = False := by decide
theorem k14 : ((1 : Int32) = 4) = False := by decide
theorem k24 : ((2 : Int32) = 4) = False := by decide
theorem k34e : ((3 : Int32) = 4) = False := by decide
section FIRST
variable {c d : mB} {a : Nat} {N : Rw}
theorem C_first1_L (g : GI N) (s : SI N) (h : CG c a N) (hs : CS c a N) : FX4_firstLinkBelow_L2 a c mx_FU (i3 0) = some (osum (ff (fun l => decide (¬ (0 : Int32) ≤ slk N l)) (nL N))) := by
  have := g.2.1.2
  refine lp_ff (L := fun f y => FX4_firstLinkBelow_L2 a c f y) (n := nL N) (fun l => decide (¬ (0 : Int32) ≤ slk N l)) osum ?_ ?_ ?_ mx_FU (FU_lt (by omega))
  · intro f
    show FX4_firstLinkBelow_L2 a c (f + 1) (i3 (nL N)) = _
    rw [FX4_firstLinkBelow_L2]
    simp (disch := omega) only [C1 g h, Nat.le_refl, Nat.reduceAdd, osum, ob_some, mx_letI, mx_chkT, mx_inb_i3, mx_inb_lit, lit_toNat, i3_toNat, i3_le, i3_lt, i3_leL, i3_Lle, i3_ltL, i3_Llt, i3_neg, i3_eq, i3_eqL, i3_ne1, i3_add, i3_addL, i3_Ladd, i3_mul, i3_mulL, i3_Lmul, mx_b01_0, mx_b01_1, b2_01, b2_0, b2_1, se_inl, se_inr, if_true, if_false, e10, e01, e00, e11, em1, em1lt, Nat.not_lt_zero, if_pos, if_neg]
  · intro f k hk hP
    show FX4_firstLinkBelow_L2 a c (f + 1) (i3 k) = _
    rw [FX4_firstLinkBelow_L2]
    simp (disch := omega) only [C1 g h, C_slackOf_y g s h hs hk, Nat.reduceAdd, osum, ob_some, mx_letI, mx_chkT, mx_inb_i3, mx_inb_lit, lit_toNat, i3_toNat, i3_le, i3_lt, i3_leL, i3_Lle, i3_ltL, i3_Llt, i3_neg, i3_eq, i3_eqL, i3_ne1, i3_add, i3_addL, i3_Ladd, i3_mul, i3_mulL, i3_Lmul, mx_b01_0, mx_b01_1, b2_01, b2_0, b2_1, se_inl, se_inr, if_true, if_false, e10, e01, e00, e11, em1, em1lt, Nat.not_lt_zero]
    rw [if_neg (by omega), if_neg (of_decide_eq_true hP)]
  · intro f k hk hP
    show FX4_firstLinkBelow_L2 a c (f + 1) (i3 k) = FX4_firstLinkBelow_L2 a c f (i3 (k + 1))
    rw [FX4_firstLinkBelow_L2]
    simp (disch := omega) only [C1 g h, C_slackOf_y g s h hs hk, Nat.reduceAdd, osum, ob_some, mx_letI, mx_chkT, mx_inb_i3, mx_inb_lit, lit_toNat, i3_toNat, i3_le, i3_lt, i3_leL, i3_Lle, i3_ltL, i3_Llt, i3_neg, i3_eq, i3_eqL, i3_ne1, i3_add, i3_addL, i3_Ladd, i3_mul, i3_mulL, i3_Lmul, mx_b01_0, mx_b01_1, b2_01, b2_0, b2_1, se_inl, se_inr, if_true, if_false, e10, e01, e00, e11, em1, em1lt, Nat.not_lt_zero]
    rw [if_neg (by omega), if_pos (Classical.not_not.mp (of_decide_eq_false hP))]

theorem C_first1 (g : GI N) (s : SI N) (h : CG c a N) (hs : CS c a N) : FX4_firstLinkBelow a c = some (oi (f1 N)) := by
  unfold FX4_firstLinkBelow
  rw [i3_zero, C_first1_L g s h hs]
  exact osum_oi _
theorem C_first2_L (g : GI N) (s : SI N) (h : CG c a N) (hs : CS c a N) : FX4_firstLoosePair_L2 a c mx_FU (i3 0) = some (osum (ff (fun l => prd N l && decide (¬ slk N l = 0)) (nL N))) := by
  have := g.2.1.2
  refine lp_ff (L := fun f y => FX4_firstLoosePair_L2 a c f y) (n := nL N) (fun l => prd N l && decide (¬ slk N l = 0)) osum ?_ ?_ ?_ mx_FU (FU_lt (by omega))
  · intro f
    show FX4_firstLoosePair_L2 a c (f + 1) (i3 (nL N)) = _
    rw [FX4_firstLoosePair_L2]
    simp (disch := omega) only [C1 g h, Nat.le_refl, Nat.reduceAdd, osum, ob_some, mx_letI, mx_chkT, mx_inb_i3, mx_inb_lit, lit_toNat, i3_toNat, i3_le, i3_lt, i3_leL, i3_Lle, i3_ltL, i3_Llt, i3_neg, i3_eq, i3_eqL, i3_ne1, i3_add, i3_addL, i3_Ladd, i3_mul, i3_mulL, i3_Lmul, mx_b01_0, mx_b01_1, b2_01, b2_0, b2_1, se_inl, se_inr, if_true, if_false, e10, e01, e00, e11, em1, em1lt, Nat.not_lt_zero, if_pos, if_neg]
  · intro f k hk hP
    show FX4_firstLoosePair_L2 a c (f + 1) (i3 k) = _
    rw [FX4_firstLoosePair_L2]
    simp (disch := omega) only [C1 g h, C_slackOf_y g s h hs hk, C_isPair_y g h hs hk, Nat.reduceAdd, osum, ob_some, mx_letI, mx_chkT, mx_inb_i3, mx_inb_lit, lit_toNat, i3_toNat, i3_le, i3_lt, i3_leL, i3_Lle, i3_ltL, i3_Llt, i3_neg, i3_eq, i3_eqL, i3_ne1, i3_add, i3_addL, i3_Ladd, i3_mul, i3_mulL, i3_Lmul, mx_b01_0, mx_b01_1, b2_01, b2_0, b2_1, se_inl, se_inr, if_true, if_false, e10, e01, e00, e11, em1, em1lt, Nat.not_lt_zero]
    simp only [Bool.and_eq_true, decide_eq_true_eq] at hP
    rw [if_neg (by omega), hP.1]
    simp [hP.2]
  · intro f k hk hP
    show FX4_firstLoosePair_L2 a c (f + 1) (i3 k) = FX4_firstLoosePair_L2 a c f (i3 (k + 1))
    rw [FX4_firstLoosePair_L2]
    simp (disch := omega) only [C1 g h, C_slackOf_y g s h hs hk, C_isPair_y g h hs hk, Nat.reduceAdd, osum, ob_some, mx_letI, mx_chkT, mx_inb_i3, mx_inb_lit, lit_toNat, i3_toNat, i3_le, i3_lt, i3_leL, i3_Lle, i3_ltL, i3_Llt, i3_neg, i3_eq, i3_eqL, i3_ne1, i3_add, i3_addL, i3_Ladd, i3_mul, i3_mulL, i3_Lmul, mx_b01_0, mx_b01_1, b2_01, b2_0, b2_1, se_inl, se_inr, if_true, if_false, e10, e01, e00, e11, em1, em1lt, Nat.not_lt_zero]
    rw [if_neg (by omega)]
    by_cases q : prd N k = true <;> by_cases q2 : slk N k = 0 <;> simp_all

theorem C_first2 (g : GI N) (s : SI N) (h : CG c a N) (hs : CS c a N) : FX4_firstLoosePair a c = some (oi (f2 N)) := by
  unfold FX4_firstLoosePair
  rw [i3_zero, C_first2_L g s h hs]
  exact osum_oi _
theorem C_first3_L (g : GI N) (s : SI N) (h : CG c a N) (hs : CS c a N) : FX4_firstPricedLone_L2 a c mx_FU (i3 0) = some (osum (ff (fun p => lone N p && decide (¬ N (168 + p) ≤ 0)) (nP N))) := by
  have := g.1.2
  refine lp_ff (L := fun f y => FX4_firstPricedLone_L2 a c f y) (n := nP N) (fun p => lone N p && decide (¬ N (168 + p) ≤ 0)) osum ?_ ?_ ?_ mx_FU (FU_lt (by omega))
  · intro f
    show FX4_firstPricedLone_L2 a c (f + 1) (i3 (nP N)) = _
    rw [FX4_firstPricedLone_L2]
    simp (disch := omega) only [C0 g h, Nat.le_refl, Nat.reduceAdd, osum, ob_some, mx_letI, mx_chkT, mx_inb_i3, mx_inb_lit, lit_toNat, i3_toNat, i3_le, i3_lt, i3_leL, i3_Lle, i3_ltL, i3_Llt, i3_neg, i3_eq, i3_eqL, i3_ne1, i3_add, i3_addL, i3_Ladd, i3_mul, i3_mulL, i3_Lmul, mx_b01_0, mx_b01_1, b2_01, b2_0, b2_1, se_inl, se_inr, if_true, if_false, e10, e01, e00, e11, em1, em1lt, Nat.not_lt_zero, if_pos, if_neg]
  · intro f k hk hP
    show FX4_firstPricedLone_L2 a c (f + 1) (i3 k) = _
    rw [FX4_firstPricedLone_L2]
    simp (disch := omega) only [C0 g h, C_isLone_y g h hs hk, C_priceOf_y g h hs hk, Nat.reduceAdd, osum, ob_some, mx_letI, mx_chkT, mx_inb_i3, mx_inb_lit, lit_toNat, i3_toNat, i3_le, i3_lt, i3_leL, i3_Lle, i3_ltL, i3_Llt, i3_neg, i3_eq, i3_eqL, i3_ne1, i3_add, i3_addL, i3_Ladd, i3_mul, i3_mulL, i3_Lmul, mx_b01_0, mx_b01_1, b2_01, b2_0, b2_1, se_inl, se_inr, if_true, if_false, e10, e01, e00, e11, em1, em1lt, Nat.not_lt_zero]
    simp only [Bool.and_eq_true, decide_eq_true_eq, lone] at hP
    rw [if_neg (by omega)]
    simp [hP.1, hP.2]
  · intro f k hk hP
    show FX4_firstPricedLone_L2 a c (f + 1) (i3 k) = FX4_firstPricedLone_L2 a c f (i3 (k + 1))
    rw [FX4_firstPricedLone_L2]
    simp (disch := omega) only [C0 g h, C_isLone_y g h hs hk, C_priceOf_y g h hs hk, Nat.reduceAdd, osum, ob_some, mx_letI, mx_chkT, mx_inb_i3, mx_inb_lit, lit_toNat, i3_toNat, i3_le, i3_lt, i3_leL, i3_Lle, i3_ltL, i3_Llt, i3_neg, i3_eq, i3_eqL, i3_ne1, i3_add, i3_addL, i3_Ladd, i3_mul, i3_mulL, i3_Lmul, mx_b01_0, mx_b01_1, b2_01, b2_0, b2_1, se_inl, se_inr, if_true, if_false, e10, e01, e00, e11, em1, em1lt, Nat.not_lt_zero]
    rw [if_neg (by omega)]
    unfold lone at hP
    by_cases q : N (158 + k) = -1 <;> by_cases q2 : N (168 + k) ≤ 0 <;> simp_all

theorem C_first3 (g : GI N) (s : SI N) (h : CG c a N) (hs : CS c a N) : FX4_firstPricedLone a c = some (oi (f3 N)) := by
  unfold FX4_firstPricedLone
  rw [i3_zero, C_first3_L g s h hs]
  exact osum_oi _
theorem C_first4_L (g : GI N) (s : SI N) (h : CG c a N) (hs : CS c a N) : FX4_firstCrownedUnfilled_L2 a c mx_FU (i3 0) = some (osum (ff (fun k => decide (¬ N (184 + k) ≤ 0) && decide (¬ hlf (N (178 + k)) ≤ pwi N (N (178 + k)))) (nK N))) := by
  have := s.1.2
  refine lp_ff (L := fun f y => FX4_firstCrownedUnfilled_L2 a c f y) (n := nK N) (fun k => decide (¬ N (184 + k) ≤ 0) && decide (¬ hlf (N (178 + k)) ≤ pwi N (N (178 + k)))) osum ?_ ?_ ?_ mx_FU (FU_lt (by omega))
  · intro f
    show FX4_firstCrownedUnfilled_L2 a c (f + 1) (i3 (nK N)) = _
    rw [FX4_firstCrownedUnfilled_L2]
    simp (disch := omega) only [C2 s hs, Nat.le_refl, Nat.reduceAdd, osum, ob_some, mx_letI, mx_chkT, mx_inb_i3, mx_inb_lit, lit_toNat, i3_toNat, i3_le, i3_lt, i3_leL, i3_Lle, i3_ltL, i3_Llt, i3_neg, i3_eq, i3_eqL, i3_ne1, i3_add, i3_addL, i3_Ladd, i3_mul, i3_mulL, i3_Lmul, mx_b01_0, mx_b01_1, b2_01, b2_0, b2_1, se_inl, se_inr, if_true, if_false, e10, e01, e00, e11, em1, em1lt, Nat.not_lt_zero, if_pos, if_neg]
  · intro f k hk hP
    show FX4_firstCrownedUnfilled_L2 a c (f + 1) (i3 k) = _
    rw [FX4_firstCrownedUnfilled_L2]
    simp (disch := omega) only [C2 s hs, C_crownOf_y s hs hk, C_pairsWithin g s h hs hk, C_fullPairs g s hs hk, Nat.reduceAdd, osum, ob_some, mx_letI, mx_chkT, mx_inb_i3, mx_inb_lit, lit_toNat, i3_toNat, i3_le, i3_lt, i3_leL, i3_Lle, i3_ltL, i3_Llt, i3_neg, i3_eq, i3_eqL, i3_ne1, i3_add, i3_addL, i3_Ladd, i3_mul, i3_mulL, i3_Lmul, mx_b01_0, mx_b01_1, b2_01, b2_0, b2_1, se_inl, se_inr, if_true, if_false, e10, e01, e00, e11, em1, em1lt, Nat.not_lt_zero]
    simp only [Bool.and_eq_true, decide_eq_true_eq] at hP
    rw [if_neg (by omega), if_neg hP.1, if_neg hP.2]
  · intro f k hk hP
    show FX4_firstCrownedUnfilled_L2 a c (f + 1) (i3 k) = FX4_firstCrownedUnfilled_L2 a c f (i3 (k + 1))
    rw [FX4_firstCrownedUnfilled_L2]
    simp (disch := omega) only [C2 s hs, C_crownOf_y s hs hk, C_pairsWithin g s h hs hk, C_fullPairs g s hs hk, Nat.reduceAdd, osum, ob_some, mx_letI, mx_chkT, mx_inb_i3, mx_inb_lit, lit_toNat, i3_toNat, i3_le, i3_lt, i3_leL, i3_Lle, i3_ltL, i3_Llt, i3_neg, i3_eq, i3_eqL, i3_ne1, i3_add, i3_addL, i3_Ladd, i3_mul, i3_mulL, i3_Lmul, mx_b01_0, mx_b01_1, b2_01, b2_0, b2_1, se_inl, se_inr, if_true, if_false, e10, e01, e00, e11, em1, em1lt, Nat.not_lt_zero]
    rw [if_neg (by omega)]
    by_cases q : N (184 + k) ≤ 0 <;> by_cases q2 : hlf (N (178 + k)) ≤ pwi N (N (178 + k)) <;> simp_all

theorem C_first4 (g : GI N) (s : SI N) (h : CG c a N) (hs : CS c a N) : FX4_firstCrownedUnfilled a c = some (oi (f4 N)) := by
  unfold FX4_firstCrownedUnfilled
  rw [i3_zero, C_first4_L g s h hs]
  exact osum_oi _
theorem M_br1_L (g : GI N) (s : SI N) (h : d.1 224 = N) : FX12_breaks_L2 222 1 d mx_FU (i3 0) = some (osum (ff (fun l => decide (¬ (0 : Int32) ≤ slk N l)) (nL N))) := by
  have := g.2.1.2
  refine lp_ff (L := fun f y => FX12_breaks_L2 222 1 d f y) (n := nL N) (fun l => decide (¬ (0 : Int32) ≤ slk N l)) osum ?_ ?_ ?_ mx_FU (FU_lt (by omega))
  · intro f
    show FX12_breaks_L2 222 1 d (f + 1) (i3 (nL N)) = _
    rw [FX12_breaks_L2]
    simp (disch := omega) only [h, N1 g, k31, Nat.le_refl, Nat.reduceAdd, osum, ob_some, mx_letI, mx_chkT, mx_inb_i3, mx_inb_lit, lit_toNat, i3_toNat, i3_le, i3_lt, i3_leL, i3_Lle, i3_ltL, i3_Llt, i3_neg, i3_eq, i3_eqL, i3_ne1, i3_add, i3_addL, i3_Ladd, i3_mul, i3_mulL, i3_Lmul, mx_b01_0, mx_b01_1, b2_01, b2_0, b2_1, se_inl, se_inr, if_true, if_false, e10, e01, e00, e11, em1, em1lt, Nat.not_lt_zero, if_pos, if_neg]
  · intro f k hk hP
    show FX12_breaks_L2 222 1 d (f + 1) (i3 k) = _
    rw [FX12_breaks_L2]
    simp (disch := omega) only [h, N1 g, k31, M_slackOf_y g s h hk, Nat.reduceAdd, osum, ob_some, mx_letI, mx_chkT, mx_inb_i3, mx_inb_lit, lit_toNat, i3_toNat, i3_le, i3_lt, i3_leL, i3_Lle, i3_ltL, i3_Llt, i3_neg, i3_eq, i3_eqL, i3_ne1, i3_add, i3_addL, i3_Ladd, i3_mul, i3_mulL, i3_Lmul, mx_b01_0, mx_b01_1, b2_01, b2_0, b2_1, se_inl, se_inr, if_true, if_false, e10, e01, e00, e11, em1, em1lt, Nat.not_lt_zero]
    rw [if_neg (by omega), if_neg (of_decide_eq_true hP)]
  · intro f k hk hP
    show FX12_breaks_L2 222 1 d (f + 1) (i3 k) = FX12_breaks_L2 222 1 d f (i3 (k + 1))
    rw [FX12_breaks_L2]
    simp (disch := omega) only [h, N1 g, k31, M_slackOf_y g s h hk, Nat.reduceAdd, osum, ob_some, mx_letI, mx_chkT, mx_inb_i3, mx_inb_lit, lit_toNat, i3_toNat, i3_le, i3_lt, i3_leL, i3_Lle, i3_ltL, i3_Llt, i3_neg, i3_eq, i3_eqL, i3_ne1, i3_add, i3_addL, i3_Ladd, i3_mul, i3_mulL, i3_Lmul, mx_b01_0, mx_b01_1, b2_01, b2_0, b2_1, se_inl, se_inr, if_true, if_false, e10, e01, e00, e11, em1, em1lt, Nat.not_lt_zero]
    rw [if_neg (by omega), if_pos (Classical.not_not.mp (of_decide_eq_false hP))]

theorem M_br2_L (g : GI N) (s : SI N) (h : d.1 224 = N) : FX12_breaks_L2 222 2 d mx_FU (i3 0) = some (osum (ff (fun l => prd N l && decide (¬ slk N l = 0)) (nL N))) := by
  have := g.2.1.2
  refine lp_ff (L := fun f y => FX12_breaks_L2 222 2 d f y) (n := nL N) (fun l => prd N l && decide (¬ slk N l = 0)) osum ?_ ?_ ?_ mx_FU (FU_lt (by omega))
  · intro f
    show FX12_breaks_L2 222 2 d (f + 1) (i3 (nL N)) = _
    rw [FX12_breaks_L2]
    simp (disch := omega) only [h, N1 g, k32, k21, Nat.le_refl, Nat.reduceAdd, osum, ob_some, mx_letI, mx_chkT, mx_inb_i3, mx_inb_lit, lit_toNat, i3_toNat, i3_le, i3_lt, i3_leL, i3_Lle, i3_ltL, i3_Llt, i3_neg, i3_eq, i3_eqL, i3_ne1, i3_add, i3_addL, i3_Ladd, i3_mul, i3_mulL, i3_Lmul, mx_b01_0, mx_b01_1, b2_01, b2_0, b2_1, se_inl, se_inr, if_true, if_false, e10, e01, e00, e11, em1, em1lt, Nat.not_lt_zero, if_pos, if_neg]
  · intro f k hk hP
    show FX12_breaks_L2 222 2 d (f + 1) (i3 k) = _
    rw [FX12_breaks_L2]
    simp (disch := omega) only [h, N1 g, k32, k21, M_slackOf_y g s h hk, M_isOfPair_y g h hk, Nat.reduceAdd, osum, ob_some, mx_letI, mx_chkT, mx_inb_i3, mx_inb_lit, lit_toNat, i3_toNat, i3_le, i3_lt, i3_leL, i3_Lle, i3_ltL, i3_Llt, i3_neg, i3_eq, i3_eqL, i3_ne1, i3_add, i3_addL, i3_Ladd, i3_mul, i3_mulL, i3_Lmul, mx_b01_0, mx_b01_1, b2_01, b2_0, b2_1, se_inl, se_inr, if_true, if_false, e10, e01, e00, e11, em1, em1lt, Nat.not_lt_zero]
    simp only [Bool.and_eq_true, decide_eq_true_eq] at hP
    rw [if_neg (by omega), hP.1]
    simp [hP.2]
  · intro f k hk hP
    show FX12_breaks_L2 222 2 d (f + 1) (i3 k) = FX12_breaks_L2 222 2 d f (i3 (k + 1))
    rw [FX12_breaks_L2]
    simp (disch := omega) only [h, N1 g, k32, k21, M_slackOf_y g s h hk, M_isOfPair_y g h hk, Nat.reduceAdd, osum, ob_some, mx_letI, mx_chkT, mx_inb_i3, mx_inb_lit, lit_toNat, i3_toNat, i3_le, i3_lt, i3_leL, i3_Lle, i3_ltL, i3_Llt, i3_neg, i3_eq, i3_eqL, i3_ne1, i3_add, i3_addL, i3_Ladd, i3_mul, i3_mulL, i3_Lmul, mx_b01_0, mx_b01_1, b2_01, b2_0, b2_1, se_inl, se_inr, if_true, if_false, e10, e01, e00, e11, em1, em1lt, Nat.not_lt_zero]
    rw [if_neg (by omega)]
    by_cases q : prd N k = true <;> by_cases q2 : slk N k = 0 <;> simp_all

theorem M_br3_L (g : GI N) (s : SI N) (h : d.1 224 = N) : FX12_breaks_L59 222 3 d mx_FU (i3 0) = some (osum (ff (fun p => lone N p && decide (¬ N (168 + p) ≤ 0)) (nP N))) := by
  have := g.1.2
  refine lp_ff (L := fun f y => FX12_breaks_L59 222 3 d f y) (n := nP N) (fun p => lone N p && decide (¬ N (168 + p) ≤ 0)) osum ?_ ?_ ?_ mx_FU (FU_lt (by omega))
  · intro f
    show FX12_breaks_L59 222 3 d (f + 1) (i3 (nP N)) = _
    rw [FX12_breaks_L59]
    simp (disch := omega) only [h, N0 g, Nat.le_refl, Nat.reduceAdd, osum, ob_some, mx_letI, mx_chkT, mx_inb_i3, mx_inb_lit, lit_toNat, i3_toNat, i3_le, i3_lt, i3_leL, i3_Lle, i3_ltL, i3_Llt, i3_neg, i3_eq, i3_eqL, i3_ne1, i3_add, i3_addL, i3_Ladd, i3_mul, i3_mulL, i3_Lmul, mx_b01_0, mx_b01_1, b2_01, b2_0, b2_1, se_inl, se_inr, if_true, if_false, e10, e01, e00, e11, em1, em1lt, Nat.not_lt_zero, if_pos, if_neg]
  · intro f k hk hP
    show FX12_breaks_L59 222 3 d (f + 1) (i3 k) = _
    rw [FX12_breaks_L59]
    simp (disch := omega) only [h, N0 g, M_isLone_y g h hk, Nat.reduceAdd, osum, ob_some, mx_letI, mx_chkT, mx_inb_i3, mx_inb_lit, lit_toNat, i3_toNat, i3_le, i3_lt, i3_leL, i3_Lle, i3_ltL, i3_Llt, i3_neg, i3_eq, i3_eqL, i3_ne1, i3_add, i3_addL, i3_Ladd, i3_mul, i3_mulL, i3_Lmul, mx_b01_0, mx_b01_1, b2_01, b2_0, b2_1, se_inl, se_inr, if_true, if_false, e10, e01, e00, e11, em1, em1lt, Nat.not_lt_zero]
    simp only [Bool.and_eq_true, decide_eq_true_eq] at hP
    rw [if_neg (by omega)]
    simp [hP.1, hP.2]
  · intro f k hk hP
    show FX12_breaks_L59 222 3 d (f + 1) (i3 k) = FX12_breaks_L59 222 3 d f (i3 (k + 1))
    rw [FX12_breaks_L59]
    simp (disch := omega) only [h, N0 g, M_isLone_y g h hk, Nat.reduceAdd, osum, ob_some, mx_letI, mx_chkT, mx_inb_i3, mx_inb_lit, lit_toNat, i3_toNat, i3_le, i3_lt, i3_leL, i3_Lle, i3_ltL, i3_Llt, i3_neg, i3_eq, i3_eqL, i3_ne1, i3_add, i3_addL, i3_Ladd, i3_mul, i3_mulL, i3_Lmul, mx_b01_0, mx_b01_1, b2_01, b2_0, b2_1, se_inl, se_inr, if_true, if_false, e10, e01, e00, e11, em1, em1lt, Nat.not_lt_zero]
    rw [if_neg (by omega)]
    by_cases q : lone N k = true <;> by_cases q2 : N (168 + k) ≤ 0 <;> simp_all

theorem M_br4_L (g : GI N) (s : SI N) (h : d.1 224 = N) : FX12_breaks_L105 222 4 d mx_FU (i3 0) = some (osum (ff (fun k => decide (¬ N (184 + k) ≤ 0) && decide (¬ hlf (N (178 + k)) ≤ pwi N (N (178 + k)))) (nK N))) := by
  have := s.1.2
  refine lp_ff (L := fun f y => FX12_breaks_L105 222 4 d f y) (n := nK N) (fun k => decide (¬ N (184 + k) ≤ 0) && decide (¬ hlf (N (178 + k)) ≤ pwi N (N (178 + k)))) osum ?_ ?_ ?_ mx_FU (FU_lt (by omega))
  · intro f
    show FX12_breaks_L105 222 4 d (f + 1) (i3 (nK N)) = _
    rw [FX12_breaks_L105]
    simp (disch := omega) only [h, N125 s, Nat.le_refl, Nat.reduceAdd, osum, ob_some, mx_letI, mx_chkT, mx_inb_i3, mx_inb_lit, lit_toNat, i3_toNat, i3_le, i3_lt, i3_leL, i3_Lle, i3_ltL, i3_Llt, i3_neg, i3_eq, i3_eqL, i3_ne1, i3_add, i3_addL, i3_Ladd, i3_mul, i3_mulL, i3_Lmul, mx_b01_0, mx_b01_1, b2_01, b2_0, b2_1, se_inl, se_inr, if_true, if_false, e10, e01, e00, e11, em1, em1lt, Nat.not_lt_zero, if_pos, if_neg]
  · intro f k hk hP
    show FX12_breaks_L105 222 4 d (f + 1) (i3 k) = _
    rw [FX12_breaks_L105]
    simp (disch := omega) only [h, N125 s, M_pairsIn g s h, Nat.reduceAdd, osum, ob_some, mx_letI, mx_chkT, mx_inb_i3, mx_inb_lit, lit_toNat, i3_toNat, i3_le, i3_lt, i3_leL, i3_Lle, i3_ltL, i3_Llt, i3_neg, i3_eq, i3_eqL, i3_ne1, i3_add, i3_addL, i3_Ladd, i3_mul, i3_mulL, i3_Lmul, mx_b01_0, mx_b01_1, b2_01, b2_0, b2_1, se_inl, se_inr, if_true, if_false, e10, e01, e00, e11, em1, em1lt, Nat.not_lt_zero]
    obtain ⟨u, h1, h2, -, h3⟩ := set_lt g s hk
    have h4 := @pc_le u
    simp only [Bool.and_eq_true, decide_eq_true_eq] at hP
    rw [if_neg (by omega)]
    simp (disch := omega) only [hlf, h1, M_bits _ h2, i3_divL, i3_toNat, ob_some] at hP ⊢
    simp [hP.1, hP.2]
  · intro f k hk hP
    show FX12_breaks_L105 222 4 d (f + 1) (i3 k) = FX12_breaks_L105 222 4 d f (i3 (k + 1))
    rw [FX12_breaks_L105]
    simp (disch := omega) only [h, N125 s, M_pairsIn g s h, Nat.reduceAdd, osum, ob_some, mx_letI, mx_chkT, mx_inb_i3, mx_inb_lit, lit_toNat, i3_toNat, i3_le, i3_lt, i3_leL, i3_Lle, i3_ltL, i3_Llt, i3_neg, i3_eq, i3_eqL, i3_ne1, i3_add, i3_addL, i3_Ladd, i3_mul, i3_mulL, i3_Lmul, mx_b01_0, mx_b01_1, b2_01, b2_0, b2_1, se_inl, se_inr, if_true, if_false, e10, e01, e00, e11, em1, em1lt, Nat.not_lt_zero]
    obtain ⟨u, h1, h2, -, h3⟩ := set_lt g s hk
    have h4 := @pc_le u
    rw [if_neg (by omega)]
    simp (disch := omega) only [hlf, h1, M_bits _ h2, i3_divL, i3_toNat, ob_some] at hP ⊢
    by_cases q : N (184 + k) ≤ 0 <;> by_cases q2 : i3 (pc u / 2) ≤ pwi N (i3 u) <;> simp_all

theorem M_brn2 (y : Int32) (h3 : (3 : Int32) ≤ y) (f : Nat) (z : Int32) : FX12_breaks_L2 222 y d (f + 1) z = some (.inr ()) := by
  rw [FX12_breaks_L2]
  split
  · rfl
  · rfl
theorem M_brn3 (y : Int32) (h3 : ¬ y = 3) (f : Nat) (z : Int32) : FX12_breaks_L59 222 y d (f + 1) z = some (.inr ()) := by
  rw [FX12_breaks_L59]
  split
  · rfl
  · rfl
theorem M_brn4 (y : Int32) (h3 : ¬ y = 4) (f : Nat) (z : Int32) : FX12_breaks_L105 222 y d (f + 1) z = some (.inr ()) := by
  rw [FX12_breaks_L105]
  split
  · rfl
  · rfl
theorem osum_e {β : Type} (o : Option Nat) (k : Option Int32) : Sum.elim (fun rr => some rr) (fun (_ : Unit) => k) (osum o) = match o with | some l => some (i3 l) | none => k := by cases o <;> rfl
theorem M_breaks1 (g : GI N) (s : SI N) (h : d.1 224 = N) : FX12_breaks 222 1 d = some (oi (f1 N)) := by
  have e := M_br1_L g s h
  unfold FX12_breaks
  rw [mx_FU_eq] at e ⊢
  rw [i3_zero, e, M_brn3 1 (by decide), M_brn4 1 (by decide)]
  simp only [ob_some, se_inr, osum_e (β := Unit)]
  unfold f1 oi
  split <;> simp_all
theorem M_breaks2 (g : GI N) (s : SI N) (h : d.1 224 = N) : FX12_breaks 222 2 d = some (oi (f2 N)) := by
  have e := M_br2_L g s h
  unfold FX12_breaks
  rw [mx_FU_eq] at e ⊢
  rw [i3_zero, e, M_brn3 2 (by decide), M_brn4 2 (by decide)]
  simp only [ob_some, se_inr, osum_e (β := Unit)]
  unfold f2 oi
  split <;> simp_all
theorem M_breaks3 (g : GI N) (s : SI N) (h : d.1 224 = N) : FX12_breaks 222 3 d = some (oi (f3 N)) := by
  have e := M_br3_L g s h
  unfold FX12_breaks
  rw [mx_FU_eq] at e ⊢
  rw [i3_zero, M_brn2 3 (by decide), e, M_brn4 3 (by decide)]
  simp only [ob_some, se_inr, osum_e (β := Unit)]
  unfold f3 oi
  split <;> simp_all
theorem M_breaks4 (g : GI N) (s : SI N) (h : d.1 224 = N) : FX12_breaks 222 4 d = some (oi (f4 N)) := by
  have e := M_br4_L g s h
  unfold FX12_breaks
  rw [mx_FU_eq] at e ⊢
  rw [i3_zero, M_brn2 4 (by decide), M_brn3 4 (by decide), e]
  simp only [ob_some, se_inr, osum_e (β := Unit)]
  unfold f4 oi
  split <;> simp_all
end FIRST
