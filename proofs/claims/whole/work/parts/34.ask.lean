/-! ===== what is asked of a network: the reference's row, and the class ===== -/
def lone (N : Rw) (p : Nat) : Bool := decide (N (158 + p) = -1)
def prd (N : Rw) (l : Nat) : Bool := decide (N (158 + nA N l) = i3 (nB N l))
def slk (N : Rw) (l : Nat) : Int32 := fo (fun k s => if (bt (N (178 + k)) (nA N l) && bt (N (178 + k)) (nB N l)) = true then s + N (184 + k) else s) (nK N) (N (168 + nA N l) + N (168 + nB N l) - 2 * N (128 + l))
def tot (N : Rw) : Int32 := fo (fun l s => if prd N l = true then s + N (128 + l) else s) (nL N) 0
theorem FU_lt {n : Nat} (h : n < 100000) : n < mx_FU := h
theorem mx_FU_eq : mx_FU = 99999 + 1 := rfl
theorem i3_ge0 {k : Nat} (h : k < 2147483648) : ¬ i3 k < 0 := by rw [i3_neg h]; exact not_false
theorem N0 {N : Rw} (g : GI N) : N 0 = i3 (nP N) := g.1.1
theorem N1 {N : Rw} (g : GI N) : N 1 = i3 (nL N) := g.2.1.1
theorem N125 {N : Rw} (s : SI N) : N 125 = i3 (nK N) := s.1.1
theorem NA {N : Rw} (g : GI N) {l : Nat} (hl : l < nL N) : N (3 + l) = i3 (nA N l) := (g.2.2.1 l hl).1
theorem NB {N : Rw} (g : GI N) {l : Nat} (hl : l < nL N) : N (33 + l) = i3 (nB N l) := (g.2.2.1 l hl).2.1
theorem nA_lt {N : Rw} (g : GI N) {l : Nat} (hl : l < nL N) : nA N l < nP N := (g.2.2.1 l hl).2.2.1
theorem nB_lt {N : Rw} (g : GI N) {l : Nat} (hl : l < nL N) : nB N l < nP N := (g.2.2.1 l hl).2.2.2.1
theorem m1_ne (n : Nat) (hn : n < 2147483648) : ∀ k, k < n → (-1 : Int32) ≠ i3 k := fun k hk e => by
  have h2 := i3_ne1 (a := k) (by omega)
  rw [← e] at h2
  exact h2.mp rfl
section ASK
variable {c d : mB} {a : Nat} {N : Rw}
/-! the reference -/
theorem M_has (x : Int32) {k : Nat} (hk : k < 32) (d : mB) : FX12_has x (i3 k) d = some (b2 (bt x k)) := by
  unfold FX12_has
  simp (disch := omega) only [bt_sh1]
  rw [sm_ite]
  rfl
theorem M_isIn_y {n k lo : Nat} (h : lo ≤ k) (h2 : k ≤ n) (hn : n < 2147483648) (d : mB) : FX12_isIn (i3 k) (i3 lo) (i3 n) d = some 1 := by
  unfold FX12_isIn
  simp (disch := omega) only [ob_some, mx_letI, mx_chkT, mx_inb_i3, mx_inb_lit, lit_toNat, i3_toNat, i3_le, i3_lt, i3_leL, i3_Lle, i3_ltL, i3_Llt, i3_neg, i3_eq, i3_eqL, i3_ne1, i3_add, i3_addL, i3_Ladd, i3_mul, i3_mulL, i3_Lmul, mx_b01_0, mx_b01_1, b2_01, b2_0, b2_1, se_inl, se_inr, if_true, if_false, e10, e01, e00, e11, em1, em1lt, Nat.not_lt_zero, if_pos, if_neg]
theorem i3_m1 (n : Nat) : i3 (n + 1) - 1 = i3 n := i3_sub (a := n + 1) (b := 1) (by omega)
theorem i3_0m1 : i3 0 - 1 = -1 := by decide
theorem M_isIn_n {n : Nat} (hn : n < 2147483648) {x : Int32} (hx : ∀ k, k < n → x ≠ i3 k) (d : mB) : FX12_isIn x 0 (i3 n - 1) d = some 0 := by
  unfold FX12_isIn
  rcases hasN hx hn with q | ⟨k, rfl, hk, hk2⟩
  · rw [if_pos q]
  · rw [if_neg (i3_ge0 hk2)]
    cases n with
    | zero =>
      rw [i3_0m1, if_pos]
      rw [Int32.lt_iff_toInt_lt, i3_toInt hk2]
      have : (-1 : Int32).toInt = -1 := by decide
      omega
    | succ n =>
      rw [i3_m1, if_pos ((i3_lt (by omega) hk2).mpr (by omega))]
theorem M_isIn_y0 {n k : Nat} (h2 : k < n) (hn : n < 2147483648) (d : mB) : FX12_isIn (i3 k) 0 (i3 n - 1) d = some 1 := by
  cases n with
  | zero => omega
  | succ n => rw [i3_m1]; exact M_isIn_y (lo := 0) (by omega) (by omega) (by omega) d
theorem M_isPoint_y (g : GI N) (h : d.1 224 = N) {p : Nat} (hp : p < nP N) : FX12_isPoint 222 (i3 p) d = some 1 := by
  have := g.1.2
  unfold FX12_isPoint
  simp (disch := omega) only [h, N0 g, M_isIn_y0, Nat.reduceAdd, ob_some, mx_letI, mx_chkT, mx_inb_i3, mx_inb_lit, lit_toNat, i3_toNat, i3_le, i3_lt, i3_leL, i3_Lle, i3_ltL, i3_Llt, i3_neg, i3_eq, i3_eqL, i3_ne1, i3_add, i3_addL, i3_Ladd, i3_mul, i3_mulL, i3_Lmul, mx_b01_0, mx_b01_1, b2_01, b2_0, b2_1, se_inl, se_inr, if_true, if_false, e10, e01, e00, e11, em1, em1lt, Nat.not_lt_zero]
theorem M_isPoint_n (g : GI N) (h : d.1 224 = N) {x : Int32} (hx : ∀ k, k < nP N → x ≠ i3 k) : FX12_isPoint 222 x d = some 0 := by
  have := g.1.2
  unfold FX12_isPoint
  simp (disch := omega) only [h, N0 g, M_isIn_n (n := nP N) (by omega) hx, Nat.reduceAdd, ob_some, mx_letI, mx_chkT, mx_inb_i3, mx_inb_lit, lit_toNat, i3_toNat, i3_le, i3_lt, i3_leL, i3_Lle, i3_ltL, i3_Llt, i3_neg, i3_eq, i3_eqL, i3_ne1, i3_add, i3_addL, i3_Ladd, i3_mul, i3_mulL, i3_Lmul, mx_b01_0, mx_b01_1, b2_01, b2_0, b2_1, se_inl, se_inr, if_true, if_false, e10, e01, e00, e11, em1, em1lt, Nat.not_lt_zero]
theorem M_isLink_y (g : GI N) (h : d.1 224 = N) {p : Nat} (hp : p < nL N) : FX12_isLink 222 (i3 p) d = some 1 := by
  have := g.2.1.2
  unfold FX12_isLink
  simp (disch := omega) only [h, N1 g, M_isIn_y0, Nat.reduceAdd, ob_some, mx_letI, mx_chkT, mx_inb_i3, mx_inb_lit, lit_toNat, i3_toNat, i3_le, i3_lt, i3_leL, i3_Lle, i3_ltL, i3_Llt, i3_neg, i3_eq, i3_eqL, i3_ne1, i3_add, i3_addL, i3_Ladd, i3_mul, i3_mulL, i3_Lmul, mx_b01_0, mx_b01_1, b2_01, b2_0, b2_1, se_inl, se_inr, if_true, if_false, e10, e01, e00, e11, em1, em1lt, Nat.not_lt_zero]
theorem M_isLink_n (g : GI N) (h : d.1 224 = N) {x : Int32} (hx : ∀ k, k < nL N → x ≠ i3 k) : FX12_isLink 222 x d = some 0 := by
  have := g.2.1.2
  unfold FX12_isLink
  simp (disch := omega) only [h, N1 g, M_isIn_n (n := nL N) (by omega) hx, Nat.reduceAdd, ob_some, mx_letI, mx_chkT, mx_inb_i3, mx_inb_lit, lit_toNat, i3_toNat, i3_le, i3_lt, i3_leL, i3_Lle, i3_ltL, i3_Llt, i3_neg, i3_eq, i3_eqL, i3_ne1, i3_add, i3_addL, i3_Ladd, i3_mul, i3_mulL, i3_Lmul, mx_b01_0, mx_b01_1, b2_01, b2_0, b2_1, se_inl, se_inr, if_true, if_false, e10, e01, e00, e11, em1, em1lt, Nat.not_lt_zero]
theorem M_isOdd_y (s : SI N) (h : d.1 224 = N) {p : Nat} (hp : p < nK N) : FX12_isOdd 222 (i3 p) d = some 1 := by
  have := s.1.2
  unfold FX12_isOdd
  simp (disch := omega) only [h, N125 s, M_isIn_y0, Nat.reduceAdd, ob_some, mx_letI, mx_chkT, mx_inb_i3, mx_inb_lit, lit_toNat, i3_toNat, i3_le, i3_lt, i3_leL, i3_Lle, i3_ltL, i3_Llt, i3_neg, i3_eq, i3_eqL, i3_ne1, i3_add, i3_addL, i3_Ladd, i3_mul, i3_mulL, i3_Lmul, mx_b01_0, mx_b01_1, b2_01, b2_0, b2_1, se_inl, se_inr, if_true, if_false, e10, e01, e00, e11, em1, em1lt, Nat.not_lt_zero]
theorem M_isOdd_n (s : SI N) (h : d.1 224 = N) {x : Int32} (hx : ∀ k, k < nK N → x ≠ i3 k) : FX12_isOdd 222 x d = some 0 := by
  have := s.1.2
  unfold FX12_isOdd
  simp (disch := omega) only [h, N125 s, M_isIn_n (n := nK N) (by omega) hx, Nat.reduceAdd, ob_some, mx_letI, mx_chkT, mx_inb_i3, mx_inb_lit, lit_toNat, i3_toNat, i3_le, i3_lt, i3_leL, i3_Lle, i3_ltL, i3_Llt, i3_neg, i3_eq, i3_eqL, i3_ne1, i3_add, i3_addL, i3_Ladd, i3_mul, i3_mulL, i3_Lmul, mx_b01_0, mx_b01_1, b2_01, b2_0, b2_1, se_inl, se_inr, if_true, if_false, e10, e01, e00, e11, em1, em1lt, Nat.not_lt_zero]
theorem M_linkIn (g : GI N) {q0 w0 : Nat} (h : d.1 q0 = N) (hw : 63 ≤ w0) (hw2 : w0 < 1000) {p q : Nat} (hp : p < 2147483648) (hq : q < 2147483648) : FX12_linkIn q0 w0 (i3 p) (i3 q) d = some (oi (li N p q)) := by
  have := g.2.1.2
  have e : FX12_linkIn_L2 q0 w0 (i3 p) (i3 q) d mx_FU (i3 0) = some ((fun o => match o with | some l => Sum.inl (i3 l) | none => Sum.inr ()) (li N p q)) := by
    refine lp_ff (L := fun f y => FX12_linkIn_L2 q0 w0 (i3 p) (i3 q) d f y) (n := nL N) (lm N p q) (fun o => match o with | some l => Sum.inl (i3 l) | none => Sum.inr ()) ?_ ?_ ?_ mx_FU (FU_lt (by omega))
    · intro f
      show FX12_linkIn_L2 q0 w0 (i3 p) (i3 q) d (f + 1) (i3 (nL N)) = _
      rw [FX12_linkIn_L2]
      simp (disch := omega) only [h, N1 g, Nat.le_refl, ob_some, mx_letI, mx_chkT, mx_inb_i3, mx_inb_lit, lit_toNat, i3_toNat, i3_le, i3_lt, i3_leL, i3_Lle, i3_ltL, i3_Llt, i3_neg, i3_eq, i3_eqL, i3_ne1, i3_add, i3_addL, i3_Ladd, i3_mul, i3_mulL, i3_Lmul, mx_b01_0, mx_b01_1, b2_01, b2_0, b2_1, se_inl, se_inr, if_true, if_false, e10, e01, e00, e11, em1, em1lt, Nat.not_lt_zero, if_pos, if_neg]
    · intro f k hk hP
      show FX12_linkIn_L2 q0 w0 (i3 p) (i3 q) d (f + 1) (i3 k) = _
      rw [FX12_linkIn_L2]
      have hA := nA_lt g hk
      have hB := nB_lt g hk
      have := g.1.2
      simp (disch := omega) only [h, N1 g, NA g hk, NB g hk, ob_some, mx_letI, mx_chkT, mx_inb_i3, mx_inb_lit, lit_toNat, i3_toNat, i3_le, i3_lt, i3_leL, i3_Lle, i3_ltL, i3_Llt, i3_neg, i3_eq, i3_eqL, i3_ne1, i3_add, i3_addL, i3_Ladd, i3_mul, i3_mulL, i3_Lmul, mx_b01_0, mx_b01_1, b2_01, b2_0, b2_1, se_inl, se_inr, if_true, if_false, e10, e01, e00, e11, em1, em1lt, Nat.not_lt_zero]
      rw [if_neg (by omega)]
      rw [lm_iff] at hP
      rcases hP with ⟨h1, h2⟩ | ⟨h1, h2⟩
      · rw [if_pos h1, if_pos h2]
      · rw [if_pos h1, if_pos h2]
        split
        · split <;> rfl
        · rfl
    · intro f k hk hP
      show FX12_linkIn_L2 q0 w0 (i3 p) (i3 q) d (f + 1) (i3 k) = _
      rw [FX12_linkIn_L2]
      have hA := nA_lt g hk
      have hB := nB_lt g hk
      have := g.1.2
      simp (disch := omega) only [h, N1 g, NA g hk, NB g hk, ob_some, mx_letI, mx_chkT, mx_inb_i3, mx_inb_lit, lit_toNat, i3_toNat, i3_le, i3_lt, i3_leL, i3_Lle, i3_ltL, i3_Llt, i3_neg, i3_eq, i3_eqL, i3_ne1, i3_add, i3_addL, i3_Ladd, i3_mul, i3_mulL, i3_Lmul, mx_b01_0, mx_b01_1, b2_01, b2_0, b2_1, se_inl, se_inr, if_true, if_false, e10, e01, e00, e11, em1, em1lt, Nat.not_lt_zero]
      rw [if_neg (by omega)]
      have hn : ¬ (nA N k = p ∧ nB N k = q ∨ nA N k = q ∧ nB N k = p) := by
        rw [← lm_iff, hP]; decide
      split
      · split
        · omega
        · split
          · split
            · omega
            · rfl
          · rfl
      · split
        · split
          · omega
          · rfl
        · rfl
  unfold FX12_linkIn
  rw [i3_zero, e]
  cases li N p q <;> rfl
theorem M_between (g : GI N) (h : d.1 224 = N) {p q : Nat} (hp : p < 2147483648) (hq : q < 2147483648) : FX12_between 222 (i3 p) (i3 q) d = some (oi (li N p q)) := by
  unfold FX12_between
  rw [M_linkIn g (N := N) h (by omega) (by omega) hp hq]
  rfl
theorem M_areLinked (g : GI N) (h : d.1 224 = N) {p q : Nat} (hp : p < 2147483648) (hq : q < 2147483648) : FX12_areLinked 222 (i3 p) (i3 q) d = some (b2 (lk N p q)) := by
  unfold FX12_areLinked
  rw [M_between g h hp hq]
  simp only [ob_some]
  simp only [oi_ne _ (fun l e => li_lt g e)]
  rw [sm_ite]
  unfold lk
  cases li N p q <;> rfl
theorem M_isLone_y (g : GI N) (h : d.1 224 = N) {p : Nat} (hp : p < nP N) : FX12_isLone 222 (i3 p) d = some (b2 (lone N p)) := by
  have := g.1.2
  unfold FX12_isLone
  simp (disch := omega) only [h, Nat.reduceAdd, ob_some, mx_letI, mx_chkT, mx_inb_i3, mx_inb_lit, lit_toNat, i3_toNat, i3_le, i3_lt, i3_leL, i3_Lle, i3_ltL, i3_Llt, i3_neg, i3_eq, i3_eqL, i3_ne1, i3_add, i3_addL, i3_Ladd, i3_mul, i3_mulL, i3_Lmul, mx_b01_0, mx_b01_1, b2_01, b2_0, b2_1, se_inl, se_inr, if_true, if_false, e10, e01, e00, e11, em1, em1lt, Nat.not_lt_zero]
  rw [sm_ite]
  unfold lone b2
  simp only [decide_eq_true_eq]
theorem M_arePaired_y (g : GI N) (h : d.1 224 = N) {p : Nat} (hp : p < nP N) (x : Int32) : FX12_arePaired 222 (i3 p) x d = some (b2 (decide (N (158 + p) = x))) := by
  have := g.1.2
  unfold FX12_arePaired
  simp (disch := omega) only [h, Nat.reduceAdd, ob_some, mx_letI, mx_chkT, mx_inb_i3, mx_inb_lit, lit_toNat, i3_toNat, i3_le, i3_lt, i3_leL, i3_Lle, i3_ltL, i3_Llt, i3_neg, i3_eq, i3_eqL, i3_ne1, i3_add, i3_addL, i3_Ladd, i3_mul, i3_mulL, i3_Lmul, mx_b01_0, mx_b01_1, b2_01, b2_0, b2_1, se_inl, se_inr, if_true, if_false, e10, e01, e00, e11, em1, em1lt, Nat.not_lt_zero]
  rw [sm_ite]
  unfold b2
  simp only [decide_eq_true_eq]
theorem M_isOfPair_y (g : GI N) (h : d.1 224 = N) {l : Nat} (hl : l < nL N) : FX12_isOfPair 222 (i3 l) d = some (b2 (prd N l)) := by
  have := g.1.2
  have := g.2.1.2
  have := nA_lt g hl
  unfold FX12_isOfPair
  simp (disch := omega) only [h, Nat.reduceAdd, NA g hl, NB g hl, M_arePaired_y g h, ob_some, mx_letI, mx_chkT, mx_inb_i3, mx_inb_lit, lit_toNat, i3_toNat, i3_le, i3_lt, i3_leL, i3_Lle, i3_ltL, i3_Llt, i3_neg, i3_eq, i3_eqL, i3_ne1, i3_add, i3_addL, i3_Ladd, i3_mul, i3_mulL, i3_Lmul, mx_b01_0, mx_b01_1, b2_01, b2_0, b2_1, se_inl, se_inr, if_true, if_false, e10, e01, e00, e11, em1, em1lt, Nat.not_lt_zero]
  rfl
theorem M_isAt_y (g : GI N) (h : d.1 224 = N) {l p : Nat} (hl : l < nL N) (hp : p < 2147483648) : FX12_isAt 222 (i3 l) (i3 p) d = some (b2 (decide (nA N l = p ∨ nB N l = p))) := by
  have := g.1.2
  have := g.2.1.2
  have := nA_lt g hl
  have := nB_lt g hl
  unfold FX12_isAt
  simp (disch := omega) only [h, Nat.reduceAdd, NA g hl, NB g hl, ob_some, mx_letI, mx_chkT, mx_inb_i3, mx_inb_lit, lit_toNat, i3_toNat, i3_le, i3_lt, i3_leL, i3_Lle, i3_ltL, i3_Llt, i3_neg, i3_eq, i3_eqL, i3_ne1, i3_add, i3_addL, i3_Ladd, i3_mul, i3_mulL, i3_Lmul, mx_b01_0, mx_b01_1, b2_01, b2_0, b2_1, se_inl, se_inr, if_true, if_false, e10, e01, e00, e11, em1, em1lt, Nat.not_lt_zero]
  by_cases h1 : nA N l = p
  · simp [h1, b2]
  · by_cases h2 : nB N l = p
    · simp [h1, h2, b2]
    · simp [h1, h2, b2]
theorem M_slackOf_y (g : GI N) (s : SI N) (h : d.1 224 = N) {l : Nat} (hl : l < nL N) : FX12_slackOf 222 (i3 l) d = some (slk N l) := by
  have := g.1.2
  have := g.2.1.2
  have := s.1.2
  have := nA_lt g hl
  have := nB_lt g hl
  have e : FX12_slackOf_L58 222 (i3 (nA N l)) (i3 (nB N l)) d mx_FU (N (168 + nA N l) + N (168 + nB N l) - 2 * N (128 + l)) (i3 0) = some (slk N l) := by
    refine lp_fo (L := fun f y t => FX12_slackOf_L58 222 (i3 (nA N l)) (i3 (nB N l)) d f t y) (n := nK N) _ (fun t => t) _ ?_ ?_ mx_FU (FU_lt (by omega))
    · intro f t
      show FX12_slackOf_L58 222 (i3 (nA N l)) (i3 (nB N l)) d (f + 1) t (i3 (nK N)) = _
      rw [FX12_slackOf_L58]
      simp (disch := omega) only [h, N125 s, Nat.le_refl, Nat.reduceAdd, ob_some, mx_letI, mx_chkT, mx_inb_i3, mx_inb_lit, lit_toNat, i3_toNat, i3_le, i3_lt, i3_leL, i3_Lle, i3_ltL, i3_Llt, i3_neg, i3_eq, i3_eqL, i3_ne1, i3_add, i3_addL, i3_Ladd, i3_mul, i3_mulL, i3_Lmul, mx_b01_0, mx_b01_1, b2_01, b2_0, b2_1, se_inl, se_inr, if_true, if_false, e10, e01, e00, e11, em1, em1lt, Nat.not_lt_zero, if_pos, if_neg]
    · intro f k t hk
      show FX12_slackOf_L58 222 (i3 (nA N l)) (i3 (nB N l)) d (f + 1) t (i3 k) = FX12_slackOf_L58 222 (i3 (nA N l)) (i3 (nB N l)) d f _ (i3 (k + 1))
      rw [FX12_slackOf_L58]
      simp (disch := omega) only [h, N125 s, Nat.reduceAdd, M_has, ob_some, mx_letI, mx_chkT, mx_inb_i3, mx_inb_lit, lit_toNat, i3_toNat, i3_le, i3_lt, i3_leL, i3_Lle, i3_ltL, i3_Llt, i3_neg, i3_eq, i3_eqL, i3_ne1, i3_add, i3_addL, i3_Ladd, i3_mul, i3_mulL, i3_Lmul, mx_b01_0, mx_b01_1, b2_01, b2_0, b2_1, se_inl, se_inr, if_true, if_false, e10, e01, e00, e11, em1, em1lt, Nat.not_lt_zero]
      rw [if_neg (by omega)]
      cases bt (N (178 + k)) (nA N l) <;> cases bt (N (178 + k)) (nB N l) <;> rfl
  unfold FX12_slackOf
  simp (disch := omega) only [h, Nat.reduceAdd, NA g hl, NB g hl, ob_some, mx_letI, mx_chkT, mx_inb_i3, mx_inb_lit, lit_toNat, i3_toNat, i3_le, i3_lt, i3_leL, i3_Lle, i3_ltL, i3_Llt, i3_neg, i3_eq, i3_eqL, i3_ne1, i3_add, i3_addL, i3_Ladd, i3_mul, i3_mulL, i3_Lmul, mx_b01_0, mx_b01_1, b2_01, b2_0, b2_1, se_inl, se_inr, if_true, if_false, e10, e01, e00, e11, em1, em1lt, Nat.not_lt_zero]
  rw [i3_zero, e]
  rfl
theorem M_totalNow (g : GI N) (s : SI N) (h : d.1 224 = N) : FX12_totalNow 222 d = some (tot N) := by
  have := g.2.1.2
  have e : FX12_totalNow_L4 222 d mx_FU 0 (i3 0) = some (tot N) := by
    refine lp_fo (L := fun f y t => FX12_totalNow_L4 222 d f t y) (n := nL N) _ (fun t => t) _ ?_ ?_ mx_FU (FU_lt (by omega))
    · intro f t
      show FX12_totalNow_L4 222 d (f + 1) t (i3 (nL N)) = _
      rw [FX12_totalNow_L4]
      simp (disch := omega) only [h, N1 g, Nat.le_refl, Nat.reduceAdd, ob_some, mx_letI, mx_chkT, mx_inb_i3, mx_inb_lit, lit_toNat, i3_toNat, i3_le, i3_lt, i3_leL, i3_Lle, i3_ltL, i3_Llt, i3_neg, i3_eq, i3_eqL, i3_ne1, i3_add, i3_addL, i3_Ladd, i3_mul, i3_mulL, i3_Lmul, mx_b01_0, mx_b01_1, b2_01, b2_0, b2_1, se_inl, se_inr, if_true, if_false, e10, e01, e00, e11, em1, em1lt, Nat.not_lt_zero, if_pos, if_neg]
    · intro f k t hk
      show FX12_totalNow_L4 222 d (f + 1) t (i3 k) = FX12_totalNow_L4 222 d f _ (i3 (k + 1))
      rw [FX12_totalNow_L4]
      simp (disch := omega) only [h, N1 g, Nat.reduceAdd, M_isOfPair_y g h hk, ob_some, mx_letI, mx_chkT, mx_inb_i3, mx_inb_lit, lit_toNat, i3_toNat, i3_le, i3_lt, i3_leL, i3_Lle, i3_ltL, i3_Llt, i3_neg, i3_eq, i3_eqL, i3_ne1, i3_add, i3_addL, i3_Ladd, i3_mul, i3_mulL, i3_Lmul, mx_b01_0, mx_b01_1, b2_01, b2_0, b2_1, se_inl, se_inr, if_true, if_false, e10, e01, e00, e11, em1, em1lt, Nat.not_lt_zero]
      rw [if_neg (by omega)]
      cases prd N k <;> rfl
  unfold FX12_totalNow
  rw [show (0 : Int32) = i3 0 from rfl] at e ⊢
  rw [e]
  rfl
end ASK
