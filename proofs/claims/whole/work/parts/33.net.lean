/-! ===== a network as a row of numbers; the class's network that is alike ===== -/
abbrev Rw : Type := Nat → Int32
def nP (N : Rw) : Nat := (N 0).toNatClampNeg
def nL (N : Rw) : Nat := (N 1).toNatClampNeg
def nK (N : Rw) : Nat := (N 125).toNatClampNeg
def nA (N : Rw) (l : Nat) : Nat := (N (3 + l)).toNatClampNeg
def nB (N : Rw) (l : Nat) : Nat := (N (33 + l)).toNatClampNeg
def lm (N : Rw) (p q l : Nat) : Bool := (decide (nA N l = p) && decide (nB N l = q)) || (decide (nA N l = q) && decide (nB N l = p))
def li (N : Rw) (p q : Nat) : Option Nat := ff (lm N p q) (nL N)
def lk (N : Rw) (p q : Nat) : Bool := (li N p q).isSome
def lc (N : Rw) (p q : Nat) : Nat := match li N p q with
  | some l => l + 1
  | none => 0
def cnt (P : Nat → Bool) : Nat → Nat
  | 0 => 0
  | n + 1 => cnt P n + if P n then 1 else 0
/-- how many bits -/
def pc (s : Nat) : Nat := cnt (fun k => s.testBit k) 10
/-- points and links are as they may be -/
def GI (N : Rw) : Prop := (N 0 = i3 (nP N) ∧ nP N ≤ 10) ∧ (N 1 = i3 (nL N) ∧ nL N ≤ 30) ∧
  (∀ l, l < nL N → N (3 + l) = i3 (nA N l) ∧ N (33 + l) = i3 (nB N l) ∧ nA N l < nP N ∧ nB N l < nP N ∧ nA N l ≠ nB N l) ∧
  (∀ l l', l < nL N → l' < nL N → lm N (nA N l) (nB N l) l' = true → l' = l)
/-- what is so is as it may be -/
def SI (N : Rw) : Prop := (N 125 = i3 (nK N) ∧ nK N ≤ 6) ∧
  (∀ l, l < nL N → ∃ w, N (128 + l) = i3 w ∧ 1 ≤ w ∧ w ≤ 99) ∧
  (∀ p, p < nP N → N (158 + p) = -1 ∨ ∃ q, q < nP N ∧ N (158 + p) = i3 q ∧ N (158 + q) = i3 p ∧ lk N p q = true) ∧
  (∀ p, p < nP N → ∃ w, N (168 + p) = i3 w ∧ w ≤ 400) ∧
  (∀ k, k < nK N → (∃ w, N (184 + k) = i3 w ∧ w ≤ 400) ∧ ∃ s, N (178 + k) = i3 s ∧ s < 2 ^ nP N ∧ pc s % 2 = 1)
def CG (c : mB) (a : Nat) (N : Rw) : Prop := (c.1 a 0 = N 0 ∧ c.1 a 1 = N 1) ∧
  (∀ p, p < nP N → ∀ q, bt (c.1 (a + 2) p) q = lk N p q) ∧
  (∀ l, l < nL N → c.1 (a + 5) l = N (3 + l) ∧ c.1 (a + 6) l = N (33 + l) ∧ c.1 (a + 7) l = N (128 + l)) ∧
  (∀ p q, p < nP N → q < nP N → c.1 (a + 8) (p * 10 + q) = i3 (lc N p q))
def CS (c : mB) (a : Nat) (N : Rw) : Prop := (c.1 a 2 = N 125 ∧ c.1 a 3 = N 126 ∧ c.1 a 4 = N 127) ∧
  (∀ p, p < nP N → c.1 (a + 3) p = N (158 + p) ∧ c.1 (a + 4) p = N (168 + p)) ∧
  (∀ k, k < nK N → c.1 (a + 9) k = N (178 + k) ∧ c.1 (a + 10) k = N (184 + k))
theorem lm_comm (N : Rw) (p q l : Nat) : lm N p q l = lm N q p l := by unfold lm; rw [Bool.or_comm]
theorem li_comm (N : Rw) (p q : Nat) : li N p q = li N q p := by
  unfold li
  congr 1
  funext l
  exact lm_comm N p q l
theorem lk_comm (N : Rw) (p q : Nat) : lk N p q = lk N q p := by unfold lk; rw [li_comm]
theorem lm_iff {N : Rw} {p q l : Nat} : lm N p q l = true ↔ (nA N l = p ∧ nB N l = q ∨ nA N l = q ∧ nB N l = p) := by
  unfold lm
  simp
section NET
variable {c : mB} {a : Nat} {N : Rw}
theorem li_some {p q l : Nat} (h : li N p q = some l) : l < nL N ∧ lm N p q l = true := by
  obtain ⟨h1, h2, -⟩ := ff_some.mp h
  exact ⟨h1, h2⟩
theorem li_of (g : GI N) {p q l : Nat} (hl : l < nL N) (h : lm N p q l = true) : li N p q = some l := by
  refine ff_some.mpr ⟨hl, h, fun j hj => ?_⟩
  cases hb : lm N p q j with
  | false => rfl
  | true =>
    exfalso
    have hj2 : j < nL N := by omega
    have : l = j := by
      refine g.2.2.2 j l hj2 hl ?_
      rw [lm_iff] at h hb ⊢
      omega
    omega
theorem lk_lt (g : GI N) {p q : Nat} (h : lk N p q = true) : p < nP N ∧ q < nP N ∧ p ≠ q := by
  unfold lk at h
  cases e : li N p q with
  | none => rw [e] at h; cases h
  | some l =>
    obtain ⟨h1, h2⟩ := li_some e
    have h3 := g.2.2.1 l h1
    rw [lm_iff] at h2
    omega
theorem li_n (g : GI N) {p q : Nat} (h : ¬ (p < nP N ∧ q < nP N ∧ p ≠ q)) : li N p q = none := by
  cases e : li N p q with
  | none => rfl
  | some l => exact absurd (lk_lt g (p := p) (q := q) (by unfold lk; rw [e]; rfl)) h
theorem lc_eq (N : Rw) (p q : Nat) : i3 (lc N p q) - 1 = oi (li N p q) := by
  unfold lc oi
  cases li N p q with
  | none => decide
  | some l => exact i3_sub (a := l + 1) (b := 1) (by omega)
theorem oi_ne (x : Option Nat) (h : ∀ l, x = some l → l < 2147483648) : (oi x = -1) = (x = none) := by
  cases x with
  | none => simp [oi]
  | some l =>
    have := i3_ne1 (h l rfl)
    simp [oi, this]
theorem li_lt (g : GI N) {p q l : Nat} (h : li N p q = some l) : l < 2147483648 := by
  have := (li_some h).1
  have := g.2.1.2
  omega
/-! points, links, sets that there are, or not -/
theorem C_hasPoint_y (g : GI N) (h : CG c a N) {p : Nat} (hp : p < nP N) : FX4_hasPoint a (i3 p) c = some 1 := by
  have := g.1.2
  unfold FX4_hasPoint
  rw [h.1.1, g.1.1]
  simp (disch := omega) only [ob_some, mx_letI, mx_chkT, mx_inb_i3, mx_inb_lit, lit_toNat, i3_toNat, i3_le, i3_lt, i3_leL, i3_Lle, i3_ltL, i3_Llt, i3_neg, i3_eq, i3_eqL, i3_ne1, i3_add, i3_addL, i3_Ladd, i3_mul, i3_mulL, i3_Lmul, mx_b01_0, mx_b01_1, b2_01, b2_0, b2_1, se_inl, se_inr, if_true, if_false, e10, e01, e00, e11, em1, em1lt, Nat.not_lt_zero, if_pos, if_neg]
theorem C_hasPoint_n (g : GI N) (h : CG c a N) {x : Int32} (hx : ∀ k, k < nP N → x ≠ i3 k) : FX4_hasPoint a x c = some 0 := by
  have := g.1.2
  unfold FX4_hasPoint
  rw [h.1.1, g.1.1]
  rcases hasN hx (by omega) with q | ⟨k, rfl, hk, hk2⟩
  · rw [if_pos q]
  · simp (disch := omega) only [ob_some, mx_letI, mx_chkT, mx_inb_i3, mx_inb_lit, lit_toNat, i3_toNat, i3_le, i3_lt, i3_leL, i3_Lle, i3_ltL, i3_Llt, i3_neg, i3_eq, i3_eqL, i3_ne1, i3_add, i3_addL, i3_Ladd, i3_mul, i3_mulL, i3_Lmul, mx_b01_0, mx_b01_1, b2_01, b2_0, b2_1, se_inl, se_inr, if_true, if_false, e10, e01, e00, e11, em1, em1lt, Nat.not_lt_zero, if_pos, if_neg]
theorem C_hasPoint_m1 (g : GI N) (h : CG c a N) : FX4_hasPoint a (-1) c = some 0 := C_hasPoint_n g h (fun k hk e => by
  have := g.1.2
  have h2 := i3_ne1 (a := k) (by omega)
  rw [← e] at h2
  exact h2.mp rfl)
theorem C_hasLink_y (g : GI N) (h : CG c a N) {p : Nat} (hp : p < nL N) : FX4_hasLink a (i3 p) c = some 1 := by
  have := g.2.1.2
  unfold FX4_hasLink
  rw [h.1.2, g.2.1.1]
  simp (disch := omega) only [ob_some, mx_letI, mx_chkT, mx_inb_i3, mx_inb_lit, lit_toNat, i3_toNat, i3_le, i3_lt, i3_leL, i3_Lle, i3_ltL, i3_Llt, i3_neg, i3_eq, i3_eqL, i3_ne1, i3_add, i3_addL, i3_Ladd, i3_mul, i3_mulL, i3_Lmul, mx_b01_0, mx_b01_1, b2_01, b2_0, b2_1, se_inl, se_inr, if_true, if_false, e10, e01, e00, e11, em1, em1lt, Nat.not_lt_zero, if_pos, if_neg]
theorem C_hasLink_n (g : GI N) (h : CG c a N) {x : Int32} (hx : ∀ k, k < nL N → x ≠ i3 k) : FX4_hasLink a x c = some 0 := by
  have := g.2.1.2
  unfold FX4_hasLink
  rw [h.1.2, g.2.1.1]
  rcases hasN hx (by omega) with q | ⟨k, rfl, hk, hk2⟩
  · rw [if_pos q]
  · simp (disch := omega) only [ob_some, mx_letI, mx_chkT, mx_inb_i3, mx_inb_lit, lit_toNat, i3_toNat, i3_le, i3_lt, i3_leL, i3_Lle, i3_ltL, i3_Llt, i3_neg, i3_eq, i3_eqL, i3_ne1, i3_add, i3_addL, i3_Ladd, i3_mul, i3_mulL, i3_Lmul, mx_b01_0, mx_b01_1, b2_01, b2_0, b2_1, se_inl, se_inr, if_true, if_false, e10, e01, e00, e11, em1, em1lt, Nat.not_lt_zero, if_pos, if_neg]
theorem C_hasLink_m1 (g : GI N) (h : CG c a N) : FX4_hasLink a (-1) c = some 0 := C_hasLink_n g h (fun k hk e => by
  have := g.2.1.2
  have h2 := i3_ne1 (a := k) (by omega)
  rw [← e] at h2
  exact h2.mp rfl)
theorem C_hasSet_y (s : SI N) (h : CS c a N) {p : Nat} (hp : p < nK N) : FX4_hasSet a (i3 p) c = some 1 := by
  have := s.1.2
  unfold FX4_hasSet
  rw [h.1.1, s.1.1]
  simp (disch := omega) only [ob_some, mx_letI, mx_chkT, mx_inb_i3, mx_inb_lit, lit_toNat, i3_toNat, i3_le, i3_lt, i3_leL, i3_Lle, i3_ltL, i3_Llt, i3_neg, i3_eq, i3_eqL, i3_ne1, i3_add, i3_addL, i3_Ladd, i3_mul, i3_mulL, i3_Lmul, mx_b01_0, mx_b01_1, b2_01, b2_0, b2_1, se_inl, se_inr, if_true, if_false, e10, e01, e00, e11, em1, em1lt, Nat.not_lt_zero, if_pos, if_neg]
theorem C_hasSet_n (s : SI N) (h : CS c a N) {x : Int32} (hx : ∀ k, k < nK N → x ≠ i3 k) : FX4_hasSet a x c = some 0 := by
  have := s.1.2
  unfold FX4_hasSet
  rw [h.1.1, s.1.1]
  rcases hasN hx (by omega) with q | ⟨k, rfl, hk, hk2⟩
  · rw [if_pos q]
  · simp (disch := omega) only [ob_some, mx_letI, mx_chkT, mx_inb_i3, mx_inb_lit, lit_toNat, i3_toNat, i3_le, i3_lt, i3_leL, i3_Lle, i3_ltL, i3_Llt, i3_neg, i3_eq, i3_eqL, i3_ne1, i3_add, i3_addL, i3_Ladd, i3_mul, i3_mulL, i3_Lmul, mx_b01_0, mx_b01_1, b2_01, b2_0, b2_1, se_inl, se_inr, if_true, if_false, e10, e01, e00, e11, em1, em1lt, Nat.not_lt_zero, if_pos, if_neg]
/-! what a point, a link, a set has -/
theorem C_nearTo_y (g : GI N) (h : CG c a N) {p : Nat} (hp : p < nP N) : FX4_nearTo a (i3 p) c = some (c.1 (a + 2) p) := by
  have := g.1.2
  unfold FX4_nearTo
  simp (disch := omega) only [C_hasPoint_y g h hp, ob_some, mx_letI, mx_chkT, mx_inb_i3, mx_inb_lit, lit_toNat, i3_toNat, i3_le, i3_lt, i3_leL, i3_Lle, i3_ltL, i3_Llt, i3_neg, i3_eq, i3_eqL, i3_ne1, i3_add, i3_addL, i3_Ladd, i3_mul, i3_mulL, i3_Lmul, mx_b01_0, mx_b01_1, b2_01, b2_0, b2_1, se_inl, se_inr, if_true, if_false, e10, e01, e00, e11, em1, em1lt, Nat.not_lt_zero]
theorem C_partnerOf_y (g : GI N) (h : CG c a N) (hs : CS c a N) {p : Nat} (hp : p < nP N) : FX4_partnerOf a (i3 p) c = some (N (158 + p)) := by
  have := g.1.2
  unfold FX4_partnerOf
  simp (disch := omega) only [C_hasPoint_y g h hp, ob_some, mx_letI, mx_chkT, mx_inb_i3, mx_inb_lit, lit_toNat, i3_toNat, i3_le, i3_lt, i3_leL, i3_Lle, i3_ltL, i3_Llt, i3_neg, i3_eq, i3_eqL, i3_ne1, i3_add, i3_addL, i3_Ladd, i3_mul, i3_mulL, i3_Lmul, mx_b01_0, mx_b01_1, b2_01, b2_0, b2_1, se_inl, se_inr, if_true, if_false, e10, e01, e00, e11, em1, em1lt, Nat.not_lt_zero]
  rw [(hs.2.1 p hp).1]
theorem C_partnerOf_n (g : GI N) (h : CG c a N) {x : Int32} (hx : ∀ k, k < nP N → x ≠ i3 k) : FX4_partnerOf a x c = some (-1) := by
  unfold FX4_partnerOf
  simp (disch := omega) only [C_hasPoint_n g h hx, ob_some, mx_letI, mx_chkT, mx_inb_i3, mx_inb_lit, lit_toNat, i3_toNat, i3_le, i3_lt, i3_leL, i3_Lle, i3_ltL, i3_Llt, i3_neg, i3_eq, i3_eqL, i3_ne1, i3_add, i3_addL, i3_Ladd, i3_mul, i3_mulL, i3_Lmul, mx_b01_0, mx_b01_1, b2_01, b2_0, b2_1, se_inl, se_inr, if_true, if_false, e10, e01, e00, e11, em1, em1lt, Nat.not_lt_zero]
theorem C_isLone_y (g : GI N) (h : CG c a N) (hs : CS c a N) {p : Nat} (hp : p < nP N) : FX4_isLone a (i3 p) c = some (b2 (decide (N (158 + p) = -1))) := by
  have := g.1.2
  unfold FX4_isLone
  simp (disch := omega) only [C_hasPoint_y g h hp, ob_some, mx_letI, mx_chkT, mx_inb_i3, mx_inb_lit, lit_toNat, i3_toNat, i3_le, i3_lt, i3_leL, i3_Lle, i3_ltL, i3_Llt, i3_neg, i3_eq, i3_eqL, i3_ne1, i3_add, i3_addL, i3_Ladd, i3_mul, i3_mulL, i3_Lmul, mx_b01_0, mx_b01_1, b2_01, b2_0, b2_1, se_inl, se_inr, if_true, if_false, e10, e01, e00, e11, em1, em1lt, Nat.not_lt_zero]
  rw [(hs.2.1 p hp).1, sm_ite]
  unfold b2
  simp only [decide_eq_true_eq]
theorem C_isLone_n (g : GI N) (h : CG c a N) {x : Int32} (hx : ∀ k, k < nP N → x ≠ i3 k) : FX4_isLone a x c = some 0 := by
  unfold FX4_isLone
  simp (disch := omega) only [C_hasPoint_n g h hx, ob_some, mx_letI, mx_chkT, mx_inb_i3, mx_inb_lit, lit_toNat, i3_toNat, i3_le, i3_lt, i3_leL, i3_Lle, i3_ltL, i3_Llt, i3_neg, i3_eq, i3_eqL, i3_ne1, i3_add, i3_addL, i3_Ladd, i3_mul, i3_mulL, i3_Lmul, mx_b01_0, mx_b01_1, b2_01, b2_0, b2_1, se_inl, se_inr, if_true, if_false, e10, e01, e00, e11, em1, em1lt, Nat.not_lt_zero]
theorem C_priceOf_y (g : GI N) (h : CG c a N) (hs : CS c a N) {p : Nat} (hp : p < nP N) : FX4_priceOf a (i3 p) c = some (N (168 + p)) := by
  have := g.1.2
  unfold FX4_priceOf
  simp (disch := omega) only [C_hasPoint_y g h hp, ob_some, mx_letI, mx_chkT, mx_inb_i3, mx_inb_lit, lit_toNat, i3_toNat, i3_le, i3_lt, i3_leL, i3_Lle, i3_ltL, i3_Llt, i3_neg, i3_eq, i3_eqL, i3_ne1, i3_add, i3_addL, i3_Ladd, i3_mul, i3_mulL, i3_Lmul, mx_b01_0, mx_b01_1, b2_01, b2_0, b2_1, se_inl, se_inr, if_true, if_false, e10, e01, e00, e11, em1, em1lt, Nat.not_lt_zero]
  rw [(hs.2.1 p hp).2]
theorem C_fromOf_y (g : GI N) (h : CG c a N) {l : Nat} (hl : l < nL N) : FX4_fromOf a (i3 l) c = some (i3 (nA N l)) := by
  have := g.2.1.2
  unfold FX4_fromOf
  simp (disch := omega) only [C_hasLink_y g h hl, ob_some, mx_letI, mx_chkT, mx_inb_i3, mx_inb_lit, lit_toNat, i3_toNat, i3_le, i3_lt, i3_leL, i3_Lle, i3_ltL, i3_Llt, i3_neg, i3_eq, i3_eqL, i3_ne1, i3_add, i3_addL, i3_Ladd, i3_mul, i3_mulL, i3_Lmul, mx_b01_0, mx_b01_1, b2_01, b2_0, b2_1, se_inl, se_inr, if_true, if_false, e10, e01, e00, e11, em1, em1lt, Nat.not_lt_zero]
  rw [(h.2.2.1 l hl).1, (g.2.2.1 l hl).1]
theorem C_toOf_y (g : GI N) (h : CG c a N) {l : Nat} (hl : l < nL N) : FX4_toOf a (i3 l) c = some (i3 (nB N l)) := by
  have := g.2.1.2
  unfold FX4_toOf
  simp (disch := omega) only [C_hasLink_y g h hl, ob_some, mx_letI, mx_chkT, mx_inb_i3, mx_inb_lit, lit_toNat, i3_toNat, i3_le, i3_lt, i3_leL, i3_Lle, i3_ltL, i3_Llt, i3_neg, i3_eq, i3_eqL, i3_ne1, i3_add, i3_addL, i3_Ladd, i3_mul, i3_mulL, i3_Lmul, mx_b01_0, mx_b01_1, b2_01, b2_0, b2_1, se_inl, se_inr, if_true, if_false, e10, e01, e00, e11, em1, em1lt, Nat.not_lt_zero]
  rw [(h.2.2.1 l hl).2.1, (g.2.2.1 l hl).2.1]
theorem C_fromOf_n (g : GI N) (h : CG c a N) {x : Int32} (hx : ∀ k, k < nL N → x ≠ i3 k) : FX4_fromOf a x c = some (-1) := by
  unfold FX4_fromOf
  simp (disch := omega) only [C_hasLink_n g h hx, ob_some, mx_letI, mx_chkT, mx_inb_i3, mx_inb_lit, lit_toNat, i3_toNat, i3_le, i3_lt, i3_leL, i3_Lle, i3_ltL, i3_Llt, i3_neg, i3_eq, i3_eqL, i3_ne1, i3_add, i3_addL, i3_Ladd, i3_mul, i3_mulL, i3_Lmul, mx_b01_0, mx_b01_1, b2_01, b2_0, b2_1, se_inl, se_inr, if_true, if_false, e10, e01, e00, e11, em1, em1lt, Nat.not_lt_zero]
theorem C_toOf_n (g : GI N) (h : CG c a N) {x : Int32} (hx : ∀ k, k < nL N → x ≠ i3 k) : FX4_toOf a x c = some (-1) := by
  unfold FX4_toOf
  simp (disch := omega) only [C_hasLink_n g h hx, ob_some, mx_letI, mx_chkT, mx_inb_i3, mx_inb_lit, lit_toNat, i3_toNat, i3_le, i3_lt, i3_leL, i3_Lle, i3_ltL, i3_Llt, i3_neg, i3_eq, i3_eqL, i3_ne1, i3_add, i3_addL, i3_Ladd, i3_mul, i3_mulL, i3_Lmul, mx_b01_0, mx_b01_1, b2_01, b2_0, b2_1, se_inl, se_inr, if_true, if_false, e10, e01, e00, e11, em1, em1lt, Nat.not_lt_zero]
theorem C_weightAt_y (g : GI N) (h : CG c a N) {l : Nat} (hl : l < nL N) : FX4_weightAt a (i3 l) c = some (N (128 + l)) := by
  have := g.2.1.2
  unfold FX4_weightAt
  simp (disch := omega) only [C_hasLink_y g h hl, ob_some, mx_letI, mx_chkT, mx_inb_i3, mx_inb_lit, lit_toNat, i3_toNat, i3_le, i3_lt, i3_leL, i3_Lle, i3_ltL, i3_Llt, i3_neg, i3_eq, i3_eqL, i3_ne1, i3_add, i3_addL, i3_Ladd, i3_mul, i3_mulL, i3_Lmul, mx_b01_0, mx_b01_1, b2_01, b2_0, b2_1, se_inl, se_inr, if_true, if_false, e10, e01, e00, e11, em1, em1lt, Nat.not_lt_zero]
  rw [(h.2.2.1 l hl).2.2]
theorem C_membersOf_y (s : SI N) (h : CS c a N) {k : Nat} (hk : k < nK N) : FX4_membersOf a (i3 k) c = some (N (178 + k)) := by
  have := s.1.2
  unfold FX4_membersOf
  simp (disch := omega) only [C_hasSet_y s h hk, ob_some, mx_letI, mx_chkT, mx_inb_i3, mx_inb_lit, lit_toNat, i3_toNat, i3_le, i3_lt, i3_leL, i3_Lle, i3_ltL, i3_Llt, i3_neg, i3_eq, i3_eqL, i3_ne1, i3_add, i3_addL, i3_Ladd, i3_mul, i3_mulL, i3_Lmul, mx_b01_0, mx_b01_1, b2_01, b2_0, b2_1, se_inl, se_inr, if_true, if_false, e10, e01, e00, e11, em1, em1lt, Nat.not_lt_zero]
  rw [(h.2.2 k hk).1]
theorem C_membersOf_n (s : SI N) (h : CS c a N) {x : Int32} (hx : ∀ k, k < nK N → x ≠ i3 k) : FX4_membersOf a x c = some 0 := by
  unfold FX4_membersOf
  simp (disch := omega) only [C_hasSet_n s h hx, ob_some, mx_letI, mx_chkT, mx_inb_i3, mx_inb_lit, lit_toNat, i3_toNat, i3_le, i3_lt, i3_leL, i3_Lle, i3_ltL, i3_Llt, i3_neg, i3_eq, i3_eqL, i3_ne1, i3_add, i3_addL, i3_Ladd, i3_mul, i3_mulL, i3_Lmul, mx_b01_0, mx_b01_1, b2_01, b2_0, b2_1, se_inl, se_inr, if_true, if_false, e10, e01, e00, e11, em1, em1lt, Nat.not_lt_zero]
theorem C_crownOf_y (s : SI N) (h : CS c a N) {k : Nat} (hk : k < nK N) : FX4_crownOf a (i3 k) c = some (N (184 + k)) := by
  have := s.1.2
  unfold FX4_crownOf
  simp (disch := omega) only [C_hasSet_y s h hk, ob_some, mx_letI, mx_chkT, mx_inb_i3, mx_inb_lit, lit_toNat, i3_toNat, i3_le, i3_lt, i3_leL, i3_Lle, i3_ltL, i3_Llt, i3_neg, i3_eq, i3_eqL, i3_ne1, i3_add, i3_addL, i3_Ladd, i3_mul, i3_mulL, i3_Lmul, mx_b01_0, mx_b01_1, b2_01, b2_0, b2_1, se_inl, se_inr, if_true, if_false, e10, e01, e00, e11, em1, em1lt, Nat.not_lt_zero]
  rw [(h.2.2 k hk).2]
theorem C_areLinked_y (g : GI N) (h : CG c a N) {p q : Nat} (hp : p < nP N) (hq : q < nP N) : FX4_areLinked a (i3 p) (i3 q) c = some (b2 (lk N p q)) := by
  have := g.1.2
  unfold FX4_areLinked
  simp (disch := omega) only [C_hasPoint_y g h hp, C_hasPoint_y g h hq, bt_sh, ob_some, mx_letI, mx_chkT, mx_inb_i3, mx_inb_lit, lit_toNat, i3_toNat, i3_le, i3_lt, i3_leL, i3_Lle, i3_ltL, i3_Llt, i3_neg, i3_eq, i3_eqL, i3_ne1, i3_add, i3_addL, i3_Ladd, i3_mul, i3_mulL, i3_Lmul, mx_b01_0, mx_b01_1, b2_01, b2_0, b2_1, se_inl, se_inr, if_true, if_false, e10, e01, e00, e11, em1, em1lt, Nat.not_lt_zero]
  rw [h.2.1 p hp q, sm_ite]
  cases lk N p q <;> rfl
theorem C_areLinked_n1 (g : GI N) (h : CG c a N) {x y : Int32} (hx : ∀ k, k < nP N → x ≠ i3 k) : FX4_areLinked a x y c = some 0 := by
  unfold FX4_areLinked
  simp (disch := omega) only [C_hasPoint_n g h hx, ob_some, mx_letI, mx_chkT, mx_inb_i3, mx_inb_lit, lit_toNat, i3_toNat, i3_le, i3_lt, i3_leL, i3_Lle, i3_ltL, i3_Llt, i3_neg, i3_eq, i3_eqL, i3_ne1, i3_add, i3_addL, i3_Ladd, i3_mul, i3_mulL, i3_Lmul, mx_b01_0, mx_b01_1, b2_01, b2_0, b2_1, se_inl, se_inr, if_true, if_false, e10, e01, e00, e11, em1, em1lt, Nat.not_lt_zero]
theorem C_linkOf_y (g : GI N) (h : CG c a N) {p q : Nat} (hp : p < nP N) (hq : q < nP N) : FX4_linkOf a (i3 p) (i3 q) c = some (oi (li N p q)) := by
  have := g.1.2
  unfold FX4_linkOf
  simp (disch := omega) only [C_hasPoint_y g h hp, C_hasPoint_y g h hq, ob_some, mx_letI, mx_chkT, mx_inb_i3, mx_inb_lit, lit_toNat, i3_toNat, i3_le, i3_lt, i3_leL, i3_Lle, i3_ltL, i3_Llt, i3_neg, i3_eq, i3_eqL, i3_ne1, i3_add, i3_addL, i3_Ladd, i3_mul, i3_mulL, i3_Lmul, mx_b01_0, mx_b01_1, b2_01, b2_0, b2_1, se_inl, se_inr, if_true, if_false, e10, e01, e00, e11, em1, em1lt, Nat.not_lt_zero]
  rw [h.2.2.2 p q hp hq, lc_eq]
theorem C_weightOf_y (g : GI N) (h : CG c a N) {p q l : Nat} (e : li N p q = some l) : FX4_weightOf a (i3 p) (i3 q) c = some (N (128 + l)) := by
  have hl := lk_lt g (p := p) (q := q) (by unfold lk; rw [e]; rfl)
  unfold FX4_weightOf
  rw [C_linkOf_y g h hl.1 hl.2.1, e]
  simp only [ob_some, oi]
  rw [C_weightAt_y g h (li_some e).1]
  rfl
theorem C_weightOf_n (g : GI N) (h : CG c a N) {x : Int32} {p : Nat} (hp : p < nP N) (hx : ∀ k, k < nP N → x ≠ i3 k) : FX4_weightOf a (i3 p) x c = some 0 := by
  unfold FX4_weightOf FX4_linkOf FX4_weightAt
  simp (disch := omega) only [C_hasPoint_y g h hp, C_hasPoint_n g h hx, C_hasLink_m1 g h, ob_some, mx_letI, mx_chkT, mx_inb_i3, mx_inb_lit, lit_toNat, i3_toNat, i3_le, i3_lt, i3_leL, i3_Lle, i3_ltL, i3_Llt, i3_neg, i3_eq, i3_eqL, i3_ne1, i3_add, i3_addL, i3_Ladd, i3_mul, i3_mulL, i3_Lmul, mx_b01_0, mx_b01_1, b2_01, b2_0, b2_1, se_inl, se_inr, if_true, if_false, e10, e01, e00, e11, em1, em1lt, Nat.not_lt_zero]
end NET
