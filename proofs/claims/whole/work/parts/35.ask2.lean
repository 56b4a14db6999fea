/-! ===== more of what is asked ===== -/
def pw (k : Nat) : Int32 := (1 : Int32) <<< (i3 k &&& 31)
theorem pw_eq (k : Nat) : (1 : Int32) <<< (i3 k &&& 31) = pw k := rfl
theorem bt_pwk {k j : Nat} (hk : k < 32) (hj : j < 32) : bt (pw k) j = decide (j = k) := bt_one hk hj
theorem pw_ne0 {k : Nat} (hk : k < 32) : (pw k = 0) = False := eq_false (bt_pw0 k hk)
def osum (o : Option Nat) : Int32 ⊕ Unit := match o with
  | some l => .inl (i3 l)
  | none => .inr ()
theorem osum_oi (o : Option Nat) : Sum.elim (fun rr => some rr) (fun _ => some (-1)) (osum o) = some (oi o) := by cases o <;> rfl
theorem ite_ff {c : Prop} [Decidable c] {α : Type} {x y : α} (h : ¬ c) : (if c then x else y) = y := if_neg h
def tgl (N : Rw) : Int32 := fo (fun l s => if slk N l = 0 then s ||| pw l else s) (nL N) 0
def lnp (N : Rw) : Int32 := fo (fun p s => if lone N p = true then s ||| pw p else s) (nP N) 0
def ptn (N : Rw) (p : Nat) (t : Bool) : Int32 := fo (fun l s => if (decide (nA N l = p ∨ nB N l = p) && (!t || decide (slk N l = 0))) = true then s ||| pw (nA N l + nB N l - p) else s) (nL N) 0
def stw (N : Rw) (p : Nat) : Int32 := fo (fun k s => if bt (N (178 + k)) p = true then s ||| pw k else s) (nK N) 0
def prs (N : Rw) : Int32 := fo (fun l s => if prd N l = true then s + 1 else s) (nL N) 0
def pwi (N : Rw) (x : Int32) : Int32 := fo (fun l s => if (prd N l && (bt x (nA N l) && bt x (nB N l))) = true then s + 1 else s) (nL N) 0
def rmo (N : Rw) (p : Nat) : Int32 := fo (fun l s => if (decide (nA N l = p ∨ nB N l = p) && decide (slk N l < s)) = true then slk N l else s) (nL N) (N (168 + p))
def bd1 (N : Rw) : Int32 := fo (fun p s => s + N (168 + p)) (nP N) 0
def hlf (x : Int32) : Int32 := i3 (pc x.toNatClampNeg / 2)
def bnd (N : Rw) : Int32 := fo (fun k s => s + N (184 + k) * hlf (N (178 + k))) (nK N) (bd1 N)
theorem C0 {c : mB} {a : Nat} {N : Rw} (g : GI N) (h : CG c a N) : c.1 a 0 = i3 (nP N) := by rw [h.1.1, N0 g]
theorem C1 {c : mB} {a : Nat} {N : Rw} (g : GI N) (h : CG c a N) : c.1 a 1 = i3 (nL N) := by rw [h.1.2, N1 g]
theorem C2 {c : mB} {a : Nat} {N : Rw} (s : SI N) (h : CS c a N) : c.1 a 2 = i3 (nK N) := by rw [h.1.1, N125 s]
theorem both_iff (x : Int32) {p q : Nat} (hp : p < 32) (hq : q < 32) : (x &&& (pw p ||| pw q) = (pw p ||| pw q)) ↔ (bt x p && bt x q) = true := by
  constructor
  · intro h
    have h1 := congrArg (fun y => bt y p) h
    have h2 := congrArg (fun y => bt y q) h
    simp only [bt_and, bt_or, bt_pwk hp hp, bt_pwk hq hp, bt_pwk hp hq, bt_pwk hq hq] at h1 h2
    simp at h1 h2
    rw [h1, h2]
    rfl
  · intro h
    rw [Bool.and_eq_true] at h
    apply bt_ext
    intro k hk
    rw [bt_and, bt_or, bt_pwk hp hk, bt_pwk hq hk]
    by_cases h1 : k = p
    · subst h1; simp [h.1]
    · by_cases h2 : k = q
      · subst h2; simp [h.2]
      · simp [h1, h2]
theorem within_iff (x : Int32) {p q : Nat} (hp : p < 32) (hq : q < 32) : (((x >>> (i3 p &&& 31)) &&& (x >>> (i3 q &&& 31))) &&& 1 = 0) ↔ (bt x p && bt x q) = false := by
  have e : ((x >>> (i3 p &&& 31)) &&& (x >>> (i3 q &&& 31))) &&& 1 = ((x >>> (i3 p &&& 31)) &&& 1) &&& ((x >>> (i3 q &&& 31)) &&& 1) := by
    apply bt_ext
    intro k hk
    simp only [bt_and]
    cases bt (x >>> (i3 p &&& 31)) k <;> cases bt (x >>> (i3 q &&& 31)) k <;> cases bt 1 k <;> rfl
  rw [e, bt_sh0 x hp, bt_sh0 x hq]
  cases bt x p <;> cases bt x q <;> decide
theorem pc_bits : ∀ s, s < 1024 → FX12_bits (i3 s) (fun _ _ => 0, fun _ _ => 0) = some (i3 (pc s)) := by decide +kernel
theorem pc_cnt : ∀ s, s < 1024 → FJ6_bitCount_0f7a4 (i3 s) (fun _ _ => 0, fun _ _ => 0) = some (i3 (pc s)) := by decide +kernel
theorem M_bits_L (d d' : mB) : ∀ (f : Nat) (x y : Int32), FX12_bits_L4 d f x y = FX12_bits_L4 d' f x y := by
  intro f
  induction f with
  | zero => intro x y; rfl
  | succ f ih => intro x y; rw [FX12_bits_L4, FX12_bits_L4]; simp only [mx_letI, ih]
theorem M_bits (d : mB) {s : Nat} (hs : s < 1024) : FX12_bits (i3 s) d = some (i3 (pc s)) := by
  rw [← pc_bits s hs]
  unfold FX12_bits
  rw [M_bits_L d (fun _ _ => 0, fun _ _ => 0)]
theorem J_bitCount (d : mB) {s : Nat} (hs : s < 1024) : FJ6_bitCount_0f7a4 (i3 s) d = some (i3 (pc s)) := by
  rw [← pc_cnt s hs]
  rfl
theorem pow_le {n : Nat} (h : n ≤ 10) : 2 ^ n ≤ 1024 := Nat.pow_le_pow_right (n := 2) (by omega) h
theorem pc_le {s : Nat} : pc s ≤ 10 := by
  have : ∀ (P : Nat → Bool) n, cnt P n ≤ n := by
    intro P n
    induction n with
    | zero => exact Nat.le_refl _
    | succ n ih => unfold cnt; split <;> omega
  exact this _ _
theorem i3_div {a b : Nat} (ha : a < 2147483648) (hb : b < 2147483648) : i3 a / i3 b = i3 (a / b) := (Int32.ofNat_div ha hb).symm
theorem i3_divL {a n : Nat} (ha : a < 2147483648) (hb : OfNat.ofNat n < 2147483648) : i3 a / (no_index (OfNat.ofNat n) : Int32) = i3 (a / OfNat.ofNat n) := i3_div ha hb
section ASKB
variable {c d : mB} {a : Nat} {N : Rw}
theorem set_lt (g : GI N) (s : SI N) {k : Nat} (hk : k < nK N) : ∃ t, N (178 + k) = i3 t ∧ t < 1024 ∧ t < 2 ^ nP N ∧ pc t % 2 = 1 := by
  obtain ⟨t, h1, h2, h3⟩ := (s.2.2.2.2 k hk).2
  exact ⟨t, h1, Nat.lt_of_lt_of_le h2 (pow_le g.1.2), h2, h3⟩
theorem C_isPair_y (g : GI N) (h : CG c a N) (hs : CS c a N) {l : Nat} (hl : l < nL N) : FX4_isPair a (i3 l) c = some (b2 (prd N l)) := by
  have := g.1.2
  have := g.2.1.2
  have := nA_lt g hl
  have := nB_lt g hl
  unfold FX4_isPair
  simp (disch := omega) only [C_hasLink_y g h hl, (h.2.2.1 l hl).1, (h.2.2.1 l hl).2.1, NA g hl, NB g hl, C_partnerOf_y g h hs, ob_some, mx_letI, mx_chkT, mx_inb_i3, mx_inb_lit, lit_toNat, i3_toNat, i3_le, i3_lt, i3_leL, i3_Lle, i3_ltL, i3_Llt, i3_neg, i3_eq, i3_eqL, i3_ne1, i3_add, i3_addL, i3_Ladd, i3_mul, i3_mulL, i3_Lmul, mx_b01_0, mx_b01_1, b2_01, b2_0, b2_1, se_inl, se_inr, if_true, if_false, e10, e01, e00, e11, em1, em1lt, Nat.not_lt_zero]
  rw [sm_ite]
  unfold prd b2
  simp only [decide_eq_true_eq]
theorem C_slackOf_L (g : GI N) (s : SI N) (hs : CS c a N) {l : Nat} (hl : l < nL N) : FX4_slackOf_L62 a (pw (nA N l) ||| pw (nB N l)) c mx_FU (N (168 + nA N l) + N (168 + nB N l) - 2 * N (128 + l)) (i3 0) = some (slk N l) := by
  have := g.1.2
  have := s.1.2
  have := nA_lt g hl
  have := nB_lt g hl
  refine lp_fo (L := fun f y t => FX4_slackOf_L62 a (pw (nA N l) ||| pw (nB N l)) c f t y) (n := nK N) _ (fun t => t) _ ?_ ?_ mx_FU (FU_lt (by omega))
  · intro f t
    show FX4_slackOf_L62 a (pw (nA N l) ||| pw (nB N l)) c (f + 1) t (i3 (nK N)) = _
    rw [FX4_slackOf_L62]
    simp (disch := omega) only [C2 s hs, Nat.le_refl, Nat.reduceAdd, ob_some, mx_letI, mx_chkT, mx_inb_i3, mx_inb_lit, lit_toNat, i3_toNat, i3_le, i3_lt, i3_leL, i3_Lle, i3_ltL, i3_Llt, i3_neg, i3_eq, i3_eqL, i3_ne1, i3_add, i3_addL, i3_Ladd, i3_mul, i3_mulL, i3_Lmul, mx_b01_0, mx_b01_1, b2_01, b2_0, b2_1, se_inl, se_inr, if_true, if_false, e10, e01, e00, e11, em1, em1lt, Nat.not_lt_zero, if_pos, if_neg]
  · intro f k t hk
    show FX4_slackOf_L62 a (pw (nA N l) ||| pw (nB N l)) c (f + 1) t (i3 k) = FX4_slackOf_L62 a (pw (nA N l) ||| pw (nB N l)) c f _ (i3 (k + 1))
    rw [FX4_slackOf_L62]
    simp (disch := omega) only [C2 s hs, (hs.2.2 k hk).1, (hs.2.2 k hk).2, Nat.reduceAdd, ob_some, mx_letI, mx_chkT, mx_inb_i3, mx_inb_lit, lit_toNat, i3_toNat, i3_le, i3_lt, i3_leL, i3_Lle, i3_ltL, i3_Llt, i3_neg, i3_eq, i3_eqL, i3_ne1, i3_add, i3_addL, i3_Ladd, i3_mul, i3_mulL, i3_Lmul, mx_b01_0, mx_b01_1, b2_01, b2_0, b2_1, se_inl, se_inr, if_true, if_false, e10, e01, e00, e11, em1, em1lt, Nat.not_lt_zero]
    rw [if_neg (by omega), if_neg (by omega)]
    simp (disch := omega) only [both_iff]
    split <;> rfl

theorem C_slackOf_y (g : GI N) (s : SI N) (h : CG c a N) (hs : CS c a N) {l : Nat} (hl : l < nL N) : FX4_slackOf a (i3 l) c = some (slk N l) := by
  have := g.1.2
  have := g.2.1.2
  have := nA_lt g hl
  have := nB_lt g hl
  have e := C_slackOf_L g s hs hl
  unfold FX4_slackOf
  simp (disch := omega) only [C_hasLink_y g h hl, (h.2.2.1 l hl).1, (h.2.2.1 l hl).2.1, (h.2.2.1 l hl).2.2, NA g hl, NB g hl, C_priceOf_y g h hs, pw_eq, ob_some, mx_letI, mx_chkT, mx_inb_i3, mx_inb_lit, lit_toNat, i3_toNat, i3_le, i3_lt, i3_leL, i3_Lle, i3_ltL, i3_Llt, i3_neg, i3_eq, i3_eqL, i3_ne1, i3_add, i3_addL, i3_Ladd, i3_mul, i3_mulL, i3_Lmul, mx_b01_0, mx_b01_1, b2_01, b2_0, b2_1, se_inl, se_inr, if_true, if_false, e10, e01, e00, e11, em1, em1lt, Nat.not_lt_zero]
  rw [i3_zero, e]
  rfl
theorem C_total_L (g : GI N) (s : SI N) (h : CG c a N) (hs : CS c a N) : FX4_total_L4 a c mx_FU 0 (i3 0) = some (tot N) := by
  have := g.2.1.2
  refine lp_fo (L := fun f y t => FX4_total_L4 a c f t y) (n := nL N) _ (fun t => t) _ ?_ ?_ mx_FU (FU_lt (by omega))
  · intro f t
    show FX4_total_L4 a c (f + 1) t (i3 (nL N)) = _
    rw [FX4_total_L4]
    simp (disch := omega) only [C1 g h, Nat.le_refl, Nat.reduceAdd, ob_some, mx_letI, mx_chkT, mx_inb_i3, mx_inb_lit, lit_toNat, i3_toNat, i3_le, i3_lt, i3_leL, i3_Lle, i3_ltL, i3_Llt, i3_neg, i3_eq, i3_eqL, i3_ne1, i3_add, i3_addL, i3_Ladd, i3_mul, i3_mulL, i3_Lmul, mx_b01_0, mx_b01_1, b2_01, b2_0, b2_1, se_inl, se_inr, if_true, if_false, e10, e01, e00, e11, em1, em1lt, Nat.not_lt_zero, if_pos, if_neg]
  · intro f k t hk
    show FX4_total_L4 a c (f + 1) t (i3 k) = FX4_total_L4 a c f _ (i3 (k + 1))
    rw [FX4_total_L4]
    simp (disch := omega) only [C1 g h, C_isPair_y g h hs hk, C_weightAt_y g h hk, Nat.reduceAdd, ob_some, mx_letI, mx_chkT, mx_inb_i3, mx_inb_lit, lit_toNat, i3_toNat, i3_le, i3_lt, i3_leL, i3_Lle, i3_ltL, i3_Llt, i3_neg, i3_eq, i3_eqL, i3_ne1, i3_add, i3_addL, i3_Ladd, i3_mul, i3_mulL, i3_Lmul, mx_b01_0, mx_b01_1, b2_01, b2_0, b2_1, se_inl, se_inr, if_true, if_false, e10, e01, e00, e11, em1, em1lt, Nat.not_lt_zero]
    rw [if_neg (by omega)]
    cases prd N k <;> rfl

theorem C_total (g : GI N) (s : SI N) (h : CG c a N) (hs : CS c a N) : FX4_total a c = some (tot N) := by
  have e := C_total_L g s h hs
  rw [show (0 : Int32) = i3 0 from rfl] at e
  unfold FX4_total
  rw [show (0 : Int32) = i3 0 from rfl, e]
  rfl
theorem C_pairs_L (g : GI N) (s : SI N) (h : CG c a N) (hs : CS c a N) : FX4_pairs_L4 a c mx_FU 0 (i3 0) = some (prs N) := by
  have := g.2.1.2
  refine lp_fo (L := fun f y t => FX4_pairs_L4 a c f t y) (n := nL N) _ (fun t => t) _ ?_ ?_ mx_FU (FU_lt (by omega))
  · intro f t
    show FX4_pairs_L4 a c (f + 1) t (i3 (nL N)) = _
    rw [FX4_pairs_L4]
    simp (disch := omega) only [C1 g h, Nat.le_refl, Nat.reduceAdd, ob_some, mx_letI, mx_chkT, mx_inb_i3, mx_inb_lit, lit_toNat, i3_toNat, i3_le, i3_lt, i3_leL, i3_Lle, i3_ltL, i3_Llt, i3_neg, i3_eq, i3_eqL, i3_ne1, i3_add, i3_addL, i3_Ladd, i3_mul, i3_mulL, i3_Lmul, mx_b01_0, mx_b01_1, b2_01, b2_0, b2_1, se_inl, se_inr, if_true, if_false, e10, e01, e00, e11, em1, em1lt, Nat.not_lt_zero, if_pos, if_neg]
  · intro f k t hk
    show FX4_pairs_L4 a c (f + 1) t (i3 k) = FX4_pairs_L4 a c f _ (i3 (k + 1))
    rw [FX4_pairs_L4]
    simp (disch := omega) only [C1 g h, C_isPair_y g h hs hk, Nat.reduceAdd, ob_some, mx_letI, mx_chkT, mx_inb_i3, mx_inb_lit, lit_toNat, i3_toNat, i3_le, i3_lt, i3_leL, i3_Lle, i3_ltL, i3_Llt, i3_neg, i3_eq, i3_eqL, i3_ne1, i3_add, i3_addL, i3_Ladd, i3_mul, i3_mulL, i3_Lmul, mx_b01_0, mx_b01_1, b2_01, b2_0, b2_1, se_inl, se_inr, if_true, if_false, e10, e01, e00, e11, em1, em1lt, Nat.not_lt_zero]
    rw [if_neg (by omega)]
    cases prd N k <;> rfl

theorem C_pairs (g : GI N) (s : SI N) (h : CG c a N) (hs : CS c a N) : FX4_pairs a c = some (prs N) := by
  have e := C_pairs_L g s h hs
  rw [show (0 : Int32) = i3 0 from rfl] at e
  unfold FX4_pairs
  rw [show (0 : Int32) = i3 0 from rfl, e]
  rfl
theorem C_tightLinks_L (g : GI N) (s : SI N) (h : CG c a N) (hs : CS c a N) : FX4_tightLinks_L4 a c mx_FU 0 (i3 0) = some (tgl N) := by
  have := g.2.1.2
  refine lp_fo (L := fun f y t => FX4_tightLinks_L4 a c f t y) (n := nL N) _ (fun t => t) _ ?_ ?_ mx_FU (FU_lt (by omega))
  · intro f t
    show FX4_tightLinks_L4 a c (f + 1) t (i3 (nL N)) = _
    rw [FX4_tightLinks_L4]
    simp (disch := omega) only [C1 g h, Nat.le_refl, Nat.reduceAdd, ob_some, mx_letI, mx_chkT, mx_inb_i3, mx_inb_lit, lit_toNat, i3_toNat, i3_le, i3_lt, i3_leL, i3_Lle, i3_ltL, i3_Llt, i3_neg, i3_eq, i3_eqL, i3_ne1, i3_add, i3_addL, i3_Ladd, i3_mul, i3_mulL, i3_Lmul, mx_b01_0, mx_b01_1, b2_01, b2_0, b2_1, se_inl, se_inr, if_true, if_false, e10, e01, e00, e11, em1, em1lt, Nat.not_lt_zero, if_pos, if_neg]
  · intro f k t hk
    show FX4_tightLinks_L4 a c (f + 1) t (i3 k) = FX4_tightLinks_L4 a c f _ (i3 (k + 1))
    rw [FX4_tightLinks_L4]
    simp (disch := omega) only [C1 g h, C_slackOf_y g s h hs hk, Nat.reduceAdd, ob_some, mx_letI, mx_chkT, mx_inb_i3, mx_inb_lit, lit_toNat, i3_toNat, i3_le, i3_lt, i3_leL, i3_Lle, i3_ltL, i3_Llt, i3_neg, i3_eq, i3_eqL, i3_ne1, i3_add, i3_addL, i3_Ladd, i3_mul, i3_mulL, i3_Lmul, mx_b01_0, mx_b01_1, b2_01, b2_0, b2_1, se_inl, se_inr, if_true, if_false, e10, e01, e00, e11, em1, em1lt, Nat.not_lt_zero]
    rw [if_neg (by omega)]
    split <;> rfl

theorem C_tightLinks (g : GI N) (s : SI N) (h : CG c a N) (hs : CS c a N) : FX4_tightLinks a c = some (tgl N) := by
  have e := C_tightLinks_L g s h hs
  rw [show (0 : Int32) = i3 0 from rfl] at e
  unfold FX4_tightLinks
  rw [show (0 : Int32) = i3 0 from rfl, e]
  rfl
theorem C_lonePoints_L (g : GI N) (s : SI N) (h : CG c a N) (hs : CS c a N) : FX4_lonePoints_L4 a c mx_FU 0 (i3 0) = some (lnp N) := by
  have := g.1.2
  refine lp_fo (L := fun f y t => FX4_lonePoints_L4 a c f t y) (n := nP N) _ (fun t => t) _ ?_ ?_ mx_FU (FU_lt (by omega))
  · intro f t
    show FX4_lonePoints_L4 a c (f + 1) t (i3 (nP N)) = _
    rw [FX4_lonePoints_L4]
    simp (disch := omega) only [C0 g h, Nat.le_refl, Nat.reduceAdd, ob_some, mx_letI, mx_chkT, mx_inb_i3, mx_inb_lit, lit_toNat, i3_toNat, i3_le, i3_lt, i3_leL, i3_Lle, i3_ltL, i3_Llt, i3_neg, i3_eq, i3_eqL, i3_ne1, i3_add, i3_addL, i3_Ladd, i3_mul, i3_mulL, i3_Lmul, mx_b01_0, mx_b01_1, b2_01, b2_0, b2_1, se_inl, se_inr, if_true, if_false, e10, e01, e00, e11, em1, em1lt, Nat.not_lt_zero, if_pos, if_neg]
  · intro f k t hk
    show FX4_lonePoints_L4 a c (f + 1) t (i3 k) = FX4_lonePoints_L4 a c f _ (i3 (k + 1))
    rw [FX4_lonePoints_L4]
    simp (disch := omega) only [C0 g h, C_isLone_y g h hs hk, Nat.reduceAdd, ob_some, mx_letI, mx_chkT, mx_inb_i3, mx_inb_lit, lit_toNat, i3_toNat, i3_le, i3_lt, i3_leL, i3_Lle, i3_ltL, i3_Llt, i3_neg, i3_eq, i3_eqL, i3_ne1, i3_add, i3_addL, i3_Ladd, i3_mul, i3_mulL, i3_Lmul, mx_b01_0, mx_b01_1, b2_01, b2_0, b2_1, se_inl, se_inr, if_true, if_false, e10, e01, e00, e11, em1, em1lt, Nat.not_lt_zero]
    rw [if_neg (by omega)]
    unfold lone
    split <;> rename_i q <;> simp only [q] <;> rfl

theorem C_lonePoints (g : GI N) (s : SI N) (h : CG c a N) (hs : CS c a N) : FX4_lonePoints a c = some (lnp N) := by
  have e := C_lonePoints_L g s h hs
  rw [show (0 : Int32) = i3 0 from rfl] at e
  unfold FX4_lonePoints
  rw [show (0 : Int32) = i3 0 from rfl, e]
  rfl
theorem C_setsWith_L (g : GI N) (s : SI N) (hs : CS c a N) {p : Nat} (hp : p < nP N) : FX4_setsWith_L4 a (i3 p) c mx_FU 0 (i3 0) = some (stw N p) := by
  have := g.1.2
  have := s.1.2
  refine lp_fo (L := fun f y t => FX4_setsWith_L4 a (i3 p) c f t y) (n := nK N) _ (fun t => t) _ ?_ ?_ mx_FU (FU_lt (by omega))
  · intro f t
    show FX4_setsWith_L4 a (i3 p) c (f + 1) t (i3 (nK N)) = _
    rw [FX4_setsWith_L4]
    simp (disch := omega) only [C2 s hs, Nat.le_refl, Nat.reduceAdd, ob_some, mx_letI, mx_chkT, mx_inb_i3, mx_inb_lit, lit_toNat, i3_toNat, i3_le, i3_lt, i3_leL, i3_Lle, i3_ltL, i3_Llt, i3_neg, i3_eq, i3_eqL, i3_ne1, i3_add, i3_addL, i3_Ladd, i3_mul, i3_mulL, i3_Lmul, mx_b01_0, mx_b01_1, b2_01, b2_0, b2_1, se_inl, se_inr, if_true, if_false, e10, e01, e00, e11, em1, em1lt, Nat.not_lt_zero, if_pos, if_neg]
  · intro f k t hk
    show FX4_setsWith_L4 a (i3 p) c (f + 1) t (i3 k) = FX4_setsWith_L4 a (i3 p) c f _ (i3 (k + 1))
    rw [FX4_setsWith_L4]
    simp (disch := omega) only [C2 s hs, (hs.2.2 k hk).1, bt_sh, Nat.reduceAdd, ob_some, mx_letI, mx_chkT, mx_inb_i3, mx_inb_lit, lit_toNat, i3_toNat, i3_le, i3_lt, i3_leL, i3_Lle, i3_ltL, i3_Llt, i3_neg, i3_eq, i3_eqL, i3_ne1, i3_add, i3_addL, i3_Ladd, i3_mul, i3_mulL, i3_Lmul, mx_b01_0, mx_b01_1, b2_01, b2_0, b2_1, se_inl, se_inr, if_true, if_false, e10, e01, e00, e11, em1, em1lt, Nat.not_lt_zero]
    rw [if_neg (by omega), if_neg (by omega)]
    cases bt (N (178 + k)) p <;> rfl

theorem C_setsWith (g : GI N) (s : SI N) (hs : CS c a N) {p : Nat} (hp : p < nP N) : FX4_setsWith a (i3 p) c = some (stw N p) := by
  have e := C_setsWith_L g s hs hp
  rw [show (0 : Int32) = i3 0 from rfl] at e
  unfold FX4_setsWith
  rw [show (0 : Int32) = i3 0 from rfl, e]
  rfl
theorem C_otherEnd_y (g : GI N) (h : CG c a N) {l p : Nat} (hl : l < nL N) (hp : p < nP N) : FX4_otherEnd a (i3 l) (i3 p) c = some (if nA N l = p ∨ nB N l = p then pw (nA N l + nB N l - p) else 0) := by
  have := g.1.2
  have := nA_lt g hl
  have := nB_lt g hl
  unfold FX4_otherEnd
  simp (disch := omega) only [C_fromOf_y g h hl, C_toOf_y g h hl, ob_some, mx_letI, mx_chkT, mx_inb_i3, mx_inb_lit, lit_toNat, i3_toNat, i3_le, i3_lt, i3_leL, i3_Lle, i3_ltL, i3_Llt, i3_neg, i3_eq, i3_eqL, i3_ne1, i3_add, i3_addL, i3_Ladd, i3_mul, i3_mulL, i3_Lmul, mx_b01_0, mx_b01_1, b2_01, b2_0, b2_1, se_inl, se_inr, if_true, if_false, e10, e01, e00, e11, em1, em1lt, Nat.not_lt_zero]
  by_cases h1 : nA N l = p
  · rw [if_pos h1, if_pos (Or.inl h1), h1, Nat.add_sub_cancel_left]
    rfl
  · by_cases h2 : nB N l = p
    · rw [if_neg h1, if_pos h2, if_pos (Or.inr h2), h2, Nat.add_sub_cancel]
      rfl
    · rw [if_neg h1, if_neg h2, if_neg (by omega)]
theorem C_tightTo_L (g : GI N) (s : SI N) (h : CG c a N) (hs : CS c a N) {p : Nat} (hp : p < nP N) : FX4_tightTo_L4 a (i3 p) c mx_FU 0 (i3 0) = some (ptn N p true) := by
  have := g.2.1.2
  refine lp_fo (L := fun f y t => FX4_tightTo_L4 a (i3 p) c f t y) (n := nL N) _ (fun t => t) _ ?_ ?_ mx_FU (FU_lt (by omega))
  · intro f t
    show FX4_tightTo_L4 a (i3 p) c (f + 1) t (i3 (nL N)) = _
    rw [FX4_tightTo_L4]
    simp (disch := omega) only [C1 g h, Nat.le_refl, Nat.reduceAdd, ob_some, mx_letI, mx_chkT, mx_inb_i3, mx_inb_lit, lit_toNat, i3_toNat, i3_le, i3_lt, i3_leL, i3_Lle, i3_ltL, i3_Llt, i3_neg, i3_eq, i3_eqL, i3_ne1, i3_add, i3_addL, i3_Ladd, i3_mul, i3_mulL, i3_Lmul, mx_b01_0, mx_b01_1, b2_01, b2_0, b2_1, se_inl, se_inr, if_true, if_false, e10, e01, e00, e11, em1, em1lt, Nat.not_lt_zero, if_pos, if_neg]
  · intro f k t hk
    show FX4_tightTo_L4 a (i3 p) c (f + 1) t (i3 k) = FX4_tightTo_L4 a (i3 p) c f _ (i3 (k + 1))
    rw [FX4_tightTo_L4]
    simp (disch := omega) only [C1 g h, C_slackOf_y g s h hs hk, C_otherEnd_y g h hk hp, Nat.reduceAdd, ob_some, mx_letI, mx_chkT, mx_inb_i3, mx_inb_lit, lit_toNat, i3_toNat, i3_le, i3_lt, i3_leL, i3_Lle, i3_ltL, i3_Llt, i3_neg, i3_eq, i3_eqL, i3_ne1, i3_add, i3_addL, i3_Ladd, i3_mul, i3_mulL, i3_Lmul, mx_b01_0, mx_b01_1, b2_01, b2_0, b2_1, se_inl, se_inr, if_true, if_false, e10, e01, e00, e11, em1, em1lt, Nat.not_lt_zero]
    rw [if_neg (by omega)]
    by_cases h1 : slk N k = 0 <;> by_cases h2 : nA N k = p ∨ nB N k = p <;> simp [h1, h2]

theorem C_tightTo (g : GI N) (s : SI N) (h : CG c a N) (hs : CS c a N) {p : Nat} (hp : p < nP N) : FX4_tightTo a (i3 p) c = some (ptn N p true) := by
  have e := C_tightTo_L g s h hs hp
  rw [show (0 : Int32) = i3 0 from rfl] at e
  unfold FX4_tightTo
  rw [show (0 : Int32) = i3 0 from rfl, e]
  rfl
theorem C_pairsWithin_L (g : GI N) (s : SI N) (h : CG c a N) (hs : CS c a N) (x : Int32) : FX4_pairsWithin_L11 a x c mx_FU 0 (i3 0) = some (pwi N x) := by
  have := g.2.1.2
  have := g.1.2
  refine lp_fo (L := fun f y t => FX4_pairsWithin_L11 a x c f t y) (n := nL N) _ (fun t => t) _ ?_ ?_ mx_FU (FU_lt (by omega))
  · intro f t
    show FX4_pairsWithin_L11 a x c (f + 1) t (i3 (nL N)) = _
    rw [FX4_pairsWithin_L11]
    simp (disch := omega) only [C1 g h, Nat.le_refl, Nat.reduceAdd, ob_some, mx_letI, mx_chkT, mx_inb_i3, mx_inb_lit, lit_toNat, i3_toNat, i3_le, i3_lt, i3_leL, i3_Lle, i3_ltL, i3_Llt, i3_neg, i3_eq, i3_eqL, i3_ne1, i3_add, i3_addL, i3_Ladd, i3_mul, i3_mulL, i3_Lmul, mx_b01_0, mx_b01_1, b2_01, b2_0, b2_1, se_inl, se_inr, if_true, if_false, e10, e01, e00, e11, em1, em1lt, Nat.not_lt_zero, if_pos, if_neg]
  · intro f k t hk
    show FX4_pairsWithin_L11 a x c (f + 1) t (i3 k) = FX4_pairsWithin_L11 a x c f _ (i3 (k + 1))
    rw [FX4_pairsWithin_L11]
    simp (disch := omega) only [C1 g h, C_isPair_y g h hs hk, C_fromOf_y g h hk, C_toOf_y g h hk, Nat.reduceAdd, ob_some, mx_letI, mx_chkT, mx_inb_i3, mx_inb_lit, lit_toNat, i3_toNat, i3_le, i3_lt, i3_leL, i3_Lle, i3_ltL, i3_Llt, i3_neg, i3_eq, i3_eqL, i3_ne1, i3_add, i3_addL, i3_Ladd, i3_mul, i3_mulL, i3_Lmul, mx_b01_0, mx_b01_1, b2_01, b2_0, b2_1, se_inl, se_inr, if_true, if_false, e10, e01, e00, e11, em1, em1lt, Nat.not_lt_zero]
    rw [if_neg (by omega)]
    have := nA_lt g hk
    have := nB_lt g hk
    simp (disch := omega) only [within_iff]
    cases prd N k <;> cases bt x (nA N k) <;> cases bt x (nB N k) <;> rfl

theorem C_pairsWithin (g : GI N) (s : SI N) (h : CG c a N) (hs : CS c a N) {k : Nat} (hk : k < nK N) : FX4_pairsWithin a (i3 k) c = some (pwi N (N (178 + k))) := by
  have e := C_pairsWithin_L g s h hs (N (178 + k))
  rw [show (0 : Int32) = i3 0 from rfl] at e
  unfold FX4_pairsWithin
  simp only [C_membersOf_y s hs hk, ob_some, mx_letI]
  rw [show (0 : Int32) = i3 0 from rfl, e]
  rfl
theorem C_fullPairs (g : GI N) (s : SI N) (h : CS c a N) {k : Nat} (hk : k < nK N) : FX4_fullPairs a (i3 k) c = some (hlf (N (178 + k))) := by
  obtain ⟨t, h1, h2, -, h3⟩ := set_lt g s hk
  unfold FX4_fullPairs
  have h4 := @pc_le t
  simp (disch := omega) only [C_membersOf_y s h hk, h1, J_bitCount _ h2, i3_subL, i3_divL, hlf, ob_some, mx_letI, mx_chkT, mx_inb_i3, mx_inb_lit, lit_toNat, i3_toNat, i3_le, i3_lt, i3_leL, i3_Lle, i3_ltL, i3_Llt, i3_neg, i3_eq, i3_eqL, i3_ne1, i3_add, i3_addL, i3_Ladd, i3_mul, i3_mulL, i3_Lmul, mx_b01_0, mx_b01_1, b2_01, b2_0, b2_1, se_inl, se_inr, if_true, if_false, e10, e01, e00, e11, em1, em1lt, Nat.not_lt_zero]
  congr 2
  omega
theorem C_bound_L1 (g : GI N) (s : SI N) (h : CG c a N) (hs : CS c a N) : FX4_bound_L4 a c mx_FU 0 (i3 0) = some (bd1 N) := by
  have := g.1.2
  refine lp_fo (L := fun f y t => FX4_bound_L4 a c f t y) (n := nP N) _ (fun t => t) _ ?_ ?_ mx_FU (FU_lt (by omega))
  · intro f t
    show FX4_bound_L4 a c (f + 1) t (i3 (nP N)) = _
    rw [FX4_bound_L4]
    simp (disch := omega) only [C0 g h, Nat.le_refl, Nat.reduceAdd, ob_some, mx_letI, mx_chkT, mx_inb_i3, mx_inb_lit, lit_toNat, i3_toNat, i3_le, i3_lt, i3_leL, i3_Lle, i3_ltL, i3_Llt, i3_neg, i3_eq, i3_eqL, i3_ne1, i3_add, i3_addL, i3_Ladd, i3_mul, i3_mulL, i3_Lmul, mx_b01_0, mx_b01_1, b2_01, b2_0, b2_1, se_inl, se_inr, if_true, if_false, e10, e01, e00, e11, em1, em1lt, Nat.not_lt_zero, if_pos, if_neg]
  · intro f k t hk
    show FX4_bound_L4 a c (f + 1) t (i3 k) = FX4_bound_L4 a c f _ (i3 (k + 1))
    rw [FX4_bound_L4]
    simp (disch := omega) only [C0 g h, C_priceOf_y g h hs hk, Nat.reduceAdd, ob_some, mx_letI, mx_chkT, mx_inb_i3, mx_inb_lit, lit_toNat, i3_toNat, i3_le, i3_lt, i3_leL, i3_Lle, i3_ltL, i3_Llt, i3_neg, i3_eq, i3_eqL, i3_ne1, i3_add, i3_addL, i3_Ladd, i3_mul, i3_mulL, i3_Lmul, mx_b01_0, mx_b01_1, b2_01, b2_0, b2_1, se_inl, se_inr, if_true, if_false, e10, e01, e00, e11, em1, em1lt, Nat.not_lt_zero]
    rw [if_neg (by omega)]

theorem C_bound_L2 (g : GI N) (s : SI N) (h : CG c a N) (hs : CS c a N) : FX4_bound_L28 a c mx_FU (bd1 N) (i3 0) = some (bnd N) := by
  have := s.1.2
  refine lp_fo (L := fun f y t => FX4_bound_L28 a c f t y) (n := nK N) _ (fun t => t) _ ?_ ?_ mx_FU (FU_lt (by omega))
  · intro f t
    show FX4_bound_L28 a c (f + 1) t (i3 (nK N)) = _
    rw [FX4_bound_L28]
    simp (disch := omega) only [C2 s hs, Nat.le_refl, Nat.reduceAdd, ob_some, mx_letI, mx_chkT, mx_inb_i3, mx_inb_lit, lit_toNat, i3_toNat, i3_le, i3_lt, i3_leL, i3_Lle, i3_ltL, i3_Llt, i3_neg, i3_eq, i3_eqL, i3_ne1, i3_add, i3_addL, i3_Ladd, i3_mul, i3_mulL, i3_Lmul, mx_b01_0, mx_b01_1, b2_01, b2_0, b2_1, se_inl, se_inr, if_true, if_false, e10, e01, e00, e11, em1, em1lt, Nat.not_lt_zero, if_pos, if_neg]
  · intro f k t hk
    show FX4_bound_L28 a c (f + 1) t (i3 k) = FX4_bound_L28 a c f _ (i3 (k + 1))
    rw [FX4_bound_L28]
    simp (disch := omega) only [C2 s hs, C_crownOf_y s hs hk, C_fullPairs g s hs hk, Nat.reduceAdd, ob_some, mx_letI, mx_chkT, mx_inb_i3, mx_inb_lit, lit_toNat, i3_toNat, i3_le, i3_lt, i3_leL, i3_Lle, i3_ltL, i3_Llt, i3_neg, i3_eq, i3_eqL, i3_ne1, i3_add, i3_addL, i3_Ladd, i3_mul, i3_mulL, i3_Lmul, mx_b01_0, mx_b01_1, b2_01, b2_0, b2_1, se_inl, se_inr, if_true, if_false, e10, e01, e00, e11, em1, em1lt, Nat.not_lt_zero]
    rw [if_neg (by omega)]

theorem C_bound (g : GI N) (s : SI N) (h : CG c a N) (hs : CS c a N) : FX4_bound a c = some (bnd N) := by
  have e := C_bound_L1 g s h hs
  have e2 := C_bound_L2 g s h hs
  rw [show (0 : Int32) = i3 0 from rfl] at e
  unfold FX4_bound
  rw [show (0 : Int32) = i3 0 from rfl, e]
  simp only [ob_some, e2]
theorem C_roomOf_L (g : GI N) (s : SI N) (h : CG c a N) (hs : CS c a N) {p : Nat} (hp : p < nP N) : FX4_roomOf_L8 a (i3 p) c mx_FU (N (168 + p)) (i3 0) = some (rmo N p) := by
  have := g.2.1.2
  have := g.1.2
  refine lp_fo (L := fun f y t => FX4_roomOf_L8 a (i3 p) c f t y) (n := nL N) _ (fun t => t) _ ?_ ?_ mx_FU (FU_lt (by omega))
  · intro f t
    show FX4_roomOf_L8 a (i3 p) c (f + 1) t (i3 (nL N)) = _
    rw [FX4_roomOf_L8]
    simp (disch := omega) only [C1 g h, Nat.le_refl, Nat.reduceAdd, ob_some, mx_letI, mx_chkT, mx_inb_i3, mx_inb_lit, lit_toNat, i3_toNat, i3_le, i3_lt, i3_leL, i3_Lle, i3_ltL, i3_Llt, i3_neg, i3_eq, i3_eqL, i3_ne1, i3_add, i3_addL, i3_Ladd, i3_mul, i3_mulL, i3_Lmul, mx_b01_0, mx_b01_1, b2_01, b2_0, b2_1, se_inl, se_inr, if_true, if_false, e10, e01, e00, e11, em1, em1lt, Nat.not_lt_zero, if_pos, if_neg]
  · intro f k t hk
    show FX4_roomOf_L8 a (i3 p) c (f + 1) t (i3 k) = FX4_roomOf_L8 a (i3 p) c f _ (i3 (k + 1))
    rw [FX4_roomOf_L8]
    simp (disch := omega) only [C1 g h, C_slackOf_y g s h hs hk, C_otherEnd_y g h hk hp, FJ9_min_7cf53, sm_ite, Nat.reduceAdd, ob_some, mx_letI, mx_chkT, mx_inb_i3, mx_inb_lit, lit_toNat, i3_toNat, i3_le, i3_lt, i3_leL, i3_Lle, i3_ltL, i3_Llt, i3_neg, i3_eq, i3_eqL, i3_ne1, i3_add, i3_addL, i3_Ladd, i3_mul, i3_mulL, i3_Lmul, mx_b01_0, mx_b01_1, b2_01, b2_0, b2_1, se_inl, se_inr, if_true, if_false, e10, e01, e00, e11, em1, em1lt, Nat.not_lt_zero]
    rw [if_neg (by omega)]
    have := nA_lt g hk
    have := nB_lt g hk
    have h3 : (nA N k = p ∨ nB N k = p) → (pw (nA N k + nB N k - p) = 0) = False := fun q => pw_ne0 (by omega)
    by_cases h2 : nA N k = p ∨ nB N k = p <;> by_cases h4 : slk N k < t <;> simp [h2, h4] <;> exact fun q => absurd q (by rw [h3 h2]; exact not_false)

theorem C_roomOf (g : GI N) (s : SI N) (h : CG c a N) (hs : CS c a N) {p : Nat} (hp : p < nP N) : FX4_roomOf a (i3 p) c = some (if 0 < rmo N p then rmo N p else 0) := by
  have e := C_roomOf_L g s h hs hp
  unfold FX4_roomOf
  simp only [C_priceOf_y g h hs hp, ob_some]
  rw [show (0 : Int32) = i3 0 from rfl, e]
  simp only [FJ9_max_7cf53, ob_some, sm_ite]
end ASKB
