/-! ===== the class tells the first best pairing ===== -/
section BESTC
variable {m m1 : mB} {N : Rw}
theorem HL_mv (g : GI N) (h : HL m N) {S : Nat → Nat → Prop} (z : mx_out S m m1) (hS : ∀ b j, S b j → (b = 45 ∧ j ≠ 1 ∧ j ≠ 3 ∧ j ≠ 5) ∨ b < 45 ∨ 61 < b) : HL m1 N := by
  obtain ⟨h1, h2, h3, h4, h5, h6⟩ := h
  have cel : ∀ b, 45 < b → b ≤ 61 → m1.1 b = m.1 b := fun b hb hb2 => z.cell b (fun j q => by have := hS b j q; omega)
  have fl : ∀ j, (j = 1 ∨ j = 3 ∨ j = 5) → m1.1 45 j = m.1 45 j := fun j hj => z.fld 45 j (fun q => by have := hS 45 j q; omega)
  have c57 := cel 57 (by omega) (by omega)
  refine ⟨by rw [fl 1 (by omega)]; exact h1, CG_mv g h2 (by rw [cel 46 (by omega) (by omega)]) (by rw [cel 46 (by omega) (by omega)]) (cel _ (by omega) (by omega)) (cel _ (by omega) (by omega)) (cel _ (by omega) (by omega)) (cel _ (by omega) (by omega)) (cel _ (by omega) (by omega)) (fun _ _ => rfl) (fun _ _ => rfl), by rw [fl 3 (by omega)]; exact h3, MI_57 c57 (fl 5 (by omega)) h4, fun j hj hne => ?_, by rw [c57]; exact h6⟩
  rw [c57] at hne
  obtain ⟨sl, L, c1, c2, c3, c4, c6⟩ := h5 j hj hne
  exact ⟨sl, L, c1, by rw [c57]; exact c2, SLT_mv c3 (by rw [cel 58 (by omega) (by omega)]) (by rw [cel 59 (by omega) (by omega)]) (fun i hi => ⟨by rw [cel 60 (by omega) (by omega)], by rw [cel 61 (by omega) (by omega)]⟩), c4, fun h0 => by rw [c57]; exact c6 h0⟩
theorem C_mxt (g : GI N) (s : SI N) (h : HL m N) {x : Nat} (hx : x < 2 ^ nP N) (hne : m.1 57 x ≠ -1) : FX2_topFor 45 (i3 x) m = some (i3 (mxt N x)) := by
  have h10 := pow10 g.1.2 hx
  obtain ⟨t, s', e, ht⟩ := C_topFor h10 (h.2.2.2.2.1 x (by omega) hne)
  rw [e, isTS_mxt ht (tl_b g s x h10).2.1, z3_i3]
/-- a set that has its slot -/
def kn (m : mB) (N : Rw) (x : Nat) : Prop := x < 2 ^ nP N ∧ m.1 57 x ≠ -1
theorem kn_all (h : HL m N) : kn m N (2 ^ nP N - 1) := ⟨by have := Nat.two_pow_pos (nP N); omega, h.2.2.2.2.2⟩
theorem kn_lone (g : GI N) (h : HL m N) {x : Nat} (k : kn m N x) (h0 : x ≠ 0) : kn m N (clr x (lst x)) := by
  have h10 := pow10 g.1.2 k.1
  obtain ⟨l1, l2⟩ := lst_ok x h10 h0
  have lp := bit_lt k.1 l2
  obtain ⟨sl, L, c1, c2, c3, c4, c6⟩ := h.2.2.2.2.1 x (by have := k.1; omega) k.2
  exact ⟨clr_pw _ (by have := g.1.2; omega) x k.1 _ lp, (c6 h0).1⟩
theorem kn_pair (g : GI N) (h : HL m N) {x q : Nat} (k : kn m N x) (h0 : x ≠ 0) (hq : q < 10) (hb : (clr x (lst x)).testBit q = true) (hl : lk N (lst x) q = true) : kn m N (clr (clr x (lst x)) q) := by
  obtain ⟨sl, L, c1, c2, c3, c4, c6⟩ := h.2.2.2.2.1 x (by have := k.1; omega) k.2
  exact ⟨clr_pw _ (by have := g.1.2; omega) _ (kn_lone g h k h0).1 _ (lk_lt g hl).2.1, (c6 h0).2 q hq hb hl⟩
theorem kn_mv (h57 : m1.1 57 = m.1 57) {x : Nat} (k : kn m N x) : kn m1 N x := ⟨k.1, by rw [h57]; exact k.2⟩
theorem C_keeps (g : GI N) (s : SI N) (h : HL m N) {x q : Nat} (k : kn m N x) (h0 : x ≠ 0) (hq : q < 10) (hb : (clr x (lst x)).testBit q = true) (hl : lk N (lst x) q = true) :
    FX2_keepsTop 45 (i3 (lst x)) (i3 q) (i3 x) m = some (b2 (decide (Wt N (lst x) q + mxt N (clr (clr x (lst x)) q) = mxt N x))) := by
  have h10 := pow10 g.1.2 k.1
  obtain ⟨l1, l2⟩ := lst_ok x h10 h0
  have c2 := clr_1024 x h10 _ l1
  have kp := kn_pair g h k h0 hq hb hl
  have b1 := mxt_b g s h10
  have b3 := mxt_b g s (pow10 g.1.2 kp.1)
  have b4 := Wt_le g s (lst x) q
  unfold FX2_keepsTop
  show mx_let ((i3 x &&& (pw (lst x) ^^^ (-1))) &&& (pw q ^^^ (-1))) _ = _
  rw [clr_i3 h10 l1, clr_i3 c2 hq, mx_letI, C_mxt g s h kp.1 kp.2, ob_some]
  show Option.bind (FX4_weightOf 46 (i3 (lst x)) (i3 q) m) _ = _
  rw [Wt_C g s h.2.1 hl, ob_some, C_mxt g s h k.1 k.2, ob_some, i3_add]
  by_cases c : Wt N (lst x) q + mxt N (clr (clr x (lst x)) q) = mxt N x
  · rw [if_pos (by rw [i3_eq (by omega) (by omega)]; omega), decide_eq_true c]; rfl
  · rw [if_neg (by rw [i3_eq (by omega) (by omega)]; omega), decide_eq_false c]; rfl
/-- partners that are free -/
theorem near_bit (g : GI N) (h : HL m N) {x : Nat} (k : kn m N x) (h0 : x ≠ 0) {y : Nat} (hy : y < 1024) {j : Nat} (hj : j < 32) : bt (m.1 (46 + 2) (lst x) &&& i3 y) j = (y.testBit j && lk N (lst x) j) := by
  have lp := bit_lt k.1 (lst_ok x (pow10 g.1.2 k.1) h0).2
  rw [bt_and, h.2.1.2.1 _ lp, bt_i3 hj, Bool.and_comm]
theorem C_firstBest (g : GI N) (s : SI N) (h : HL m N) {x : Nat} (k : kn m N x) (h0 : x ≠ 0) : FX2_firstBestPartner 45 (i3 (lst x)) (i3 x) m = some (oi (ff (kt N x) 10)) := by
  have h10 := pow10 g.1.2 k.1
  obtain ⟨l1, l2⟩ := lst_ok x h10 h0
  have lp := bit_lt k.1 l2
  have n10 := g.1.2
  unfold FX2_firstBestPartner
  show Option.bind (FX4_nearTo 46 (i3 (lst x)) m) _ = _
  rw [C_nearTo_y g h.2.1 lp, ob_some, mx_letI, mx_letI, i3_succ]
  have kt0 : ∀ j, j < lst x + 1 → kt N x j = false := by
    intro j hj
    unfold kt
    rw [clr_bit]
    by_cases e : j = lst x
    · simp [e]
    · rw [lst_least (m := x) (by omega) h10]
      simp
  have key : hw (FX2_firstBestPartner_L16 45 (i3 (lst x)) (i3 x) (m.1 (46 + 2) (lst x) &&& i3 x) m mx_FU (i3 (lst x + 1))) (fun r => Sum.elim (fun rr => some rr) (fun _ => (some (-1) : Option Int32)) r = some (oi (ff (kt N x) 10))) := by
    refine lp_inv0 (L := fun fu y => FX2_firstBestPartner_L16 45 (i3 (lst x)) (i3 x) (m.1 (46 + 2) (lst x) &&& i3 x) m fu y) (n := 10) (fun k => lst x < k ∧ ∀ j, j < k → kt N x j = false) ?_ ?_ (lst x + 1) mx_FU (by omega) (FU_lt (by omega)) ⟨by omega, kt0⟩
    · intro fu hI
      show hw (FX2_firstBestPartner_L16 45 (i3 (lst x)) (i3 x) (m.1 (46 + 2) (lst x) &&& i3 x) m (fu + 1) (i3 10)) _
      rw [FX2_firstBestPartner_L16]
      refine hw_some ?_
      rw [ff_none.mpr hI.2]
      rfl
    · intro fu j hj hI hs
      show hw (FX2_firstBestPartner_L16 45 (i3 (lst x)) (i3 x) (m.1 (46 + 2) (lst x) &&& i3 x) m (fu + 1) (i3 j)) _
      rw [FX2_firstBestPartner_L16, if_neg (by show ¬ i3 10 ≤ i3 j; rw [i3_le (by omega) (by omega)]; omega)]
      have ebt := bt_sh (m.1 (46 + 2) (lst x) &&& i3 x) (k := j) (by omega)
      rw [near_bit g h k h0 h10 (by omega)] at ebt
      have ecl : (clr x (lst x)).testBit j = x.testBit j := by
        have : ¬ j = lst x := by omega
        rw [clr_bit]
        simp [this]
      have hno : kt N x j = false → hw (FX2_firstBestPartner_L16 45 (i3 (lst x)) (i3 x) (m.1 (46 + 2) (lst x) &&& i3 x) m fu (i3 (j + 1))) (fun r => Sum.elim (fun rr => some rr) (fun _ => (some (-1) : Option Int32)) r = some (oi (ff (kt N x) 10))) := fun hk => hs ⟨by omega, fun i hi => by
        by_cases e : i = j
        · rw [e]; exact hk
        · exact hI.2 i (by omega)⟩
      by_cases c : (x.testBit j && lk N (lst x) j) = true
      · rw [if_neg (fun q => by rw [ebt.mp q] at c; cases c)]
        rw [Bool.and_eq_true] at c
        rw [C_keeps g s h k h0 hj (by rw [ecl]; exact c.1) c.2, ob_some]
        by_cases c3 : Wt N (lst x) j + mxt N (clr (clr x (lst x)) j) = mxt N x
        · rw [decide_eq_true c3, if_neg (show ¬ b2 true = 0 by decide)]
          refine hw_some ?_
          rw [ff_some.mpr ⟨hj, by unfold kt; rw [ecl, c.1, c.2, decide_eq_true c3]; rfl, hI.2⟩]
          rfl
        · rw [decide_eq_false c3, if_pos (show b2 false = 0 from rfl), mx_letI, i3_succ]
          exact hno (by unfold kt; rw [decide_eq_false c3, Bool.and_false])
      · have c' : (x.testBit j && lk N (lst x) j) = false := by revert c; cases (x.testBit j && lk N (lst x) j) <;> simp
        rw [if_pos (ebt.mpr c'), mx_letI, i3_succ]
        exact hno (by unfold kt; rw [ecl, c']; rfl)
  obtain ⟨r, e, h1⟩ := key
  rw [e, ob_some]
  exact h1
theorem C_choose {a b : Nat} (ha : a < 10) (hb : b < 10) : FX2_choose 45 (i3 a) (i3 b) m = some (mx_up (mx_up m.1 63 a (i3 b)) 63 b (i3 a), m.2) := by
  unfold FX2_choose
  simp (disch := omega) only [Nat.reduceAdd, ob_some, mx_letI, mx_chkT, mx_inb_i3, mx_inb_lit, lit_toNat, i3_toNat, i3_le, i3_lt, i3_leL, i3_Lle, i3_ltL, i3_Llt, i3_neg, i3_eq, i3_eqL, i3_ne1, i3_add, i3_addL, i3_Ladd, i3_mul, i3_mulL, i3_Lmul, mx_b01_0, mx_b01_1, b2_01, b2_0, b2_1, se_inl, se_inr, if_true, if_false, e10, e01, e00, e11, em1, em1lt, Nat.not_lt_zero, if_pos, if_neg]
theorem clr_comm (x a b : Nat) : clr (clr x a) b = clr (clr x b) a := by
  apply Nat.eq_of_testBit_eq
  intro j
  rw [clr_bit, clr_bit, clr_bit, clr_bit, Bool.and_assoc, Bool.and_assoc, Bool.and_comm (!decide (j = a))]
theorem lst_eq {x k : Nat} (hx : x < 1024) (h : ∀ j, j < k → x.testBit j = false) (hb : x.testBit k = true) : lst x = k := by
  have h0 : x ≠ 0 := by
    intro q
    rw [q, Nat.zero_testBit] at hb
    cases hb
  obtain ⟨l1, l2⟩ := lst_ok x hx h0
  rcases Nat.lt_trichotomy (lst x) k with q | q | q
  · rw [h _ q] at l2; cases l2
  · exact q
  · rw [lst_least q hx] at hb; cases hb
def IB (N : Rw) (m : mB) (k : Nat) (st : Int32 × mB) : Prop := ∃ f pre, st.1 = i3 f ∧ kn m N f ∧ (∀ j, j < k → f.testBit j = false) ∧ fb N (2 ^ nP N - 1) = pre ++ fb N f ∧ (∀ x, x < nP N → f.testBit x = false → st.2.1 63 x = mt pre x) ∧ (∀ x, f.testBit x = true → mt pre x = -1) ∧ (∀ y ∈ pre, y.1 < 2147483648 ∧ y.2 < 2147483648) ∧ mx_out (fun b _ => b = 63) m st.2
theorem C_best_L7 (g : GI N) (s : SI N) (h : HL m N) : hw (FX2_bestInto_L7 45 66 mx_FU (i3 (2 ^ nP N - 1)) (i3 0) m) (fun m' => mx_out (fun b _ => b = 63) m m' ∧ ∀ x, x < nP N → m'.1 63 x = mt (fb N (2 ^ nP N - 1)) x) := by
  have n10 := g.1.2
  refine lp_inv (S := Int32 × mB) (L := fun fu y st => FX2_bestInto_L7 45 66 fu st.1 y st.2) (n := 10) (IB N m) ?_ ?_ 0 mx_FU (i3 (2 ^ nP N - 1), m) (by omega) (FU_lt (by omega)) ⟨2 ^ nP N - 1, [], rfl, kn_all h, fun j hj => by omega, rfl, fun x hx hb => ?_, fun x _ => rfl, by simp, mx_out.rf⟩
  · rintro fu ⟨v, m'⟩ ⟨f, pre, rfl, kf, hz, hfb, hch, hm1, hy, z⟩
    show hw (FX2_bestInto_L7 45 66 (fu + 1) (i3 f) (i3 10) m') _
    rw [FX2_bestInto_L7]
    refine hw_some ⟨z, fun x hx => ?_⟩
    have f0 : f = 0 := mask_ext (pow10 n10 kf.1) (by omega) (fun x hx => by rw [hz x hx, Nat.zero_testBit])
    rw [f0] at hfb
    rw [hfb, show fb N 0 = [] by unfold fb; rw [bm_0]; rfl, List.append_nil]
    exact hch x hx (hz x (by omega))
  · rintro fu k ⟨v, m'⟩ hk ⟨f, pre, rfl, kf, hz, hfb, hch, hm1, hy, z⟩ hs
    show hw (FX2_bestInto_L7 45 66 (fu + 1) (i3 f) (i3 k) m') _
    have h10 := pow10 n10 kf.1
    rw [FX2_bestInto_L7, if_neg (by show ¬ i3 10 ≤ i3 k; rw [i3_le (by omega) (by omega)]; omega)]
    have ebt := bt_sh (i3 f) (k := k) (by omega)
    rw [bt_i3 (by omega)] at ebt
    cases hb : f.testBit k with
    | false =>
      rw [if_pos (ebt.mpr hb), mx_letI, i3_succ]
      refine hs (i3 f, m') ⟨f, pre, rfl, kf, fun j hj => ?_, hfb, hch, hm1, hy, z⟩
      by_cases e : j = k
      · rw [e]; exact hb
      · exact hz j (by omega)
    | true =>
      rw [if_neg (fun q => by rw [ebt.mp q] at hb; cases hb)]
      have el := lst_eq h10 hz hb
      have h0 : f ≠ 0 := by
        intro q
        rw [q, Nat.zero_testBit] at hb
        cases hb
      have kP := bit_lt kf.1 hb
      rw [mx_inb_i3 (by omega) (by omega), mx_chkT, i3_toNat (by omega), mx_letI]
      have z4 : mx_out (fun b _ => b = 63) m (mx_up m'.1 63 k (-1), m'.2) := mx_out_up z rfl rfl
      have hL4 := HL_mv g h z4 (fun b j q => by omega)
      have k4 : kn (mx_up m'.1 63 k (-1), m'.2) N f := kn_mv (z4.cell 57 (fun j => by omega)) kf
      have e1 := C_firstBest g s hL4 k4 h0
      rw [el] at e1
      show hw (Option.bind (FX2_firstBestPartner 45 (i3 k) (i3 f) (mx_up m'.1 63 k (-1), m'.2)) _) _
      rw [e1, ob_some]
      refine hw_letK (fun K hK => ?_)
      have c2 := clr_1024 f h10 k hk
      cases ef : ff (kt N f) 10 with
      | none =>
        rw [if_pos (show oi none = -1 from rfl), hK]
        dsimp only
        show hw (mx_let (i3 f &&& (pw k ^^^ (-1))) _) _
        rw [clr_i3 h10 hk, mx_letI, mx_letI, i3_succ]
        obtain ⟨f1, f2⟩ := fb_none g s h10 h0 ef
        have kl := kn_lone g h kf h0
        rw [el] at f1 kl
        refine hs (i3 (clr f k), (mx_up m'.1 63 k (-1), m'.2)) ⟨clr f k, pre, rfl, kl, fun j hj => ?_, by rw [← f1]; exact hfb, fun x hx hbx => ?_, fun x hbx => ?_, hy, z4⟩
        · rw [clr_bit]
          by_cases e : j = k
          · simp [e]
          · rw [hz j (by omega)]; rfl
        · show mx_up m'.1 63 k (-1) 63 x = mt pre x
          rw [up_at]
          by_cases e : x = k
          · rw [if_pos e, e]; exact (hm1 k hb).symm
          · rw [if_neg e]
            refine hch x hx ?_
            rw [clr_bit] at hbx
            simpa [e] using hbx
        · rw [clr_bit, Bool.and_eq_true] at hbx
          exact hm1 x hbx.1
      | some q =>
        obtain ⟨q1, q2, q3⟩ := ff_some.mp ef
        unfold kt at q2
        rw [Bool.and_eq_true, Bool.and_eq_true, decide_eq_true_eq] at q2
        have kp := kn_pair g h kf h0 q1 q2.1.1 q2.1.2
        have fe := fb_some g s h10 h0 ef
        rw [el] at kp fe q2
        have hqk : q ≠ k := by
          intro e
          have := q2.1.1
          rw [e, clr_bit] at this
          simp at this
        have hbq : f.testBit q = true := by
          have := q2.1.1
          rw [clr_bit, Bool.and_eq_true] at this
          exact this.1
        rw [if_neg (show ¬ oi (some q) = -1 from fun e => (i3_ne1 (a := q) (by omega)).mp e)]
        show hw (Option.bind (FX2_choose 45 (i3 k) (i3 q) (mx_up m'.1 63 k (-1), m'.2)) _) _
        rw [C_choose hk q1, ob_some]
        show hw (mx_let (i3 f &&& (pw q ^^^ (-1))) _) _
        rw [clr_i3 h10 q1, mx_letI, hK]
        dsimp only
        show hw (mx_let (i3 (clr f q) &&& (pw k ^^^ (-1))) _) _
        rw [clr_i3 (clr_1024 f h10 q q1) hk, mx_letI, mx_letI, i3_succ, clr_comm]
        have z5 : mx_out (fun b _ => b = 63) m (mx_up (mx_up (mx_up m'.1 63 k (-1)) 63 k (i3 q)) 63 q (i3 k), m'.2) := mx_out_up (mx_out_up z4 rfl rfl) rfl rfl
        have hbits : ∀ x, (clr (clr f k) q).testBit x = (f.testBit x && !decide (x = k) && !decide (x = q)) := fun x => by rw [clr_bit, clr_bit]
        have emt : ∀ x, mt (pre ++ [(k, q)]) x = if x = q then i3 k else if x = k then i3 q else mt pre x := by
          intro x
          rw [mt_app _ _ _ _ hy]
          by_cases c1 : x = q
          · rw [c1, hm1 q hbq, if_pos rfl, if_neg hqk, if_pos rfl, if_pos rfl]
          · by_cases c3 : x = k
            · rw [c3, hm1 k hb, if_pos rfl, if_pos rfl, if_neg (fun e => hqk e.symm), if_pos rfl]
            · rw [if_neg c1, if_neg c3, if_neg c1, if_neg c3]
              by_cases c4 : mt pre x = -1
              · rw [if_pos c4, c4]
              · rw [if_neg c4]
        refine hs (i3 (clr (clr f k) q), (mx_up (mx_up (mx_up m'.1 63 k (-1)) 63 k (i3 q)) 63 q (i3 k), m'.2)) ⟨clr (clr f k) q, pre ++ [(k, q)], rfl, kp, fun j hj => ?_, by rw [hfb, fe, List.append_assoc]; rfl, fun x hx hbx => ?_, fun x hbx => ?_, fun y hy1 => ?_, z5⟩
        · rw [hbits]
          by_cases e : j = k
          · simp [e]
          · rw [hz j (by omega)]; rfl
        · show mx_up (mx_up (mx_up m'.1 63 k (-1)) 63 k (i3 q)) 63 q (i3 k) 63 x = _
          rw [up_at, up_at, up_at, emt]
          by_cases c1 : x = q
          · rw [if_pos c1, if_pos c1]
          · rw [if_neg c1, if_neg c1]
            by_cases c3 : x = k
            · rw [if_pos c3, if_pos c3]
            · rw [if_neg c3, if_neg c3, if_neg c3]
              refine hch x hx ?_
              rw [hbits] at hbx
              simpa [c1, c3] using hbx
        · rw [hbits, Bool.and_eq_true, Bool.and_eq_true] at hbx
          rw [emt, if_neg (by simpa using hbx.2), if_neg (by simpa using hbx.1.2)]
          exact hm1 x hbx.1.1
        · rw [List.mem_append, List.mem_singleton] at hy1
          rcases hy1 with w | w
          · exact hy y w
          · rw [w]; exact ⟨by show k < 2147483648; omega, by show q < 2147483648; omega⟩
  · rw [all_bit _ (by omega) x (by omega)] at hb
    simp at hb
    omega
theorem C_bestInto (g : GI N) (s : SI N) (h : HL m N) : ∃ m', FX2_bestInto 45 66 m = some m' ∧ HL m' N ∧ Rl m' 66 10 (nP N) ∧ ∀ x, x < nP N → m'.1 67 x = mt (fb N (2 ^ nP N - 1)) x := by
  have n10 := g.1.2
  obtain ⟨m2, e2, z2, A2⟩ := C_best_L7 g s h
  have z3' : mx_out (fun b _ => b = 63 ∨ b = 66 ∨ b = 67) m (mx_up m2.1 66 1 0, m2.2) := mx_out_up (z2.sub (fun b j q => Or.inl q)) rfl (Or.inr (Or.inl rfl))
  have key : hw (FX2_bestInto_L81 45 66 mx_FU (i3 0) (mx_up m2.1 66 1 0, m2.2)) (fun m' => HL m' N ∧ Rl m' 66 10 (nP N) ∧ ∀ x, x < nP N → m'.1 67 x = mt (fb N (2 ^ nP N - 1)) x) := by
    refine lp_inv (L := fun fu y m => FX2_bestInto_L81 45 66 fu y m) (n := nP N) (fun k m' => HL m' N ∧ Rl m' 66 10 k ∧ (∀ x, x < k → m'.1 67 x = mt (fb N (2 ^ nP N - 1)) x) ∧ m'.1 63 = m2.1 63) ?_ ?_ 0 mx_FU _ (by omega) (FU_lt (by omega)) ⟨HL_mv g h z3' (fun b j q => by omega), ⟨mx_up_self m2.1 66 1 0, by omega, rl10 (by omega), nI10, by omega⟩, fun x hx => by omega, up_off m2.1 (b := 66) (b' := 63) (by omega) 1 0⟩
    · intro fu m' hI
      show hw (FX2_bestInto_L81 45 66 (fu + 1) (i3 (nP N)) m') _
      rw [FX2_bestInto_L81]
      unfold FX4_points
      rw [ob_some]
      show hw (if m'.1 46 0 ≤ i3 (nP N) then _ else _) _
      rw [C0 g hI.1.2.1, if_pos (by rw [i3_le (by omega) (by omega)]; omega)]
      exact hw_some ⟨hI.1, hI.2.1, hI.2.2.1⟩
    · intro fu k m' hk hI hs
      show hw (FX2_bestInto_L81 45 66 (fu + 1) (i3 k) m') _
      rw [FX2_bestInto_L81]
      unfold FX4_points
      rw [ob_some]
      show hw (if m'.1 46 0 ≤ i3 k then _ else _) _
      rw [C0 g hI.1.2.1, if_neg (by rw [i3_le (by omega) (by omega)]; omega), if_neg (by show ¬ i3 10 ≤ i3 k; rw [i3_le (by omega) (by omega)]; omega), mx_inb_i3 (by omega) (by omega), mx_chkT, R_add hI.2.1 (by omega), ob_some, mx_letI, i3_succ, i3_toNat (by omega)]
      have zr : mx_out (fun b _ => b = 66 ∨ b = 67) m' (radd m' 66 k (m'.1 (45 + 18) k)) := mx_out_up (mx_out_up (a := 67) mx_out.rf rfl (Or.inr rfl)) rfl (Or.inl rfl)
      refine hs _ ⟨HL_mv g hI.1 zr (fun b j q => by omega), Rl_radd hI.2.1 (by omega) _, fun x hx => ?_, by rw [zr.cell 63 (fun j => by omega)]; exact hI.2.2.2⟩
      by_cases c : x = k
      · rw [c]
        show (radd m' 66 k (m'.1 (45 + 18) k)).1 (66 + 1) k = _
        rw [radd_new]
        show m'.1 63 k = _
        rw [hI.2.2.2]; exact A2 k (by omega)
      · show (radd m' 66 k (m'.1 (45 + 18) k)).1 (66 + 1) x = _
        rw [radd_old c]; exact hI.2.2.1 x (by omega)
  obtain ⟨m4, e4, h4⟩ := key
  refine ⟨m4, ?_, h4⟩
  unfold FX2_bestInto
  rw [h.2.2.1, mx_letI]
  show Option.bind (FX2_bestInto_L7 45 66 mx_FU (i3 (2 ^ nP N - 1)) (i3 0) m) _ = _
  rw [e2, ob_some]
  unfold FX7_clear
  rw [mx_letI, ob_some]
  show Option.bind (FX2_bestInto_L81 45 66 mx_FU (i3 0) (mx_up m2.1 66 1 0, m2.2)) _ = _
  rw [e4]
  rfl
end BESTC
