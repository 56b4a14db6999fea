/-! ===== what may be said of one point ===== -/
theorem bt_fop {f : Nat → Bool} {k : Nat → Nat} {q : Nat} (hq : q < 32) : ∀ {n : Nat}, (∀ l, l < n → k l < 32) → (bt (fo (fun l s => if f l = true then s ||| pw (k l) else s) n 0) q = true ↔ ∃ l, l < n ∧ f l = true ∧ k l = q) := by
  intro n
  induction n with
  | zero =>
    intro _
    show bt 0 q = true ↔ _
    rw [bt_zero]
    exact ⟨fun h => absurd h (by decide), fun ⟨l, h, _⟩ => by omega⟩
  | succ n ih =>
    intro hk
    have h1 := ih (fun l hl => hk l (by omega))
    show bt (if f n = true then _ ||| pw (k n) else _) q = true ↔ _
    by_cases c0 : f n = true
    · rw [if_pos c0, bt_or, bt_pwk (hk n (by omega)) hq, Bool.or_eq_true, h1, decide_eq_true_eq]
      constructor
      · rintro (⟨l, a1, a2, a3⟩ | e)
        · exact ⟨l, by omega, a2, a3⟩
        · exact ⟨n, by omega, c0, e.symm⟩
      · rintro ⟨l, a1, a2, a3⟩
        by_cases e : l = n
        · subst e; exact Or.inr a3.symm
        · exact Or.inl ⟨l, by omega, a2, a3⟩
    · rw [if_neg c0, h1]
      constructor
      · rintro ⟨l, a1, a2, a3⟩
        exact ⟨l, by omega, a2, a3⟩
      · rintro ⟨l, a1, a2, a3⟩
        by_cases e : l = n
        · subst e; exact absurd a2 c0
        · exact ⟨l, by omega, a2, a3⟩
theorem bt_fos {f : Nat → Bool} {n q : Nat} (hn : n ≤ 32) (hq : q < 32) : bt (fo (fun l s => if f l = true then s ||| pw l else s) n 0) q = (decide (q < n) && f q) := by
  rw [Bool.eq_iff_iff, bt_fop hq (k := fun l => l) (fun l hl => by omega), Bool.and_eq_true, decide_eq_true_eq]
  exact ⟨fun ⟨l, a1, a2, a3⟩ => by subst a3; exact ⟨a1, a2⟩, fun ⟨a1, a2⟩ => ⟨q, a1, a2, rfl⟩⟩
theorem i3_bits {x : Int32} (h : ∀ k, 10 ≤ k → k < 32 → bt x k = false) : ∃ s, s < 1024 ∧ x = i3 s ∧ ∀ k, s.testBit k = bt x k := by
  refine ⟨x.toBitVec.toNat, ?_, ?_, fun k => rfl⟩
  · apply Nat.lt_pow_two_of_testBit (n := 10)
    intro i hi
    show bt x i = false
    by_cases q : i < 32
    · exact h i hi q
    · exact bt_hi (by omega)
  · apply Int32.toBitVec_inj.mp
    show x.toBitVec = BitVec.ofNat 32 x.toBitVec.toNat
    rw [BitVec.ofNat_toNat, BitVec.setWidth_eq]
section SAIDA
variable {c d : mB} {a : Nat} {N : Rw}
def tgs (N : Rw) : Int32 := fo (fun l s => if slk N l = 0 then s ||| (pw (nA N l) ||| pw (nB N l)) else s) (nL N) 0
theorem C_tightPoints_L (g : GI N) (s : SI N) (h : CG c a N) (hs : CS c a N) : FX4_tightPoints_L4 a c mx_FU 0 (i3 0) = some (tgs N) := by
  have := g.2.1.2
  have := g.1.2
  refine lp_fo (L := fun f y t => FX4_tightPoints_L4 a c f t y) (n := nL N) _ (fun t => t) _ ?_ ?_ mx_FU (FU_lt (by omega))
  · intro f t
    show FX4_tightPoints_L4 a c (f + 1) t (i3 (nL N)) = _
    rw [FX4_tightPoints_L4]
    simp (disch := omega) only [C1 g h, Nat.le_refl, Nat.reduceAdd, ob_some, mx_letI, mx_chkT, mx_inb_i3, mx_inb_lit, lit_toNat, i3_toNat, i3_le, i3_lt, i3_leL, i3_Lle, i3_ltL, i3_Llt, i3_neg, i3_eq, i3_eqL, i3_ne1, i3_add, i3_addL, i3_Ladd, i3_mul, i3_mulL, i3_Lmul, mx_b01_0, mx_b01_1, b2_01, b2_0, b2_1, se_inl, se_inr, if_true, if_false, e10, e01, e00, e11, em1, em1lt, Nat.not_lt_zero, if_pos, if_neg]
  · intro f k t hk
    show FX4_tightPoints_L4 a c (f + 1) t (i3 k) = FX4_tightPoints_L4 a c f _ (i3 (k + 1))
    rw [FX4_tightPoints_L4]
    simp (disch := omega) only [C1 g h, C_slackOf_y g s h hs hk, C_fromOf_y g h hk, C_toOf_y g h hk, Nat.reduceAdd, ob_some, mx_letI, mx_chkT, mx_inb_i3, mx_inb_lit, lit_toNat, i3_toNat, i3_le, i3_lt, i3_leL, i3_Lle, i3_ltL, i3_Llt, i3_neg, i3_eq, i3_eqL, i3_ne1, i3_add, i3_addL, i3_Ladd, i3_mul, i3_mulL, i3_Lmul, mx_b01_0, mx_b01_1, b2_01, b2_0, b2_1, se_inl, se_inr, if_true, if_false, e10, e01, e00, e11, em1, em1lt, Nat.not_lt_zero]
    rw [if_neg (by omega)]
    split <;> rfl

theorem C_tightPoints (g : GI N) (s : SI N) (h : CG c a N) (hs : CS c a N) : FX4_tightPoints a c = some (tgs N) := by
  have e := C_tightPoints_L g s h hs
  rw [show (0 : Int32) = i3 0 from rfl] at e
  unfold FX4_tightPoints
  show Option.bind (FX4_tightPoints_L4 a c mx_FU (i3 0) (i3 0)) _ = _
  rw [e]
  rfl
theorem bt_tgs (g : GI N) {q : Nat} (hq : q < 32) : bt (tgs N) q = true ↔ ∃ l, l < nL N ∧ slk N l = 0 ∧ (nA N l = q ∨ nB N l = q) := by
  have hn := g.1.2
  have key : ∀ n, n ≤ nL N → (bt (fo (fun l s => if slk N l = 0 then s ||| (pw (nA N l) ||| pw (nB N l)) else s) n 0) q = true ↔ ∃ l, l < n ∧ slk N l = 0 ∧ (nA N l = q ∨ nB N l = q)) := by
    intro n
    induction n with
    | zero =>
      intro _
      show bt 0 q = true ↔ _
      rw [bt_zero]
      exact ⟨fun h => absurd h (by decide), fun ⟨l, h, _⟩ => by omega⟩
    | succ n ih =>
      intro hle
      have h1 := ih (by omega)
      have hl := g.2.2.1 n (by omega)
      show bt (if slk N n = 0 then _ ||| (pw (nA N n) ||| pw (nB N n)) else _) q = true ↔ _
      by_cases c0 : slk N n = 0
      · rw [if_pos c0, bt_or, bt_or, bt_pwk (by omega) hq, bt_pwk (by omega) hq, Bool.or_eq_true, Bool.or_eq_true, h1, decide_eq_true_eq, decide_eq_true_eq]
        constructor
        · rintro (⟨l, a1, a2, a3⟩ | e | e)
          · exact ⟨l, by omega, a2, a3⟩
          · exact ⟨n, by omega, c0, Or.inl e.symm⟩
          · exact ⟨n, by omega, c0, Or.inr e.symm⟩
        · rintro ⟨l, a1, a2, a3⟩
          by_cases e : l = n
          · subst e
            rcases a3 with a3 | a3
            · exact Or.inr (Or.inl a3.symm)
            · exact Or.inr (Or.inr a3.symm)
          · exact Or.inl ⟨l, by omega, a2, a3⟩
      · rw [if_neg c0, h1]
        constructor
        · rintro ⟨l, a1, a2, a3⟩
          exact ⟨l, by omega, a2, a3⟩
        · rintro ⟨l, a1, a2, a3⟩
          by_cases e : l = n
          · subst e; exact absurd a2 c0
          · exact ⟨l, by omega, a2, a3⟩
  exact key _ (Nat.le_refl _)
/-- bits of those linked with a point -/
theorem bt_ptn (g : GI N) {p q : Nat} (hp : p < nP N) (hq : q < 32) (t : Bool) : bt (ptn N p t) q = true ↔ ∃ l, l < nL N ∧ lm N p q l = true ∧ (t = true → slk N l = 0) := by
  have hn := g.1.2
  unfold ptn
  rw [bt_fop (f := fun l => (decide (nA N l = p ∨ nB N l = p) && (!t || decide (slk N l = 0)))) (k := fun l => nA N l + nB N l - p) hq]
  · constructor
    · rintro ⟨l, a1, a2, a3⟩
      have hl := g.2.2.1 l a1
      rw [Bool.and_eq_true, decide_eq_true_eq, Bool.or_eq_true] at a2
      refine ⟨l, a1, lm_iff.mpr (by omega), fun ht => ?_⟩
      rcases a2.2 with w | w
      · rw [ht] at w; cases w
      · exact of_decide_eq_true w
    · rintro ⟨l, a1, a2, a3⟩
      have hl := g.2.2.1 l a1
      have a2' := lm_iff.mp a2
      refine ⟨l, a1, ?_, by omega⟩
      rw [Bool.and_eq_true, decide_eq_true_eq, Bool.or_eq_true]
      refine ⟨by omega, ?_⟩
      cases t with
      | false => exact Or.inl rfl
      | true => exact Or.inr (decide_eq_true (a3 rfl))
  · intro l hl
    have := g.2.2.1 l hl
    omega
theorem lk_ex (g : GI N) {p q : Nat} : lk N p q = true ↔ ∃ l, l < nL N ∧ lm N p q l = true := by
  unfold lk
  constructor
  · intro h
    cases e : li N p q with
    | none => rw [e] at h; cases h
    | some l => exact ⟨l, li_some e⟩
  · rintro ⟨l, a1, a2⟩
    rw [li_of g a1 a2]; rfl
theorem near_ptn (g : GI N) (h : CG c a N) {p : Nat} (hp : p < nP N) : c.1 (a + 2) p = ptn N p false := by
  apply bt_ext
  intro q hq
  rw [h.2.1 p hp q, Bool.eq_iff_iff, bt_ptn g hp hq, lk_ex g]
  exact ⟨fun ⟨l, a1, a2⟩ => ⟨l, a1, a2, fun h => by cases h⟩, fun ⟨l, a1, a2, _⟩ => ⟨l, a1, a2⟩⟩
theorem ptn_hi (g : GI N) {p : Nat} (hp : p < nP N) {q : Nat} (h1 : nP N ≤ q) (hq : q < 32) : bt (ptn N p false) q = false := by
  cases e : bt (ptn N p false) q with
  | false => rfl
  | true =>
    obtain ⟨l, a1, a2, -⟩ := (bt_ptn g hp hq false).mp e
    have := (lk_lt g ((lk_ex g).mpr ⟨l, a1, a2⟩)).2.1
    omega
theorem tight_ptn (g : GI N) {p : Nat} (hp : p < nP N) : (ptn N p true = 0) ↔ bt (tgs N) p = false := by
  have hn := g.1.2
  constructor
  · intro h
    cases e : bt (tgs N) p with
    | false => rfl
    | true =>
      obtain ⟨l, a1, a2, a3⟩ := (bt_tgs g (by omega)).mp e
      have hl := g.2.2.1 l a1
      have : bt (ptn N p true) (nA N l + nB N l - p) = true := (bt_ptn g hp (by omega) true).mpr ⟨l, a1, lm_iff.mpr (by omega), fun _ => a2⟩
      rw [h, bt_zero] at this
      cases this
  · intro h
    apply bt_ext
    intro q hq
    rw [bt_zero]
    cases e : bt (ptn N p true) q with
    | false => rfl
    | true =>
      obtain ⟨l, a1, a2, a3⟩ := (bt_ptn g hp hq true).mp e
      have a2' := lm_iff.mp a2
      have : bt (tgs N) p = true := (bt_tgs g (by omega)).mpr ⟨l, a1, a3 rfl, by omega⟩
      rw [h] at this
      cases this
/-- what is measured -/
def wgt (N : Rw) (p : Nat) : Int32 := if lone N p = true then 0 else match li N p (ptq N p) with
  | some l => N (128 + l)
  | none => 0
def msr (N : Rw) (u p : Nat) : Int32 := if u = 18 then N (168 + p) else if u = 19 then i3 (pc (ptn N p false).toBitVec.toNat) else if u = 20 then wgt N p else i3 p
def cmp (g : Nat) (x v : Int32) : Bool := if g = 60 then decide (x < v) else if g = 61 then decide (x = v) else decide (v < x)
def lf (N : Rw) (u v g p : Nat) : Bool := if u = 13 then lone N p else if u = 14 then bt (tgs N) p else if u = 15 then decide (N (158 + p) = i3 v) else if u = 16 then lk N p v else if u = 17 then decide (v < nK N) && bt (N (178 + v)) p else cmp g (msr N u p) (i3 v)
theorem C_measure (g : GI N) (s : SI N) (h : CG c a N) (hs : CS c a N) {u : Nat} (h1 : 18 ≤ u) (h2 : u ≤ 21) {p : Nat} (hp : p < nP N) : FX8_measureOf a (i3 (100 + u)) (i3 p) c = some (msr N u p) := by
  have hn := g.1.2
  unfold FX8_measureOf msr
  rcases (by omega : u = 18 ∨ u = 19 ∨ u = 20 ∨ u = 21) with e | e | e | e <;> subst e
  · rw [if_pos (show i3 (100 + 18) = 118 from rfl), if_pos rfl, C_priceOf_y g h hs hp, ob_some]
  · rw [if_neg (show ¬ i3 (100 + 19) = 118 by decide), if_pos (show i3 (100 + 19) = 119 from rfl), if_neg (by decide), if_pos rfl, C_nearTo_y g h hp, ob_some, near_ptn g h hp]
    obtain ⟨t, t1, t2, t3⟩ := i3_bits (x := ptn N p false) (fun k h1 h2 => ptn_hi g hp (by omega) h2)
    have et : (ptn N p false).toBitVec.toNat = t := by
      rw [t2]
      show (Int32.ofNat t).toBitVec.toNat = t
      show (BitVec.ofNat 32 t).toNat = t
      rw [BitVec.toNat_ofNat]
      exact Nat.mod_eq_of_lt (by omega)
    rw [et, t2, J_bitCount c t1, ob_some]
  · rw [if_neg (show ¬ i3 (100 + 20) = 118 by decide), if_neg (show ¬ i3 (100 + 20) = 119 by decide), if_pos (show i3 (100 + 20) = 120 from rfl), if_neg (by decide), if_neg (by decide), if_pos rfl, C_partnerOf_y g h hs hp, ob_some]
    unfold wgt lone
    rcases prt s hp with q | ⟨r, q1, q2, q3, q4⟩
    · rw [q, decide_eq_true rfl, if_pos rfl, C_weightOf_n g h hp (fun k hk e => (i3_ne1 (a := k) (by omega)).mp e.symm), ob_some]
    · have er : ptq N p = r := by unfold ptq; rw [q2, i3_toNat (by omega)]
      rw [q2, decide_eq_false (fun e => (i3_ne1 (a := r) (by omega)).mp e), if_neg (by decide), er]
      unfold lk at q4
      cases el : li N p r with
      | none => rw [el] at q4; cases q4
      | some l => rw [C_weightOf_y g h el, ob_some]
  · rw [if_neg (show ¬ i3 (100 + 21) = 118 by decide), if_neg (show ¬ i3 (100 + 21) = 119 by decide), if_neg (show ¬ i3 (100 + 21) = 120 by decide), if_neg (by decide), if_neg (by decide), if_neg (by decide)]
theorem C_compared (g : GI N) (s : SI N) (h : CG c a N) (hs : CS c a N) {u : Nat} (h1 : 18 ≤ u) (h2 : u ≤ 21) {sg v : Nat} (hg : sg = 60 ∨ sg = 61 ∨ sg = 62) : FX8_pointsCompared a (i3 (100 + u)) (i3 sg) (i3 v) c = some (fo (fun p s => if cmp sg (msr N u p) (i3 v) = true then s ||| pw p else s) (nP N) 0) := by
  have hn := g.1.2
  unfold FX8_pointsCompared
  have key : FX8_pointsCompared_L6 a (i3 (100 + u)) (i3 sg) (i3 v) c mx_FU 0 (i3 0) = some (fo (fun p s => if cmp sg (msr N u p) (i3 v) = true then s ||| pw p else s) (nP N) 0) := by
    refine lp_fo (L := fun fu y s => FX8_pointsCompared_L6 a (i3 (100 + u)) (i3 sg) (i3 v) c fu s y) (n := nP N) (fun p s => if cmp sg (msr N u p) (i3 v) = true then s ||| pw p else s) (fun s => s) 0 ?_ ?_ mx_FU (FU_lt (by omega))
    · intro fu s
      show FX8_pointsCompared_L6 a (i3 (100 + u)) (i3 sg) (i3 v) c (fu + 1) s (i3 (nP N)) = _
      rw [FX8_pointsCompared_L6]
      unfold FX4_points
      rw [h.1.1, g.1.1, ob_some, if_pos (by rw [i3_le (by omega) (by omega)]; omega)]
    · intro fu k s0 hk
      show FX8_pointsCompared_L6 a (i3 (100 + u)) (i3 sg) (i3 v) c (fu + 1) s0 (i3 k) = FX8_pointsCompared_L6 a (i3 (100 + u)) (i3 sg) (i3 v) c fu (if cmp sg (msr N u k) (i3 v) = true then s0 ||| pw k else s0) (i3 (k + 1))
      rw [FX8_pointsCompared_L6]
      unfold FX4_points
      rw [h.1.1, g.1.1, ob_some, if_neg (by rw [i3_le (by omega) (by omega)]; omega), C_measure g s h hs h1 h2 hk, ob_some]
      simp only [mx_letI]
      rw [i3_succ, pw_eq]
      generalize msr N u k = x
      unfold cmp
      have nl : ∀ x y : Int32, (¬ y ≤ x) ↔ x < y := fun x y => by
        rw [Int32.le_iff_toInt_le, Int32.lt_iff_toInt_lt]; omega
      rcases hg with e | e | e <;> subst e
      · rw [if_pos (show i3 60 = 60 from rfl), if_pos rfl]
        by_cases q : i3 v ≤ x
        · rw [if_pos q, if_neg (by rw [decide_eq_true_eq]; exact fun w => (nl _ _).mpr w q)]
        · rw [if_neg q, if_pos (decide_eq_true ((nl _ _).mp q))]
      · rw [if_neg (show ¬ i3 61 = 60 by decide), if_pos (show i3 61 = 61 from rfl), if_neg (show ¬ 61 = 60 by decide), if_pos (show 61 = 61 from rfl)]
        by_cases q : x = i3 v
        · rw [if_pos q, if_pos (decide_eq_true q)]
        · rw [if_neg q, if_neg (by rw [decide_eq_true_eq]; exact q)]
      · rw [if_neg (show ¬ i3 62 = 60 by decide), if_neg (show ¬ i3 62 = 61 by decide), if_neg (show ¬ 62 = 60 by decide), if_neg (show ¬ 62 = 61 by decide)]
        by_cases q : x ≤ i3 v
        · rw [if_pos q, if_neg (by rw [decide_eq_true_eq]; exact fun w => (nl _ _).mpr w q)]
        · rw [if_neg q, if_pos (decide_eq_true ((nl _ _).mp q))]
  show Option.bind (FX8_pointsCompared_L6 a (i3 (100 + u)) (i3 sg) (i3 v) c mx_FU 0 (i3 0)) _ = _
  rw [key, ob_some]
end SAIDA
