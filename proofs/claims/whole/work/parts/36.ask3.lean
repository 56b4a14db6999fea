/-! ===== the reference's side of what is asked; counts ===== -/
theorem cnt_succ (P : Nat → Bool) (n : Nat) : cnt P (n + 1) = cnt P n + if P n = true then 1 else 0 := rfl
theorem fo_succ {S : Type} (g : Nat → S → S) (n : Nat) (s : S) : fo g (n + 1) s = g n (fo g n s) := rfl
theorem fo_cnt (P : Nat → Bool) : ∀ n, fo (fun k s => if P k = true then s + 1 else s) n (i3 0) = i3 (cnt P n) := by
  intro n
  induction n with
  | zero => rfl
  | succ n ih =>
    rw [fo_succ, ih, cnt_succ]
    cases P n with
    | false => rfl
    | true => exact i3_succ _
theorem cnt_congr {P Q : Nat → Bool} : ∀ {n : Nat}, (∀ k, k < n → P k = Q k) → cnt P n = cnt Q n := by
  intro n
  induction n with
  | zero => intro _; rfl
  | succ n ih =>
    intro h
    rw [cnt_succ, cnt_succ, ih (fun k hk => h k (by omega)), h n (by omega)]
theorem cnt_rm {Q : Nat → Bool} {y : Nat} : ∀ {m : Nat}, y < m → Q y = true → cnt Q m = cnt (fun j => Q j && decide (j ≠ y)) m + 1 := by
  intro m
  induction m with
  | zero => intro h; omega
  | succ m ih =>
    intro h hq
    rw [cnt_succ, cnt_succ]
    by_cases e : y = m
    · subst e
      have : cnt Q y = cnt (fun j => Q j && decide (j ≠ y)) y := cnt_congr (fun k hk => by
        have : k ≠ y := by omega
        simp [this])
      rw [this, hq]
      simp
    · rw [ih (by omega) hq]
      have : m ≠ y := fun q => e q.symm
      simp only [this, ne_eq, not_false_eq_true, decide_true, Bool.and_true]
      omega
theorem cnt_bij (f : Nat → Nat) {m : Nat} {P : Nat → Bool} : ∀ {n : Nat} {Q : Nat → Bool},
    (∀ l, l < n → P l = true → f l < m ∧ Q (f l) = true) →
    (∀ l l', l < n → l' < n → P l = true → P l' = true → f l = f l' → l = l') →
    (∀ p, p < m → Q p = true → ∃ l, l < n ∧ P l = true ∧ f l = p) → cnt P n = cnt Q m := by
  intro n
  induction n with
  | zero =>
    intro Q _ _ h
    have : ∀ m', m' ≤ m → cnt Q m' = 0 := by
      intro m'
      induction m' with
      | zero => intro _; rfl
      | succ k ih =>
        intro hk
        rw [cnt_succ, ih (by omega)]
        cases hq : Q k with
        | false => rfl
        | true =>
          obtain ⟨l, hl, -⟩ := h k (by omega) hq
          omega
    rw [this m (Nat.le_refl m)]
    rfl
  | succ n ih =>
    intro Q h1 h2 h3
    rw [cnt_succ]
    cases hp : P n with
    | false =>
      rw [ih (Q := Q) (fun l hl => h1 l (by omega)) (fun l l' hl hl' => h2 l l' (by omega) (by omega)) (fun p hm hq => ?_)]
      · simp
      · obtain ⟨l, hl, hl2, hl3⟩ := h3 p hm hq
        refine ⟨l, ?_, hl2, hl3⟩
        rcases Nat.lt_or_ge l n with q | q
        · exact q
        · have : l = n := by omega
          rw [this, hp] at hl2
          cases hl2
    | true =>
      obtain ⟨hf, hf2⟩ := h1 n (by omega) hp
      rw [cnt_rm (y := f n) hf hf2, ih (Q := fun j => Q j && decide (j ≠ f n)) (fun l hl hpl => ?_) (fun l l' hl hl' => h2 l l' (by omega) (by omega)) (fun p hm hq => ?_)]
      · simp
      · obtain ⟨q1, q2⟩ := h1 l (by omega) hpl
        refine ⟨q1, ?_⟩
        have : f l ≠ f n := fun e => by
          have := h2 l n (by omega) (by omega) hpl hp e
          omega
        simp [q2, this]
      · simp only [Bool.and_eq_true, decide_eq_true_eq] at hq
        obtain ⟨l, hl, hl2, hl3⟩ := h3 p hm hq.1
        refine ⟨l, ?_, hl2, hl3⟩
        rcases Nat.lt_or_ge l n with q | q
        · exact q
        · have : l = n := by omega
          subst this
          exact absurd hl3.symm hq.2
def mpr (N : Rw) (x : Int32) (p : Nat) : Bool := bt x p && (decide (i3 p < N (158 + p)) && bt x (N (158 + p)).toNatClampNeg)
theorem i3_nle {x y : Int32} : ¬ x ≤ y ↔ y < x := by
  rw [Int32.le_iff_toInt_le, Int32.lt_iff_toInt_lt]
  omega
theorem i3_nlt {x y : Int32} : ¬ x < y ↔ y ≤ x := by
  rw [Int32.le_iff_toInt_le, Int32.lt_iff_toInt_lt]
  omega
section ASKC
variable {c d : mB} {a : Nat} {N : Rw}
theorem prt (s : SI N) {p : Nat} (hp : p < nP N) : N (158 + p) = -1 ∨ ∃ q, q < nP N ∧ N (158 + p) = i3 q ∧ N (158 + q) = i3 p ∧ lk N p q = true := s.2.2.1 p hp
theorem m1_lt {p : Nat} (hp : p < 2147483648) : ¬ i3 p < -1 := by
  rw [Int32.lt_iff_toInt_lt, i3_toInt hp]
  have : (-1 : Int32).toInt = -1 := by decide
  omega
theorem pwi_eq (g : GI N) (s : SI N) (x : Int32) : pwi N x = i3 (cnt (mpr N x) (nP N)) := by
  have hn := g.1.2
  have e := fo_cnt (fun l => prd N l && (bt x (nA N l) && bt x (nB N l))) (nL N)
  have e2 : pwi N x = i3 (cnt (fun l => prd N l && (bt x (nA N l) && bt x (nB N l))) (nL N)) := e
  rw [e2]
  congr 1
  have key : ∀ l, l < nL N → (prd N l && (bt x (nA N l) && bt x (nB N l))) = true → N (158 + nA N l) = i3 (nB N l) ∧ N (158 + nB N l) = i3 (nA N l) ∧ bt x (nA N l) = true ∧ bt x (nB N l) = true := by
    intro l hl h
    simp only [Bool.and_eq_true, prd, decide_eq_true_eq] at h
    have hA := nA_lt g hl
    have hB := nB_lt g hl
    rcases prt s hA with q | ⟨q, h1, h2, h3, -⟩
    · rw [h.1] at q
      have := i3_ne1 (a := nB N l) (by omega)
      rw [q] at this
      simp at this
    · rw [h.1, i3_eq (by omega) (by omega)] at h2
      subst h2
      exact ⟨h.1, h3, h.2.1, h.2.2⟩
  refine cnt_bij (fun l => if nA N l < nB N l then nA N l else nB N l) ?_ ?_ ?_
  · intro l hl h
    obtain ⟨h1, h2, h3, h4⟩ := key l hl h
    have hA := nA_lt g hl
    have hB := nB_lt g hl
    have hne := (g.2.2.1 l hl).2.2.2.2
    unfold mpr
    split
    · refine ⟨hA, ?_⟩
      rename_i h5
      have h6 := (i3_lt (a := nA N l) (b := nB N l) (by omega) (by omega)).mpr h5
      rw [h1, i3_toNat (by omega), h3, h4]
      simp [h6]
    · refine ⟨hB, ?_⟩
      have h6 := (i3_lt (a := nB N l) (b := nA N l) (by omega) (by omega)).mpr (by omega)
      rw [h2, i3_toNat (by omega), h3, h4]
      simp [h6]
  · intro l l' hl hl' h h' e
    obtain ⟨h1, h2, -, -⟩ := key l hl h
    obtain ⟨h1', h2', -, -⟩ := key l' hl' h'
    have hA := nA_lt g hl
    have hB := nB_lt g hl
    have hA' := nA_lt g hl'
    have hB' := nB_lt g hl'
    have inj : ∀ {u v : Nat}, u < 10 → v < 10 → i3 u = i3 v → u = v := fun hu hv q => (i3_eq (by omega) (by omega)).mp q
    refine (g.2.2.2 l l' hl hl' ?_).symm
    rw [lm_iff]
    split at e <;> split at e
    · rw [e, h1'] at h1
      left; exact ⟨e.symm, inj (by omega) (by omega) h1⟩
    · rw [e, h2'] at h1
      right; exact ⟨inj (by omega) (by omega) h1, e.symm⟩
    · rw [e, h1'] at h2
      right; exact ⟨e.symm, inj (by omega) (by omega) h2⟩
    · rw [e, h2'] at h2
      left; exact ⟨inj (by omega) (by omega) h2, e.symm⟩
  · intro p hp h
    unfold mpr at h
    simp only [Bool.and_eq_true, decide_eq_true_eq] at h
    obtain ⟨h0, h1, h2⟩ := h
    rcases prt s hp with q | ⟨q, hq, e1, e2, h3⟩
    · rw [q] at h1
      exact absurd h1 (m1_lt (by omega))
    · rw [e1] at h1 h2
      rw [i3_lt (by omega) (by omega)] at h1
      rw [i3_toNat (by omega)] at h2
      unfold lk at h3
      cases e : li N p q with
      | none => rw [e] at h3; cases h3
      | some l =>
        obtain ⟨hl, hl2⟩ := li_some e
        rw [lm_iff] at hl2
        refine ⟨l, hl, ?_, ?_⟩
        · simp only [Bool.and_eq_true, prd, decide_eq_true_eq]
          rcases hl2 with ⟨ha, hb⟩ | ⟨ha, hb⟩
          · rw [ha, hb]; exact ⟨e1, h0, h2⟩
          · rw [ha, hb]; exact ⟨e2, h2, h0⟩
        · rcases hl2 with ⟨ha, hb⟩ | ⟨ha, hb⟩
          · rw [ha, hb, if_pos h1]
          · rw [ha, hb, if_neg (by omega)]
theorem M_pairsIn (g : GI N) (s : SI N) (h : d.1 224 = N) (x : Int32) : FX12_pairsIn 222 x d = some (pwi N x) := by
  have hn := g.1.2
  have e : FX12_pairsIn_L4 222 x d mx_FU (i3 0) (i3 0) = some (i3 (cnt (mpr N x) (nP N))) := by
    rw [← fo_cnt]
    refine lp_fo (L := fun f y t => FX12_pairsIn_L4 222 x d f t y) (n := nP N) _ (fun t => t) _ ?_ ?_ mx_FU (FU_lt (by omega))
    · intro f t
      show FX12_pairsIn_L4 222 x d (f + 1) t (i3 (nP N)) = _
      rw [FX12_pairsIn_L4]
      simp (disch := omega) only [h, N0 g, Nat.le_refl, Nat.reduceAdd, ob_some, mx_letI, mx_chkT, mx_inb_i3, mx_inb_lit, lit_toNat, i3_toNat, i3_le, i3_lt, i3_leL, i3_Lle, i3_ltL, i3_Llt, i3_neg, i3_eq, i3_eqL, i3_ne1, i3_add, i3_addL, i3_Ladd, i3_mul, i3_mulL, i3_Lmul, mx_b01_0, mx_b01_1, b2_01, b2_0, b2_1, se_inl, se_inr, if_true, if_false, e10, e01, e00, e11, em1, em1lt, Nat.not_lt_zero, if_pos, if_neg]
    · intro f k t hk
      show FX12_pairsIn_L4 222 x d (f + 1) t (i3 k) = FX12_pairsIn_L4 222 x d f _ (i3 (k + 1))
      rw [FX12_pairsIn_L4]
      simp (disch := omega) only [h, N0 g, Nat.reduceAdd, M_has, ob_some, mx_letI, mx_chkT, mx_inb_i3, mx_inb_lit, lit_toNat, i3_toNat, i3_le, i3_lt, i3_leL, i3_Lle, i3_ltL, i3_Llt, i3_neg, i3_eq, i3_eqL, i3_ne1, i3_add, i3_addL, i3_Ladd, i3_mul, i3_mulL, i3_Lmul, mx_b01_0, mx_b01_1, b2_01, b2_0, b2_1, se_inl, se_inr, if_true, if_false, e10, e01, e00, e11, em1, em1lt, Nat.not_lt_zero]
      rw [if_neg (by omega)]
      unfold mpr
      cases h1 : bt x k with
      | false => simp
      | true =>
        rcases prt s hk with q | ⟨q, hq, e1, -, -⟩
        · have h2 : (-1 : Int32) ≤ i3 k := i3_nlt.mp (m1_lt (by omega))
          have h3 := m1_lt (p := k) (by omega)
          rw [q]
          simp [h2, h3]
        · rw [e1]
          simp (disch := omega) only [M_has, ob_some, mx_letI, mx_chkT, mx_inb_i3, mx_inb_lit, lit_toNat, i3_toNat, i3_le, i3_lt, i3_leL, i3_Lle, i3_ltL, i3_Llt, i3_neg, i3_eq, i3_eqL, i3_ne1, i3_add, i3_addL, i3_Ladd, i3_mul, i3_mulL, i3_Lmul, mx_b01_0, mx_b01_1, b2_01, b2_0, b2_1, se_inl, se_inr, if_true, if_false, e10, e01, e00, e11, em1, em1lt, Nat.not_lt_zero]
          by_cases h2 : q ≤ k
          · have h3 : ¬ k < q := by omega
            simp [h2, h3]
          · have h3 : k < q := by omega
            simp [h2, h3]
            cases bt x q <;> simp
  rw [pwi_eq g s]
  unfold FX12_pairsIn
  rw [i3_zero, e]
  rfl
theorem pwi_all (g : GI N) : pwi N (i3 1023) = prs N := by
  have hn := g.1.2
  have e := fo_cnt (fun l => prd N l && (bt (i3 1023) (nA N l) && bt (i3 1023) (nB N l))) (nL N)
  have e2 : pwi N (i3 1023) = i3 (cnt (fun l => prd N l && (bt (i3 1023) (nA N l) && bt (i3 1023) (nB N l))) (nL N)) := e
  have e3 : prs N = i3 (cnt (prd N) (nL N)) := fo_cnt (prd N) (nL N)
  rw [e2, e3]
  congr 1
  refine cnt_congr (fun l hl => ?_)
  have hA := nA_lt g hl
  have hB := nB_lt g hl
  have key : ∀ p, p < 10 → bt (i3 1023) p = true := by decide
  rw [key _ (by omega), key _ (by omega)]
  simp
theorem M_pairMany (g : GI N) (s : SI N) (h : d.1 224 = N) : FX12_pairMany 222 d = some (prs N) := by
  unfold FX12_pairMany
  rw [← pwi_all g]
  have := M_pairsIn g s h (i3 1023)
  simp only [show (1023 : Int32) = i3 1023 from rfl, this, ob_some]
theorem M_bound_L1 (g : GI N) (s : SI N) (h : d.1 224 = N) : FX12_boundNow_L4 222 d mx_FU 0 (i3 0) = some (bd1 N) := by
  have := g.1.2
  refine lp_fo (L := fun f y t => FX12_boundNow_L4 222 d f t y) (n := nP N) _ (fun t => t) _ ?_ ?_ mx_FU (FU_lt (by omega))
  · intro f t
    show FX12_boundNow_L4 222 d (f + 1) t (i3 (nP N)) = _
    rw [FX12_boundNow_L4]
    simp (disch := omega) only [h, N0 g, Nat.le_refl, Nat.reduceAdd, ob_some, mx_letI, mx_chkT, mx_inb_i3, mx_inb_lit, lit_toNat, i3_toNat, i3_le, i3_lt, i3_leL, i3_Lle, i3_ltL, i3_Llt, i3_neg, i3_eq, i3_eqL, i3_ne1, i3_add, i3_addL, i3_Ladd, i3_mul, i3_mulL, i3_Lmul, mx_b01_0, mx_b01_1, b2_01, b2_0, b2_1, se_inl, se_inr, if_true, if_false, e10, e01, e00, e11, em1, em1lt, Nat.not_lt_zero, if_pos, if_neg]
  · intro f k t hk
    show FX12_boundNow_L4 222 d (f + 1) t (i3 k) = FX12_boundNow_L4 222 d f _ (i3 (k + 1))
    rw [FX12_boundNow_L4]
    simp (disch := omega) only [h, N0 g, Nat.reduceAdd, ob_some, mx_letI, mx_chkT, mx_inb_i3, mx_inb_lit, lit_toNat, i3_toNat, i3_le, i3_lt, i3_leL, i3_Lle, i3_ltL, i3_Llt, i3_neg, i3_eq, i3_eqL, i3_ne1, i3_add, i3_addL, i3_Ladd, i3_mul, i3_mulL, i3_Lmul, mx_b01_0, mx_b01_1, b2_01, b2_0, b2_1, se_inl, se_inr, if_true, if_false, e10, e01, e00, e11, em1, em1lt, Nat.not_lt_zero]
    rw [if_neg (by omega)]

theorem M_bound_L2 (g : GI N) (s : SI N) (h : d.1 224 = N) : FX12_boundNow_L35 222 d mx_FU (bd1 N) (i3 0) = some (bnd N) := by
  have := s.1.2
  refine lp_fo (L := fun f y t => FX12_boundNow_L35 222 d f t y) (n := nK N) _ (fun t => t) _ ?_ ?_ mx_FU (FU_lt (by omega))
  · intro f t
    show FX12_boundNow_L35 222 d (f + 1) t (i3 (nK N)) = _
    rw [FX12_boundNow_L35]
    simp (disch := omega) only [h, N125 s, Nat.le_refl, Nat.reduceAdd, ob_some, mx_letI, mx_chkT, mx_inb_i3, mx_inb_lit, lit_toNat, i3_toNat, i3_le, i3_lt, i3_leL, i3_Lle, i3_ltL, i3_Llt, i3_neg, i3_eq, i3_eqL, i3_ne1, i3_add, i3_addL, i3_Ladd, i3_mul, i3_mulL, i3_Lmul, mx_b01_0, mx_b01_1, b2_01, b2_0, b2_1, se_inl, se_inr, if_true, if_false, e10, e01, e00, e11, em1, em1lt, Nat.not_lt_zero, if_pos, if_neg]
  · intro f k t hk
    show FX12_boundNow_L35 222 d (f + 1) t (i3 k) = FX12_boundNow_L35 222 d f _ (i3 (k + 1))
    rw [FX12_boundNow_L35]
    simp (disch := omega) only [h, N125 s, Nat.reduceAdd, ob_some, mx_letI, mx_chkT, mx_inb_i3, mx_inb_lit, lit_toNat, i3_toNat, i3_le, i3_lt, i3_leL, i3_Lle, i3_ltL, i3_Llt, i3_neg, i3_eq, i3_eqL, i3_ne1, i3_add, i3_addL, i3_Ladd, i3_mul, i3_mulL, i3_Lmul, mx_b01_0, mx_b01_1, b2_01, b2_0, b2_1, se_inl, se_inr, if_true, if_false, e10, e01, e00, e11, em1, em1lt, Nat.not_lt_zero]
    rw [if_neg (by omega)]
    obtain ⟨u, h1, h2, -, h3⟩ := set_lt g s hk
    have h4 := @pc_le u
    simp (disch := omega) only [h1, M_bits _ h2, i3_divL, hlf, ob_some, mx_letI, mx_chkT, mx_inb_i3, mx_inb_lit, lit_toNat, i3_toNat, i3_le, i3_lt, i3_leL, i3_Lle, i3_ltL, i3_Llt, i3_neg, i3_eq, i3_eqL, i3_ne1, i3_add, i3_addL, i3_Ladd, i3_mul, i3_mulL, i3_Lmul, mx_b01_0, mx_b01_1, b2_01, b2_0, b2_1, se_inl, se_inr, if_true, if_false, e10, e01, e00, e11, em1, em1lt, Nat.not_lt_zero]

theorem M_boundNow (g : GI N) (s : SI N) (h : d.1 224 = N) : FX12_boundNow 222 d = some (bnd N) := by
  have e := M_bound_L1 g s h
  have e2 := M_bound_L2 g s h
  rw [show (0 : Int32) = i3 0 from rfl] at e
  unfold FX12_boundNow
  rw [show (0 : Int32) = i3 0 from rfl, e]
  simp only [ob_some, e2]
theorem M_partners_L (g : GI N) (s : SI N) (h : d.1 224 = N) {p : Nat} (hp : p < nP N) (t0 : Bool) : FX12_partners_L5 222 (i3 p) (b2 t0) d mx_FU 0 (i3 0) = some (ptn N p t0) := by
  have := g.2.1.2
  have := g.1.2
  refine lp_fo (L := fun f y t => FX12_partners_L5 222 (i3 p) (b2 t0) d f t y) (n := nL N) _ (fun t => t) _ ?_ ?_ mx_FU (FU_lt (by omega))
  · intro f t
    show FX12_partners_L5 222 (i3 p) (b2 t0) d (f + 1) t (i3 (nL N)) = _
    rw [FX12_partners_L5]
    simp (disch := omega) only [h, N1 g, Nat.le_refl, Nat.reduceAdd, ob_some, mx_letI, mx_chkT, mx_inb_i3, mx_inb_lit, lit_toNat, i3_toNat, i3_le, i3_lt, i3_leL, i3_Lle, i3_ltL, i3_Llt, i3_neg, i3_eq, i3_eqL, i3_ne1, i3_add, i3_addL, i3_Ladd, i3_mul, i3_mulL, i3_Lmul, mx_b01_0, mx_b01_1, b2_01, b2_0, b2_1, se_inl, se_inr, if_true, if_false, e10, e01, e00, e11, em1, em1lt, Nat.not_lt_zero, if_pos, if_neg]
  · intro f k t hk
    show FX12_partners_L5 222 (i3 p) (b2 t0) d (f + 1) t (i3 k) = FX12_partners_L5 222 (i3 p) (b2 t0) d f _ (i3 (k + 1))
    rw [FX12_partners_L5]
    simp (disch := omega) only [h, N1 g, M_isAt_y g h hk, M_slackOf_y g s h hk, NA g hk, NB g hk, Nat.reduceAdd, ob_some, mx_letI, mx_chkT, mx_inb_i3, mx_inb_lit, lit_toNat, i3_toNat, i3_le, i3_lt, i3_leL, i3_Lle, i3_ltL, i3_Llt, i3_neg, i3_eq, i3_eqL, i3_ne1, i3_add, i3_addL, i3_Ladd, i3_mul, i3_mulL, i3_Lmul, mx_b01_0, mx_b01_1, b2_01, b2_0, b2_1, se_inl, se_inr, if_true, if_false, e10, e01, e00, e11, em1, em1lt, Nat.not_lt_zero]
    rw [if_neg (by omega)]
    have hA := nA_lt g hk
    have hB := nB_lt g hk
    by_cases h2 : nA N k = p ∨ nB N k = p <;> by_cases h3 : slk N k = 0 <;> cases t0 <;> simp [h2, h3] <;> rw [i3_sub (by omega)] <;> rfl

theorem M_partners (g : GI N) (s : SI N) (h : d.1 224 = N) {p : Nat} (hp : p < nP N) (t0 : Bool) : FX12_partners 222 (i3 p) (b2 t0) d = some (ptn N p t0) := by
  have e := M_partners_L g s h hp t0
  rw [show (0 : Int32) = i3 0 from rfl] at e
  unfold FX12_partners
  rw [show (0 : Int32) = i3 0 from rfl, e]
  rfl
theorem M_room_L (g : GI N) (s : SI N) (h : d.1 224 = N) {p : Nat} (hp : p < nP N) : FX12_room_L28 222 (i3 p) d mx_FU (N (168 + p)) (i3 0) = some (rmo N p) := by
  have := g.2.1.2
  have := g.1.2
  refine lp_fo (L := fun f y t => FX12_room_L28 222 (i3 p) d f t y) (n := nL N) _ (fun t => t) _ ?_ ?_ mx_FU (FU_lt (by omega))
  · intro f t
    show FX12_room_L28 222 (i3 p) d (f + 1) t (i3 (nL N)) = _
    rw [FX12_room_L28]
    simp (disch := omega) only [h, N1 g, Nat.le_refl, Nat.reduceAdd, ob_some, mx_letI, mx_chkT, mx_inb_i3, mx_inb_lit, lit_toNat, i3_toNat, i3_le, i3_lt, i3_leL, i3_Lle, i3_ltL, i3_Llt, i3_neg, i3_eq, i3_eqL, i3_ne1, i3_add, i3_addL, i3_Ladd, i3_mul, i3_mulL, i3_Lmul, mx_b01_0, mx_b01_1, b2_01, b2_0, b2_1, se_inl, se_inr, if_true, if_false, e10, e01, e00, e11, em1, em1lt, Nat.not_lt_zero, if_pos, if_neg]
  · intro f k t hk
    show FX12_room_L28 222 (i3 p) d (f + 1) t (i3 k) = FX12_room_L28 222 (i3 p) d f _ (i3 (k + 1))
    rw [FX12_room_L28]
    simp (disch := omega) only [h, N1 g, M_isAt_y g h hk, M_slackOf_y g s h hk, Nat.reduceAdd, ob_some, mx_letI, mx_chkT, mx_inb_i3, mx_inb_lit, lit_toNat, i3_toNat, i3_le, i3_lt, i3_leL, i3_Lle, i3_ltL, i3_Llt, i3_neg, i3_eq, i3_eqL, i3_ne1, i3_add, i3_addL, i3_Ladd, i3_mul, i3_mulL, i3_Lmul, mx_b01_0, mx_b01_1, b2_01, b2_0, b2_1, se_inl, se_inr, if_true, if_false, e10, e01, e00, e11, em1, em1lt, Nat.not_lt_zero]
    rw [if_neg (by omega)]
    by_cases h2 : nA N k = p ∨ nB N k = p <;> by_cases h3 : t ≤ slk N k <;> simp [h2, h3, ← i3_nle (x := t)]

theorem M_point_L (g : GI N) (s : SI N) (h : d.1 224 = N) {p : Nat} (hp : p < nP N) : FX12_point_L95 222 (i3 p) d mx_FU 0 (i3 0) = some (stw N p) := by
  have := g.1.2
  have := s.1.2
  refine lp_fo (L := fun f y t => FX12_point_L95 222 (i3 p) d f t y) (n := nK N) _ (fun t => t) _ ?_ ?_ mx_FU (FU_lt (by omega))
  · intro f t
    show FX12_point_L95 222 (i3 p) d (f + 1) t (i3 (nK N)) = _
    rw [FX12_point_L95]
    simp (disch := omega) only [h, N125 s, Nat.le_refl, Nat.reduceAdd, ob_some, mx_letI, mx_chkT, mx_inb_i3, mx_inb_lit, lit_toNat, i3_toNat, i3_le, i3_lt, i3_leL, i3_Lle, i3_ltL, i3_Llt, i3_neg, i3_eq, i3_eqL, i3_ne1, i3_add, i3_addL, i3_Ladd, i3_mul, i3_mulL, i3_Lmul, mx_b01_0, mx_b01_1, b2_01, b2_0, b2_1, se_inl, se_inr, if_true, if_false, e10, e01, e00, e11, em1, em1lt, Nat.not_lt_zero, if_pos, if_neg]
  · intro f k t hk
    show FX12_point_L95 222 (i3 p) d (f + 1) t (i3 k) = FX12_point_L95 222 (i3 p) d f _ (i3 (k + 1))
    rw [FX12_point_L95]
    simp (disch := omega) only [h, N125 s, M_has, Nat.reduceAdd, ob_some, mx_letI, mx_chkT, mx_inb_i3, mx_inb_lit, lit_toNat, i3_toNat, i3_le, i3_lt, i3_leL, i3_Lle, i3_ltL, i3_Llt, i3_neg, i3_eq, i3_eqL, i3_ne1, i3_add, i3_addL, i3_Ladd, i3_mul, i3_mulL, i3_Lmul, mx_b01_0, mx_b01_1, b2_01, b2_0, b2_1, se_inl, se_inr, if_true, if_false, e10, e01, e00, e11, em1, em1lt, Nat.not_lt_zero]
    rw [if_neg (by omega)]
    cases bt (N (178 + k)) p <;> rfl

theorem M_now_L2 (g : GI N) (s : SI N) (h : d.1 224 = N) : FX12_now_L64 222 d mx_FU 0 (i3 0) = some (lnp N) := by
  have := g.1.2
  refine lp_fo (L := fun f y t => FX12_now_L64 222 d f t y) (n := nP N) _ (fun t => t) _ ?_ ?_ mx_FU (FU_lt (by omega))
  · intro f t
    show FX12_now_L64 222 d (f + 1) t (i3 (nP N)) = _
    rw [FX12_now_L64]
    simp (disch := omega) only [h, N0 g, Nat.le_refl, Nat.reduceAdd, ob_some, mx_letI, mx_chkT, mx_inb_i3, mx_inb_lit, lit_toNat, i3_toNat, i3_le, i3_lt, i3_leL, i3_Lle, i3_ltL, i3_Llt, i3_neg, i3_eq, i3_eqL, i3_ne1, i3_add, i3_addL, i3_Ladd, i3_mul, i3_mulL, i3_Lmul, mx_b01_0, mx_b01_1, b2_01, b2_0, b2_1, se_inl, se_inr, if_true, if_false, e10, e01, e00, e11, em1, em1lt, Nat.not_lt_zero, if_pos, if_neg]
  · intro f k t hk
    show FX12_now_L64 222 d (f + 1) t (i3 k) = FX12_now_L64 222 d f _ (i3 (k + 1))
    rw [FX12_now_L64]
    simp (disch := omega) only [h, N0 g, M_isLone_y g h hk, Nat.reduceAdd, ob_some, mx_letI, mx_chkT, mx_inb_i3, mx_inb_lit, lit_toNat, i3_toNat, i3_le, i3_lt, i3_leL, i3_Lle, i3_ltL, i3_Llt, i3_neg, i3_eq, i3_eqL, i3_ne1, i3_add, i3_addL, i3_Ladd, i3_mul, i3_mulL, i3_Lmul, mx_b01_0, mx_b01_1, b2_01, b2_0, b2_1, se_inl, se_inr, if_true, if_false, e10, e01, e00, e11, em1, em1lt, Nat.not_lt_zero]
    rw [if_neg (by omega)]
    cases lone N k <;> rfl

theorem M_now_L3 (g : GI N) (s : SI N) (h : d.1 224 = N) : FX12_now_L98 222 d mx_FU 0 (i3 0) = some (tgl N) := by
  have := g.2.1.2
  refine lp_fo (L := fun f y t => FX12_now_L98 222 d f t y) (n := nL N) _ (fun t => t) _ ?_ ?_ mx_FU (FU_lt (by omega))
  · intro f t
    show FX12_now_L98 222 d (f + 1) t (i3 (nL N)) = _
    rw [FX12_now_L98]
    simp (disch := omega) only [h, N1 g, Nat.le_refl, Nat.reduceAdd, ob_some, mx_letI, mx_chkT, mx_inb_i3, mx_inb_lit, lit_toNat, i3_toNat, i3_le, i3_lt, i3_leL, i3_Lle, i3_ltL, i3_Llt, i3_neg, i3_eq, i3_eqL, i3_ne1, i3_add, i3_addL, i3_Ladd, i3_mul, i3_mulL, i3_Lmul, mx_b01_0, mx_b01_1, b2_01, b2_0, b2_1, se_inl, se_inr, if_true, if_false, e10, e01, e00, e11, em1, em1lt, Nat.not_lt_zero, if_pos, if_neg]
  · intro f k t hk
    show FX12_now_L98 222 d (f + 1) t (i3 k) = FX12_now_L98 222 d f _ (i3 (k + 1))
    rw [FX12_now_L98]
    simp (disch := omega) only [h, N1 g, M_slackOf_y g s h hk, Nat.reduceAdd, ob_some, mx_letI, mx_chkT, mx_inb_i3, mx_inb_lit, lit_toNat, i3_toNat, i3_le, i3_lt, i3_leL, i3_Lle, i3_ltL, i3_Llt, i3_neg, i3_eq, i3_eqL, i3_ne1, i3_add, i3_addL, i3_Ladd, i3_mul, i3_mulL, i3_Lmul, mx_b01_0, mx_b01_1, b2_01, b2_0, b2_1, se_inl, se_inr, if_true, if_false, e10, e01, e00, e11, em1, em1lt, Nat.not_lt_zero]
    rw [if_neg (by omega)]
    split <;> rfl

end ASKC
