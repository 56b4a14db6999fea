/-! ===== deeds ===== -/
def ud (N : Rw) (k : Nat) (v : Int32) : Rw := fun j => if j = k then v else N j
theorem ud_self (N : Rw) (k : Nat) (v : Int32) : ud N k v k = v := by simp [ud]
theorem ud_ne (N : Rw) {k j : Nat} (v : Int32) (h : j ≠ k) : ud N k v j = N j := by simp [ud, h]
def sr (d : mB) (R : Rw) : mB := (fun b j => if b = 224 then R j else d.1 b j, d.2)
theorem sr_row (d : mB) (R : Rw) : (sr d R).1 224 = R := by funext j; simp [sr]
theorem sr_ne (d : mB) (R : Rw) {b : Nat} (h : b ≠ 224) : (sr d R).1 b = d.1 b := by funext j; simp [sr, h]
theorem sr_2 (d : mB) (R : Rw) : (sr d R).2 = d.2 := rfl
theorem sr_sr (d : mB) (R R' : Rw) : sr (sr d R) R' = sr d R' := by
  unfold sr
  refine Prod.ext ?_ rfl
  funext b j
  dsimp only
  split <;> rfl
theorem sr_self (d : mB) : sr d (d.1 224) = d := by
  unfold sr
  refine Prod.ext ?_ rfl
  funext b j
  dsimp only
  split
  · rename_i h; rw [h]
  · rfl
theorem up_row (d : mB) (k : Nat) (v : Int32) : (mx_up d.1 224 k v, d.2) = sr d (ud (d.1 224) k v) := by
  unfold sr
  refine Prod.ext ?_ rfl
  funext b j
  simp only [mx_up, ud]
  by_cases h : b = 224
  · by_cases h2 : j = k <;> simp [h, h2]
  · simp [h]
theorem up_row' (d : mB) (k : Nat) (v : Int32) : (mx_up d.1 (222 + 2) k v, d.2) = sr d (ud (d.1 224) k v) := up_row d k v
theorem ff_congr {P Q : Nat → Bool} : ∀ {n : Nat}, (∀ k, k < n → P k = Q k) → ff P n = ff Q n := by
  intro n h
  cases e : ff Q n with
  | none =>
    rw [ff_none] at e ⊢
    intro i hi
    rw [h i hi]
    exact e i hi
  | some i =>
    rw [ff_some] at e ⊢
    refine ⟨e.1, by rw [h i e.1]; exact e.2.1, fun j hj => ?_⟩
    rw [h j (by omega)]
    exact e.2.2 j hj
/-! the head stays -/
section HEAD
variable {N N' : Rw}
theorem hd_P (hh : ∀ k, k < 63 → N' k = N k) : nP N' = nP N := by unfold nP; rw [hh 0 (by omega)]
theorem hd_L (hh : ∀ k, k < 63 → N' k = N k) : nL N' = nL N := by unfold nL; rw [hh 1 (by omega)]
theorem hd_A (hh : ∀ k, k < 63 → N' k = N k) {l : Nat} (hl : l < 30) : nA N' l = nA N l := by unfold nA; rw [hh (3 + l) (by omega)]
theorem hd_B (hh : ∀ k, k < 63 → N' k = N k) {l : Nat} (hl : l < 30) : nB N' l = nB N l := by unfold nB; rw [hh (33 + l) (by omega)]
theorem hd_lm (hh : ∀ k, k < 63 → N' k = N k) (p q : Nat) {l : Nat} (hl : l < 30) : lm N' p q l = lm N p q l := by unfold lm; rw [hd_A hh hl, hd_B hh hl]
theorem hd_li (hh : ∀ k, k < 63 → N' k = N k) (g : GI N) (p q : Nat) : li N' p q = li N p q := by
  have := g.2.1.2
  unfold li
  rw [hd_L hh]
  exact ff_congr (fun k hk => hd_lm hh p q (by omega))
theorem hd_lk (hh : ∀ k, k < 63 → N' k = N k) (g : GI N) (p q : Nat) : lk N' p q = lk N p q := by unfold lk; rw [hd_li hh g]
theorem hd_lc (hh : ∀ k, k < 63 → N' k = N k) (g : GI N) (p q : Nat) : lc N' p q = lc N p q := by unfold lc; rw [hd_li hh g]
theorem hd_GI (hh : ∀ k, k < 63 → N' k = N k) (g : GI N) : GI N' := by
  have h30 := g.2.1.2
  refine ⟨⟨by rw [hh 0 (by omega), hd_P hh]; exact g.1.1, by rw [hd_P hh]; exact g.1.2⟩, ⟨by rw [hh 1 (by omega), hd_L hh]; exact g.2.1.1, by rw [hd_L hh]; exact h30⟩, ?_, ?_⟩
  · intro l hl
    rw [hd_L hh] at hl
    rw [hh (3 + l) (by omega), hh (33 + l) (by omega), hd_A hh (by omega), hd_B hh (by omega), hd_P hh]
    exact g.2.2.1 l hl
  · intro l l' hl hl'
    rw [hd_L hh] at hl hl'
    rw [hd_A hh (by omega), hd_B hh (by omega), hd_lm hh _ _ (by omega)]
    exact g.2.2.2 l l' hl hl'
end HEAD
/-- the class's network at a is as the row N, which is as it may be -/
def Nt (c : mB) (a : Nat) (N : Rw) : Prop := GI N ∧ SI N ∧ CG c a N ∧ CS c a N
section DEEDS
variable {c c' d : mB} {a : Nat} {N N' : Rw}
theorem CG_mv (g : GI N) (h : CG c a N) (e0 : c'.1 a 0 = c.1 a 0) (e1 : c'.1 a 1 = c.1 a 1) (e2 : c'.1 (a + 2) = c.1 (a + 2)) (e5 : c'.1 (a + 5) = c.1 (a + 5)) (e6 : c'.1 (a + 6) = c.1 (a + 6)) (e7 : c'.1 (a + 7) = c.1 (a + 7)) (e8 : c'.1 (a + 8) = c.1 (a + 8))
    (hh : ∀ k, k < 63 → N' k = N k) (hw : ∀ l, l < 30 → N' (128 + l) = N (128 + l)) : CG c' a N' := by
  have h30 := g.2.1.2
  refine ⟨⟨by rw [e0, hh 0 (by omega)]; exact h.1.1, by rw [e1, hh 1 (by omega)]; exact h.1.2⟩, ?_, ?_, ?_⟩
  · intro p hp q
    rw [hd_P hh] at hp
    rw [e2, hd_lk hh g]
    exact h.2.1 p hp q
  · intro l hl
    rw [hd_L hh] at hl
    rw [e5, e6, e7, hh (3 + l) (by omega), hh (33 + l) (by omega), hw l (by omega)]
    exact h.2.2.1 l hl
  · intro p q hp hq
    rw [hd_P hh] at hp hq
    rw [e8, hd_lc hh g]
    exact h.2.2.2 p q hp hq
def rPair (N : Rw) (p q : Nat) : Int32 := if lk N p q = true then (if (lone N p && lone N q) = true then 0 else 2) else 1
def nPair (N : Rw) (p q : Nat) : Rw := ud (ud N (158 + p) (i3 q)) (158 + q) (i3 p)
theorem up_at (m : mI) (b k : Nat) (x : Int32) (j : Nat) : mx_up m b k x b j = if j = k then x else m b j := by simp [mx_up]
theorem up_off (m : mI) {b b' : Nat} (h : b' ≠ b) (k : Nat) (x : Int32) : mx_up m b k x b' = m b' := by funext j; simp [mx_up, h]
theorem SI_pair (g : GI N) (s : SI N) {p q : Nat} (hr : rPair N p q = 0) : SI (nPair N p q) := by
  have hn := g.1.2
  unfold rPair at hr
  have hk : lk N p q = true := by
    cases h : lk N p q with
    | true => rfl
    | false => rw [h, if_neg (by decide)] at hr; exact absurd hr (by decide)
  have hl : lone N p = true ∧ lone N q = true := by
    rw [hk] at hr
    cases h : lone N p <;> cases h2 : lone N q <;> rw [h, h2] at hr <;> first | exact absurd hr (by decide) | exact ⟨rfl, rfl⟩
  obtain ⟨hp, hq, hne⟩ := lk_lt g hk
  unfold lone at hl
  simp only [decide_eq_true_eq] at hl
  have hh : ∀ k, k < 63 → nPair N p q k = N k := fun k hk => by unfold nPair; rw [ud_ne _ _ (by omega), ud_ne _ _ (by omega)]
  have hk125 : nK (nPair N p q) = nK N := by unfold nK nPair; rw [ud_ne _ _ (by omega), ud_ne _ _ (by omega)]
  have off : ∀ k, k ≠ 158 + p → k ≠ 158 + q → nPair N p q k = N k := fun k h1 h2 => by unfold nPair; rw [ud_ne _ _ h2, ud_ne _ _ h1]
  have atq : nPair N p q (158 + q) = i3 p := by unfold nPair; rw [ud_self]
  have atp : nPair N p q (158 + p) = i3 q := by unfold nPair; rw [ud_ne _ _ (by omega), ud_self]
  refine ⟨⟨?_, by rw [hk125]; exact s.1.2⟩, ?_, ?_, ?_, ?_⟩
  · rw [hk125, off 125 (by omega) (by omega)]; exact s.1.1
  · intro l hl
    rw [hd_L hh] at hl
    have := g.2.1.2
    rw [off _ (by omega) (by omega)]
    exact s.2.1 l hl
  · intro r hr
    rw [hd_P hh] at hr ⊢
    by_cases e1 : r = p
    · subst e1
      exact Or.inr ⟨q, hq, atp, atq, by rw [hd_lk hh g]; exact hk⟩
    · by_cases e2 : r = q
      · subst e2
        exact Or.inr ⟨p, hp, atq, atp, by rw [hd_lk hh g, lk_comm]; exact hk⟩
      · rw [off (158 + r) (by omega) (by omega)]
        rcases prt s hr with h | ⟨t, ht, h1, h2, h3⟩
        · exact Or.inl h
        · have h4 : t ≠ p := fun e => by
            rw [e, hl.1] at h2
            have := i3_ne1 (a := r) (by omega)
            rw [← h2] at this
            exact this.mp rfl
          have h5 : t ≠ q := fun e => by
            rw [e, hl.2] at h2
            have := i3_ne1 (a := r) (by omega)
            rw [← h2] at this
            exact this.mp rfl
          exact Or.inr ⟨t, ht, h1, by rw [off _ (by omega) (by omega)]; exact h2, by rw [hd_lk hh g]; exact h3⟩
  · intro r hr
    rw [hd_P hh] at hr
    rw [off _ (by omega) (by omega)]
    exact s.2.2.2.1 r hr
  · intro k hk
    rw [hk125] at hk
    have := s.1.2
    rw [off _ (by omega) (by omega), off _ (by omega) (by omega), hd_P hh]
    exact s.2.2.2.2 k hk
theorem C_pairUp (h : Nt c a N) {p q : Nat} (hp : p < nP N) (hq : q < nP N) : ∃ c', FX4_pairUp a (i3 p) (i3 q) c = some (rPair N p q, c') ∧ Nt c' a (if rPair N p q = 0 then nPair N p q else N) ∧ (rPair N p q ≠ 0 → c' = c) := by
  obtain ⟨g, s, h1, h2⟩ := h
  have hn := g.1.2
  have key : ∀ {r : Int32} {c' : mB}, FX4_pairUp a (i3 p) (i3 q) c = some (r, c') → r = rPair N p q → ((r = 0 → Nt c' a (nPair N p q)) ∧ (r ≠ 0 → c' = c)) → ∃ c', FX4_pairUp a (i3 p) (i3 q) c = some (rPair N p q, c') ∧ Nt c' a (if rPair N p q = 0 then nPair N p q else N) ∧ (rPair N p q ≠ 0 → c' = c) := by
    rintro r c' e rfl h3
    refine ⟨c', e, ?_, h3.2⟩
    by_cases h4 : rPair N p q = 0
    · rw [if_pos h4]; exact h3.1 h4
    · rw [if_neg h4, h3.2 h4]; exact ⟨g, s, h1, h2⟩
  have ep : c.1 (a + 3) p = N (158 + p) := (h2.2.1 p hp).1
  have eq : c.1 (a + 3) q = N (158 + q) := (h2.2.1 q hq).1
  have eF := C_areLinked_y g h1 hp hq
  cases hk : lk N p q with
  | false =>
    refine key (r := 1) (c' := c) ?_ (by unfold rPair; rw [hk]; rfl) ⟨fun q => absurd q (by decide), fun _ => rfl⟩
    unfold FX4_pairUp
    rw [eF, hk]
    rfl
  | true =>
    cases hl1 : lone N p with
    | false =>
      refine key (r := 2) (c' := c) ?_ (by unfold rPair; rw [hk, hl1]; rfl) ⟨fun q => absurd q (by decide), fun _ => rfl⟩
      unfold FX4_pairUp
      rw [eF, hk]
      simp (disch := omega) only [ep, ob_some, mx_letI, mx_chkT, mx_inb_i3, mx_inb_lit, lit_toNat, i3_toNat, i3_le, i3_lt, i3_leL, i3_Lle, i3_ltL, i3_Llt, i3_neg, i3_eq, i3_eqL, i3_ne1, i3_add, i3_addL, i3_Ladd, i3_mul, i3_mulL, i3_Lmul, mx_b01_0, mx_b01_1, b2_01, b2_0, b2_1, se_inl, se_inr, if_true, if_false, e10, e01, e00, e11, em1, em1lt, Nat.not_lt_zero]
      rw [if_neg (of_decide_eq_false hl1)]
      rfl
    | true =>
      cases hl2 : lone N q with
      | false =>
        refine key (r := 2) (c' := c) ?_ (by unfold rPair; rw [hk, hl1, hl2]; rfl) ⟨fun q => absurd q (by decide), fun _ => rfl⟩
        unfold FX4_pairUp
        rw [eF, hk]
        simp (disch := omega) only [ep, eq, ob_some, mx_letI, mx_chkT, mx_inb_i3, mx_inb_lit, lit_toNat, i3_toNat, i3_le, i3_lt, i3_leL, i3_Lle, i3_ltL, i3_Llt, i3_neg, i3_eq, i3_eqL, i3_ne1, i3_add, i3_addL, i3_Ladd, i3_mul, i3_mulL, i3_Lmul, mx_b01_0, mx_b01_1, b2_01, b2_0, b2_1, se_inl, se_inr, if_true, if_false, e10, e01, e00, e11, em1, em1lt, Nat.not_lt_zero]
        rw [if_pos (of_decide_eq_true hl1), if_neg (of_decide_eq_false hl2)]
        rfl
      | true =>
        have hr : rPair N p q = 0 := by unfold rPair; rw [hk, hl1, hl2]; rfl
        have e : FX4_pairUp a (i3 p) (i3 q) c = some (0, (mx_up (mx_up c.1 (a + 3) p (i3 q)) (a + 3) q (i3 p), c.2)) := by
          unfold FX4_pairUp
          rw [eF, hk]
          simp (disch := omega) only [ep, eq, ob_some, mx_letI, mx_chkT, mx_inb_i3, mx_inb_lit, lit_toNat, i3_toNat, i3_le, i3_lt, i3_leL, i3_Lle, i3_ltL, i3_Llt, i3_neg, i3_eq, i3_eqL, i3_ne1, i3_add, i3_addL, i3_Ladd, i3_mul, i3_mulL, i3_Lmul, mx_b01_0, mx_b01_1, b2_01, b2_0, b2_1, se_inl, se_inr, if_true, if_false, e10, e01, e00, e11, em1, em1lt, Nat.not_lt_zero]
          rw [if_pos (of_decide_eq_true hl1), if_pos (of_decide_eq_true hl2)]
          rfl
        refine key e hr.symm ⟨fun _ => ?_, fun q => absurd rfl q⟩
        have hz := ZX4_pairUp e
        have hh : ∀ k, k < 63 → nPair N p q k = N k := fun k hk => by unfold nPair; rw [ud_ne _ _ (by omega), ud_ne _ _ (by omega)]
        have off : ∀ k, k ≠ 158 + p → k ≠ 158 + q → nPair N p q k = N k := fun k h1 h2 => by unfold nPair; rw [ud_ne _ _ h2, ud_ne _ _ h1]
        have cl : ∀ b, b ≠ a + 3 → (mx_up (mx_up c.1 (a + 3) p (i3 q)) (a + 3) q (i3 p)) b = c.1 b := fun b hb => hz.cell b (fun j => by unfold WSX4_pairUp; exact hb)
        refine ⟨hd_GI hh g, SI_pair g s hr, CG_mv g h1 (congrFun (cl a (by omega)) 0) (congrFun (cl a (by omega)) 1) (cl _ (by omega)) (cl _ (by omega)) (cl _ (by omega)) (cl _ (by omega)) (cl _ (by omega)) hh (fun l hl => off _ (by omega) (by omega)), ?_⟩
        have hk125 : nK (nPair N p q) = nK N := by unfold nK; rw [off 125 (by omega) (by omega)]
        refine ⟨⟨?_, ?_, ?_⟩, ?_, ?_⟩
        · rw [off 125 (by omega) (by omega)]; show (mx_up _ _ _ _) a 2 = _; rw [cl a (by omega)]; exact h2.1.1
        · rw [off 126 (by omega) (by omega)]; show (mx_up _ _ _ _) a 3 = _; rw [cl a (by omega)]; exact h2.1.2.1
        · rw [off 127 (by omega) (by omega)]; show (mx_up _ _ _ _) a 4 = _; rw [cl a (by omega)]; exact h2.1.2.2
        · intro r hr2
          rw [hd_P hh] at hr2
          constructor
          · show mx_up (mx_up c.1 (a + 3) p (i3 q)) (a + 3) q (i3 p) (a + 3) r = _
            rw [up_at, up_at]
            unfold nPair ud
            by_cases h5 : r = q
            · simp [h5]
            · by_cases h6 : r = p
              · simp [h6]
              · simp [h5, h6]
                exact (h2.2.1 r hr2).1
          · rw [off _ (by omega) (by omega)]; show (mx_up _ _ _ _) (a + 4) r = _; rw [cl _ (by omega)]; exact (h2.2.1 r hr2).2
        · intro k hk2
          rw [hk125] at hk2
          have := s.1.2
          rw [off _ (by omega) (by omega), off _ (by omega) (by omega)]
          constructor
          · show (mx_up _ _ _ _) (a + 9) k = _; rw [cl _ (by omega)]; exact (h2.2.2 k hk2).1
          · show (mx_up _ _ _ _) (a + 10) k = _; rw [cl _ (by omega)]; exact (h2.2.2 k hk2).2
theorem M_refusal_pair (g : GI N) (s : SI N) (h : d.1 224 = N) {p q : Nat} (hp : p < nP N) (hq : q < nP N) (n : Int32) : FX12_refusal 222 0 (i3 p) (i3 q) n d = some (rPair N p q, d) := by
  have hn := g.1.2
  unfold FX12_refusal rPair
  simp (disch := omega) only [M_areLinked g h, M_isLone_y g h, ob_some, mx_letI, mx_chkT, mx_inb_i3, mx_inb_lit, lit_toNat, i3_toNat, i3_le, i3_lt, i3_leL, i3_Lle, i3_ltL, i3_Llt, i3_neg, i3_eq, i3_eqL, i3_ne1, i3_add, i3_addL, i3_Ladd, i3_mul, i3_mulL, i3_Lmul, mx_b01_0, mx_b01_1, b2_01, b2_0, b2_1, se_inl, se_inr, if_true, if_false, e10, e01, e00, e11, em1, em1lt, Nat.not_lt_zero]
  cases lk N p q <;> cases lone N p <;> cases lone N q <;> rfl
theorem M_live_pair (g : GI N) (h : d.1 224 = N) {p q : Nat} (hp : p < nP N) (hq : q < nP N) (n : Int32) : FX12_live 222 0 (i3 p) (i3 q) n d = some (sr d (nPair N p q)) := by
  have hn := g.1.2
  unfold FX12_live
  simp (disch := omega) only [up_row', sr_row, sr_sr, h, ob_some, mx_letI, mx_chkT, mx_inb_i3, mx_inb_lit, lit_toNat, i3_toNat, i3_le, i3_lt, i3_leL, i3_Lle, i3_ltL, i3_Llt, i3_neg, i3_eq, i3_eqL, i3_ne1, i3_add, i3_addL, i3_Ladd, i3_mul, i3_mulL, i3_Lmul, mx_b01_0, mx_b01_1, b2_01, b2_0, b2_1, se_inl, se_inr, if_true, if_false, e10, e01, e00, e11, em1, em1lt, Nat.not_lt_zero]
  rfl
end DEEDS
