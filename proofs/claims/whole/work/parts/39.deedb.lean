/-! ===== more deeds ===== -/
section DEEDB
variable {c c' d : mB} {a : Nat} {N N' : Rw}
/-- a network that has changed but for points and links -/
theorem Nt_mk (h : Nt c a N) (hSI : SI N') (hh : ∀ k, k < 63 → N' k = N k) (e0 : c'.1 a 0 = c.1 a 0) (e1 : c'.1 a 1 = c.1 a 1) (e2 : c'.1 (a + 2) = c.1 (a + 2)) (e5 : c'.1 (a + 5) = c.1 (a + 5)) (e6 : c'.1 (a + 6) = c.1 (a + 6)) (e8 : c'.1 (a + 8) = c.1 (a + 8))
    (e7 : ∀ l, l < nL N → c'.1 (a + 7) l = N' (128 + l)) (es : c'.1 a 2 = N' 125 ∧ c'.1 a 3 = N' 126 ∧ c'.1 a 4 = N' 127)
    (ep : ∀ p, p < nP N → c'.1 (a + 3) p = N' (158 + p) ∧ c'.1 (a + 4) p = N' (168 + p)) (ek : ∀ k, k < nK N' → c'.1 (a + 9) k = N' (178 + k) ∧ c'.1 (a + 10) k = N' (184 + k)) : Nt c' a N' := by
  obtain ⟨g, s, h1, h2⟩ := h
  have h30 := g.2.1.2
  refine ⟨hd_GI hh g, hSI, ⟨⟨by rw [e0, hh 0 (by omega)]; exact h1.1.1, by rw [e1, hh 1 (by omega)]; exact h1.1.2⟩, ?_, ?_, ?_⟩, es, ?_, ek⟩
  · intro p hp q
    rw [hd_P hh] at hp
    rw [e2, hd_lk hh g]
    exact h1.2.1 p hp q
  · intro l hl
    rw [hd_L hh] at hl
    rw [e5, e6, hh (3 + l) (by omega), hh (33 + l) (by omega)]
    exact ⟨(h1.2.2.1 l hl).1, (h1.2.2.1 l hl).2.1, e7 l hl⟩
  · intro p q hp hq
    rw [hd_P hh] at hp hq
    rw [e8, hd_lc hh g]
    exact h1.2.2.2 p q hp hq
  · intro p hp
    rw [hd_P hh] at hp
    exact ep p hp
/-- what of a row must be shown anew -/
theorem SI_mk (g : GI N) (s : SI N) (hh : ∀ k, k < 63 → N' k = N k) (hk : N' 125 = i3 (nK N') ∧ nK N' ≤ 6) (hw : ∀ l, l < nL N → ∃ w, N' (128 + l) = i3 w ∧ 1 ≤ w ∧ w ≤ 99)
    (hp : ∀ p, p < nP N → N' (158 + p) = -1 ∨ ∃ q, q < nP N ∧ N' (158 + p) = i3 q ∧ N' (158 + q) = i3 p ∧ lk N p q = true)
    (hc : ∀ p, p < nP N → ∃ w, N' (168 + p) = i3 w ∧ w ≤ 400)
    (hs : ∀ k, k < nK N' → (∃ w, N' (184 + k) = i3 w ∧ w ≤ 400) ∧ ∃ t, N' (178 + k) = i3 t ∧ t < 2 ^ nP N ∧ pc t % 2 = 1) : SI N' := by
  refine ⟨hk, ?_, ?_, ?_, ?_⟩
  · intro l hl; rw [hd_L hh] at hl; exact hw l hl
  · intro p h
    rw [hd_P hh] at h ⊢
    rcases hp p h with q | ⟨q, h1, h2, h3, h4⟩
    · exact Or.inl q
    · exact Or.inr ⟨q, h1, h2, h3, by rw [hd_lk hh g]; exact h4⟩
  · intro p h; rw [hd_P hh] at h; exact hc p h
  · intro k h; rw [hd_P hh]; exact hs k h
/-! price -/
def rPrice (N : Rw) (p : Nat) (n : Int32) : Int32 := if N (168 + p) = n then 1 else 0
theorem C_priceAt (h : Nt c a N) {p : Nat} (hp : p < nP N) {n : Int32} (hn : ∃ w, n = i3 w ∧ w ≤ 400) : ∃ c', FX4_priceAt a (i3 p) n c = some (rPrice N p n, c') ∧ Nt c' a (if rPrice N p n = 0 then ud N (168 + p) n else N) ∧ (rPrice N p n ≠ 0 → c' = c) := by
  have h' := h
  obtain ⟨g, s, h1, h2⟩ := h'
  have h10 := g.1.2
  have ep : c.1 (a + 4) p = N (168 + p) := (h2.2.1 p hp).2
  by_cases e : N (168 + p) = n
  · have hr : rPrice N p n = 1 := by unfold rPrice; rw [if_pos e]
    rw [hr]
    refine ⟨c, ?_, h, fun _ => rfl⟩
    unfold FX4_priceAt
    simp (disch := omega) only [C_hasPoint_y g h1 hp, ep, e, ob_some, mx_letI, mx_chkT, mx_inb_i3, mx_inb_lit, lit_toNat, i3_toNat, i3_le, i3_lt, i3_leL, i3_Lle, i3_ltL, i3_Llt, i3_neg, i3_eq, i3_eqL, i3_ne1, i3_add, i3_addL, i3_Ladd, i3_mul, i3_mulL, i3_Lmul, mx_b01_0, mx_b01_1, b2_01, b2_0, b2_1, se_inl, se_inr, if_true, if_false, e10, e01, e00, e11, em1, em1lt, Nat.not_lt_zero]
  · have hr : rPrice N p n = 0 := by unfold rPrice; rw [if_neg e]
    rw [hr]
    have eF : FX4_priceAt a (i3 p) n c = some (0, (mx_up c.1 (a + 4) p n, c.2)) := by
      unfold FX4_priceAt
      simp (disch := omega) only [C_hasPoint_y g h1 hp, ep, e, ob_some, mx_letI, mx_chkT, mx_inb_i3, mx_inb_lit, lit_toNat, i3_toNat, i3_le, i3_lt, i3_leL, i3_Lle, i3_ltL, i3_Llt, i3_neg, i3_eq, i3_eqL, i3_ne1, i3_add, i3_addL, i3_Ladd, i3_mul, i3_mulL, i3_Lmul, mx_b01_0, mx_b01_1, b2_01, b2_0, b2_1, se_inl, se_inr, if_true, if_false, e10, e01, e00, e11, em1, em1lt, Nat.not_lt_zero]
    have off : ∀ k, k ≠ 168 + p → ud N (168 + p) n k = N k := fun k hk => ud_ne _ _ hk
    have cl : ∀ b, b ≠ a + 4 → (mx_up c.1 (a + 4) p n) b = c.1 b := fun b hb => up_off _ hb _ _
    have hk125 : nK (ud N (168 + p) n) = nK N := by unfold nK; rw [off 125 (by omega)]
    refine ⟨_, eF, ?_, fun q => absurd rfl q⟩
    rw [if_pos rfl]
    have hL := g.2.1.2
    have hK := s.1.2
    refine Nt_mk h (SI_mk g s (fun k hk => off k (by omega)) ?_ ?_ ?_ ?_ ?_) (fun k hk => off k (by omega)) (congrFun (cl a (by omega)) 0) (congrFun (cl a (by omega)) 1) (cl _ (by omega)) (cl _ (by omega)) (cl _ (by omega)) (cl _ (by omega)) ?_ ?_ ?_ ?_
    · rw [hk125, off 125 (by omega)]; exact s.1
    · intro l hl; rw [off _ (by omega)]; exact s.2.1 l hl
    · intro r hr2
      rw [off _ (by omega)]
      rcases prt s hr2 with q | ⟨q, q1, q2, q3, q4⟩
      · exact Or.inl q
      · exact Or.inr ⟨q, q1, q2, by rw [off _ (by omega)]; exact q3, q4⟩
    · intro r hr2
      by_cases e2 : r = p
      · subst e2; rw [ud_self]; exact hn
      · rw [off _ (by omega)]; exact s.2.2.2.1 r hr2
    · intro k hk; rw [hk125] at hk; rw [off _ (by omega), off _ (by omega)]; exact s.2.2.2.2 k hk
    · intro l hl; rw [off _ (by omega)]; exact (congrFun (cl (a + 7) (by omega)) l).trans (h1.2.2.1 l hl).2.2
    · rw [off _ (by omega), off _ (by omega), off _ (by omega)]; exact ⟨(congrFun (cl a (by omega)) 2).trans h2.1.1, (congrFun (cl a (by omega)) 3).trans h2.1.2.1, (congrFun (cl a (by omega)) 4).trans h2.1.2.2⟩
    · intro r hr2
      refine ⟨by rw [off _ (by omega)]; exact (congrFun (cl (a + 3) (by omega)) r).trans (h2.2.1 r hr2).1, ?_⟩
      show mx_up c.1 (a + 4) p n (a + 4) r = _
      rw [up_at]
      unfold ud
      by_cases e2 : r = p
      · simp [e2]
      · simp [e2]; exact (h2.2.1 r hr2).2
    · intro k hk; rw [hk125] at hk; rw [off _ (by omega), off _ (by omega)]; exact ⟨(congrFun (cl (a + 9) (by omega)) k).trans (h2.2.2 k hk).1, (congrFun (cl (a + 10) (by omega)) k).trans (h2.2.2 k hk).2⟩
theorem M_refusal_price (g : GI N) (h : d.1 224 = N) {p : Nat} (hp : p < nP N) (y n : Int32) : FX12_refusal 222 3 (i3 p) y n d = some (rPrice N p n, d) := by
  have hn := g.1.2
  unfold FX12_refusal rPrice
  rw [if_neg (by decide), if_neg (by decide), if_neg (by decide), if_pos rfl]
  simp (disch := omega) only [h, Nat.reduceAdd, ob_some, mx_letI, mx_chkT, mx_inb_i3, mx_inb_lit, lit_toNat, i3_toNat, i3_le, i3_lt, i3_leL, i3_Lle, i3_ltL, i3_Llt, i3_neg, i3_eq, i3_eqL, i3_ne1, i3_add, i3_addL, i3_Ladd, i3_mul, i3_mulL, i3_Lmul, mx_b01_0, mx_b01_1, b2_01, b2_0, b2_1, se_inl, se_inr, if_true, if_false, e10, e01, e00, e11, em1, em1lt, Nat.not_lt_zero]
  split <;> rfl
theorem M_live_price (g : GI N) (h : d.1 224 = N) {p : Nat} (hp : p < nP N) (y n : Int32) : FX12_live 222 3 (i3 p) y n d = some (sr d (ud N (168 + p) n)) := by
  have hn := g.1.2
  unfold FX12_live
  rw [if_neg (by decide), if_neg (by decide), if_neg (by decide), if_pos rfl]
  simp (disch := omega) only [up_row', sr_row, sr_sr, h, ob_some, mx_letI, mx_chkT, mx_inb_i3, mx_inb_lit, lit_toNat, i3_toNat, i3_le, i3_lt, i3_leL, i3_Lle, i3_ltL, i3_Llt, i3_neg, i3_eq, i3_eqL, i3_ne1, i3_add, i3_addL, i3_Ladd, i3_mul, i3_mulL, i3_Lmul, mx_b01_0, mx_b01_1, b2_01, b2_0, b2_1, se_inl, se_inr, if_true, if_false, e10, e01, e00, e11, em1, em1lt, Nat.not_lt_zero]
/-! crown -/
def rCrown (N : Rw) (k : Nat) (n : Int32) : Int32 := if N (184 + k) = n then 1 else 0
theorem C_crownAt (h : Nt c a N) {k : Nat} (hk : k < nK N) {n : Int32} (hn : ∃ w, n = i3 w ∧ w ≤ 400) : ∃ c', FX4_crownAt a (i3 k) n c = some (rCrown N k n, c') ∧ Nt c' a (if rCrown N k n = 0 then ud N (184 + k) n else N) ∧ (rCrown N k n ≠ 0 → c' = c) := by
  have h' := h
  obtain ⟨g, s, h1, h2⟩ := h'
  have h10 := g.1.2
  have hL := g.2.1.2
  have hK := s.1.2
  have ep : c.1 (a + 10) k = N (184 + k) := (h2.2.2 k hk).2
  by_cases e : N (184 + k) = n
  · have hr : rCrown N k n = 1 := by unfold rCrown; rw [if_pos e]
    rw [hr]
    refine ⟨c, ?_, h, fun _ => rfl⟩
    unfold FX4_crownAt
    simp (disch := omega) only [C_hasSet_y s h2 hk, ep, e, ob_some, mx_letI, mx_chkT, mx_inb_i3, mx_inb_lit, lit_toNat, i3_toNat, i3_le, i3_lt, i3_leL, i3_Lle, i3_ltL, i3_Llt, i3_neg, i3_eq, i3_eqL, i3_ne1, i3_add, i3_addL, i3_Ladd, i3_mul, i3_mulL, i3_Lmul, mx_b01_0, mx_b01_1, b2_01, b2_0, b2_1, se_inl, se_inr, if_true, if_false, e10, e01, e00, e11, em1, em1lt, Nat.not_lt_zero]
  · have hr : rCrown N k n = 0 := by unfold rCrown; rw [if_neg e]
    rw [hr]
    have eF : FX4_crownAt a (i3 k) n c = some (0, (mx_up c.1 (a + 10) k n, c.2)) := by
      unfold FX4_crownAt
      simp (disch := omega) only [C_hasSet_y s h2 hk, ep, e, ob_some, mx_letI, mx_chkT, mx_inb_i3, mx_inb_lit, lit_toNat, i3_toNat, i3_le, i3_lt, i3_leL, i3_Lle, i3_ltL, i3_Llt, i3_neg, i3_eq, i3_eqL, i3_ne1, i3_add, i3_addL, i3_Ladd, i3_mul, i3_mulL, i3_Lmul, mx_b01_0, mx_b01_1, b2_01, b2_0, b2_1, se_inl, se_inr, if_true, if_false, e10, e01, e00, e11, em1, em1lt, Nat.not_lt_zero]
    have off : ∀ j, j ≠ 184 + k → ud N (184 + k) n j = N j := fun j hj => ud_ne _ _ hj
    have cl : ∀ b, b ≠ a + 10 → (mx_up c.1 (a + 10) k n) b = c.1 b := fun b hb => up_off _ hb _ _
    have hk125 : nK (ud N (184 + k) n) = nK N := by unfold nK; rw [off 125 (by omega)]
    refine ⟨_, eF, ?_, fun q => absurd rfl q⟩
    rw [if_pos rfl]
    refine Nt_mk h (SI_mk g s (fun k hk => off k (by omega)) ?_ ?_ ?_ ?_ ?_) (fun k hk => off k (by omega)) (congrFun (cl a (by omega)) 0) (congrFun (cl a (by omega)) 1) (cl _ (by omega)) (cl _ (by omega)) (cl _ (by omega)) (cl _ (by omega)) ?_ ?_ ?_ ?_
    · rw [hk125, off 125 (by omega)]; exact s.1
    · intro l hl; rw [off _ (by omega)]; exact s.2.1 l hl
    · intro r hr2
      rw [off _ (by omega)]
      rcases prt s hr2 with q | ⟨q, q1, q2, q3, q4⟩
      · exact Or.inl q
      · exact Or.inr ⟨q, q1, q2, by rw [off _ (by omega)]; exact q3, q4⟩
    · intro r hr2
      rw [off _ (by omega)]; exact s.2.2.2.1 r hr2
    · intro j hj; rw [hk125] at hj
      refine ⟨?_, by rw [off _ (by omega)]; exact (s.2.2.2.2 j hj).2⟩
      by_cases e2 : j = k
      · subst e2; rw [ud_self]; exact hn
      · rw [off _ (by omega)]; exact (s.2.2.2.2 j hj).1
    · intro l hl; rw [off _ (by omega)]; exact (congrFun (cl (a + 7) (by omega)) l).trans (h1.2.2.1 l hl).2.2
    · rw [off _ (by omega), off _ (by omega), off _ (by omega)]; exact ⟨(congrFun (cl a (by omega)) 2).trans h2.1.1, (congrFun (cl a (by omega)) 3).trans h2.1.2.1, (congrFun (cl a (by omega)) 4).trans h2.1.2.2⟩
    · intro r hr2
      rw [off _ (by omega), off _ (by omega)]
      exact ⟨(congrFun (cl (a + 3) (by omega)) r).trans (h2.2.1 r hr2).1, (congrFun (cl (a + 4) (by omega)) r).trans (h2.2.1 r hr2).2⟩
    · intro j hj
      rw [hk125] at hj
      refine ⟨by rw [off _ (by omega)]; exact (congrFun (cl (a + 9) (by omega)) j).trans (h2.2.2 j hj).1, ?_⟩
      show mx_up c.1 (a + 10) k n (a + 10) j = _
      rw [up_at]
      unfold ud
      by_cases e2 : j = k
      · simp [e2]
      · simp [e2]; exact (h2.2.2 j hj).2
theorem M_refusal_crown (s : SI N) (h : d.1 224 = N) {k : Nat} (hk : k < nK N) (y n : Int32) : FX12_refusal 222 4 (i3 k) y n d = some (rCrown N k n, d) := by
  have hn := s.1.2
  unfold FX12_refusal rCrown
  rw [if_neg (by decide), if_neg (by decide), if_neg (by decide), if_neg (by decide), if_pos rfl]
  simp (disch := omega) only [h, Nat.reduceAdd, ob_some, mx_letI, mx_chkT, mx_inb_i3, mx_inb_lit, lit_toNat, i3_toNat, i3_le, i3_lt, i3_leL, i3_Lle, i3_ltL, i3_Llt, i3_neg, i3_eq, i3_eqL, i3_ne1, i3_add, i3_addL, i3_Ladd, i3_mul, i3_mulL, i3_Lmul, mx_b01_0, mx_b01_1, b2_01, b2_0, b2_1, se_inl, se_inr, if_true, if_false, e10, e01, e00, e11, em1, em1lt, Nat.not_lt_zero]
  split <;> rfl
theorem M_live_crown (s : SI N) (h : d.1 224 = N) {k : Nat} (hk : k < nK N) (y n : Int32) : FX12_live 222 4 (i3 k) y n d = some (sr d (ud N (184 + k) n)) := by
  have hn := s.1.2
  unfold FX12_live
  rw [if_neg (by decide), if_neg (by decide), if_neg (by decide), if_neg (by decide), if_pos rfl]
  simp (disch := omega) only [up_row', sr_row, sr_sr, h, ob_some, mx_letI, mx_chkT, mx_inb_i3, mx_inb_lit, lit_toNat, i3_toNat, i3_le, i3_lt, i3_leL, i3_Lle, i3_ltL, i3_Llt, i3_neg, i3_eq, i3_eqL, i3_ne1, i3_add, i3_addL, i3_Ladd, i3_mul, i3_mulL, i3_Lmul, mx_b01_0, mx_b01_1, b2_01, b2_0, b2_1, se_inl, se_inr, if_true, if_false, e10, e01, e00, e11, em1, em1lt, Nat.not_lt_zero]
/-! weigh -/
def rWeigh (N : Rw) (p q : Nat) (n : Int32) : Int32 := match li N p q with
  | none => 1
  | some l => if N (128 + l) = n then 2 else 0
def nWeigh (N : Rw) (p q : Nat) (n : Int32) : Rw := match li N p q with
  | none => N
  | some l => ud N (128 + l) n
theorem C_weighAnew (h : Nt c a N) {p q : Nat} (hp : p < nP N) (hq : q < nP N) {n : Int32} (hn : ∃ w, n = i3 w ∧ 1 ≤ w ∧ w ≤ 99) : ∃ c', FX4_weighAnew a (i3 p) (i3 q) n c = some (rWeigh N p q n, c') ∧ Nt c' a (if rWeigh N p q n = 0 then nWeigh N p q n else N) ∧ (rWeigh N p q n ≠ 0 → c' = c) := by
  have h' := h
  obtain ⟨g, s, h1, h2⟩ := h'
  have h10 := g.1.2
  have hL := g.2.1.2
  have hK := s.1.2
  have el := C_linkOf_y g h1 hp hq
  unfold rWeigh nWeigh
  cases e0 : li N p q with
  | none =>
    dsimp only
    refine ⟨c, ?_, h, fun _ => rfl⟩
    unfold FX4_weighAnew
    rw [el, e0]
    simp only [oi, ob_some, C_hasLink_m1 g h1, if_true]
  | some l =>
    have hl := (li_some e0).1
    have ep : c.1 (a + 7) l = N (128 + l) := (h1.2.2.1 l hl).2.2
    dsimp only
    by_cases e : N (128 + l) = n
    · simp only [if_pos e]
      refine ⟨c, ?_, h, fun _ => rfl⟩
      unfold FX4_weighAnew
      rw [el, e0]
      simp (disch := omega) only [oi, C_hasLink_y g h1 hl, ep, e, ob_some, mx_letI, mx_chkT, mx_inb_i3, mx_inb_lit, lit_toNat, i3_toNat, i3_le, i3_lt, i3_leL, i3_Lle, i3_ltL, i3_Llt, i3_neg, i3_eq, i3_eqL, i3_ne1, i3_add, i3_addL, i3_Ladd, i3_mul, i3_mulL, i3_Lmul, mx_b01_0, mx_b01_1, b2_01, b2_0, b2_1, se_inl, se_inr, if_true, if_false, e10, e01, e00, e11, em1, em1lt, Nat.not_lt_zero]
    · simp only [if_neg e]
      have eF : FX4_weighAnew a (i3 p) (i3 q) n c = some (0, (mx_up c.1 (a + 7) l n, c.2)) := by
        unfold FX4_weighAnew
        rw [el, e0]
        simp (disch := omega) only [oi, C_hasLink_y g h1 hl, ep, e, ob_some, mx_letI, mx_chkT, mx_inb_i3, mx_inb_lit, lit_toNat, i3_toNat, i3_le, i3_lt, i3_leL, i3_Lle, i3_ltL, i3_Llt, i3_neg, i3_eq, i3_eqL, i3_ne1, i3_add, i3_addL, i3_Ladd, i3_mul, i3_mulL, i3_Lmul, mx_b01_0, mx_b01_1, b2_01, b2_0, b2_1, se_inl, se_inr, if_true, if_false, e10, e01, e00, e11, em1, em1lt, Nat.not_lt_zero]
      have off : ∀ j, j ≠ 128 + l → ud N (128 + l) n j = N j := fun j hj => ud_ne _ _ hj
      have cl : ∀ b, b ≠ a + 7 → (mx_up c.1 (a + 7) l n) b = c.1 b := fun b hb => up_off _ hb _ _
      have hk125 : nK (ud N (128 + l) n) = nK N := by unfold nK; rw [off 125 (by omega)]
      refine ⟨_, eF, ?_, fun q => absurd rfl q⟩
      show Nt _ a (ud N (128 + l) n)
      refine Nt_mk h (SI_mk g s (fun k hk => off k (by omega)) ?_ ?_ ?_ ?_ ?_) (fun k hk => off k (by omega)) (congrFun (cl a (by omega)) 0) (congrFun (cl a (by omega)) 1) (cl _ (by omega)) (cl _ (by omega)) (cl _ (by omega)) (cl _ (by omega)) ?_ ?_ ?_ ?_
      · rw [hk125, off 125 (by omega)]; exact s.1
      · intro j hj
        by_cases e2 : j = l
        · subst e2; rw [ud_self]; exact hn
        · rw [off _ (by omega)]; exact s.2.1 j hj
      · intro r hr2
        rw [off _ (by omega)]
        rcases prt s hr2 with q | ⟨q, q1, q2, q3, q4⟩
        · exact Or.inl q
        · exact Or.inr ⟨q, q1, q2, by rw [off _ (by omega)]; exact q3, q4⟩
      · intro r hr2
        rw [off _ (by omega)]; exact s.2.2.2.1 r hr2
      · intro j hj; rw [hk125] at hj; rw [off _ (by omega), off _ (by omega)]; exact s.2.2.2.2 j hj
      · intro j hj
        show mx_up c.1 (a + 7) l n (a + 7) j = _
        rw [up_at]
        unfold ud
        by_cases e2 : j = l
        · simp [e2]
        · simp [e2]; exact (h1.2.2.1 j hj).2.2
      · rw [off _ (by omega), off _ (by omega), off _ (by omega)]; exact ⟨(congrFun (cl a (by omega)) 2).trans h2.1.1, (congrFun (cl a (by omega)) 3).trans h2.1.2.1, (congrFun (cl a (by omega)) 4).trans h2.1.2.2⟩
      · intro r hr2
        rw [off _ (by omega), off _ (by omega)]
        exact ⟨(congrFun (cl (a + 3) (by omega)) r).trans (h2.2.1 r hr2).1, (congrFun (cl (a + 4) (by omega)) r).trans (h2.2.1 r hr2).2⟩
      · intro j hj
        rw [hk125] at hj
        rw [off _ (by omega), off _ (by omega)]
        exact ⟨(congrFun (cl (a + 9) (by omega)) j).trans (h2.2.2 j hj).1, (congrFun (cl (a + 10) (by omega)) j).trans (h2.2.2 j hj).2⟩
theorem M_refusal_weigh (g : GI N) (h : d.1 224 = N) {p q : Nat} (hp : p < nP N) (hq : q < nP N) (n : Int32) : FX12_refusal 222 2 (i3 p) (i3 q) n d = some (rWeigh N p q n, d) := by
  have hn := g.1.2
  have hL := g.2.1.2
  unfold FX12_refusal rWeigh
  rw [if_neg (by decide), if_neg (by decide), if_pos rfl]
  simp (disch := omega) only [M_areLinked g h, M_between g h, ob_some, lk]
  cases e0 : li N p q with
  | none => rfl
  | some l =>
    have hl := (li_some e0).1
    simp (disch := omega) only [oi, h, Nat.reduceAdd, Option.isSome, b2, ob_some, mx_letI, mx_chkT, mx_inb_i3, mx_inb_lit, lit_toNat, i3_toNat, i3_le, i3_lt, i3_leL, i3_Lle, i3_ltL, i3_Llt, i3_neg, i3_eq, i3_eqL, i3_ne1, i3_add, i3_addL, i3_Ladd, i3_mul, i3_mulL, i3_Lmul, mx_b01_0, mx_b01_1, b2_01, b2_0, b2_1, se_inl, se_inr, if_true, if_false, e10, e01, e00, e11, em1, em1lt, Nat.not_lt_zero]
    split <;> rfl
theorem M_live_weigh (g : GI N) (h : d.1 224 = N) {p q : Nat} (hp : p < nP N) (hq : q < nP N) (n : Int32) (hr : rWeigh N p q n = 0) : FX12_live 222 2 (i3 p) (i3 q) n d = some (sr d (nWeigh N p q n)) := by
  have hn := g.1.2
  have hL := g.2.1.2
  unfold FX12_live nWeigh
  unfold rWeigh at hr
  rw [if_neg (by decide), if_neg (by decide), if_pos rfl]
  simp (disch := omega) only [M_between g h, ob_some]
  cases e0 : li N p q with
  | none => rw [e0] at hr; exact absurd (show (1 : Int32) = 0 from hr) (by decide)
  | some l =>
    have hl := (li_some e0).1
    simp (disch := omega) only [oi, up_row', sr_row, sr_sr, h, Nat.reduceAdd, ob_some, mx_letI, mx_chkT, mx_inb_i3, mx_inb_lit, lit_toNat, i3_toNat, i3_le, i3_lt, i3_leL, i3_Lle, i3_ltL, i3_Llt, i3_neg, i3_eq, i3_eqL, i3_ne1, i3_add, i3_addL, i3_Ladd, i3_mul, i3_mulL, i3_Lmul, mx_b01_0, mx_b01_1, b2_01, b2_0, b2_1, se_inl, se_inr, if_true, if_false, e10, e01, e00, e11, em1, em1lt, Nat.not_lt_zero]
end DEEDB
