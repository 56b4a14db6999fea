/-! ===== a network is built ===== -/
section BUILD
variable {c c' d : mB} {a : Nat} {N : Rw}
def aP (N : Rw) : Rw := ud N 0 (i3 (nP N + 1))
def aL (N : Rw) (p q w : Nat) : Rw := ud (ud (ud (ud N (3 + nL N) (i3 p)) (33 + nL N) (i3 q)) (128 + nL N) (i3 w)) 1 (i3 (nL N + 1))
def aS (N : Rw) (x : Int32) (w : Nat) : Rw := ud (ud (ud N (178 + nK N) x) (184 + nK N) (i3 w)) 125 (i3 (nK N + 1))
theorem ul_at (m : mJ) (b k : Nat) (x : Int64) (j : Nat) : mx_ul m b k x b j = if j = k then x else m b j := by simp [mx_ul]
theorem ul_off (m : mJ) {b b' : Nat} (h : b' ≠ b) (k : Nat) (x : Int64) : mx_ul m b k x b' = m b' := by funext j; simp [mx_ul, h]
theorem C_addPoint (h : Nt c a N) (hk : nP N < 10) (hp1 : N (158 + nP N) = -1) (hp2 : N (168 + nP N) = 0) (hz : ∀ p q, p < 10 → q < 10 → (nP N ≤ p ∨ nP N ≤ q) → c.1 (a + 8) (p * 10 + q) = 0) (W : Int64) :
    ∃ c', FX4_addPoint a W c = some c' ∧ Nt c' a (aP N) ∧ (∀ j, c'.2 (a + 1) j = if j = nP N then W else c.2 (a + 1) j) ∧ c'.1 (a + 8) = c.1 (a + 8) := by
  obtain ⟨g, s, h1, h2⟩ := h
  have hL := g.2.1.2
  have hK := s.1.2
  have e0 : c.1 a 0 = i3 (nP N) := by rw [h1.1.1, g.1.1]
  refine ⟨(mx_up (mx_up (mx_up (mx_up c.1 (a + 2) (nP N) 0) (a + 3) (nP N) (-1)) (a + 4) (nP N) 0) a 0 (i3 (nP N + 1)), mx_ul c.2 (a + 1) (nP N) W), ?_, ?_, ?_, ?_⟩
  · unfold FX4_addPoint
    have f0 : ∀ (m : mI) (b : Nat) (x : Int32), b ≠ a → mx_up m b (nP N) x a 0 = m a 0 := fun m b x hb => by rw [up_off _ (fun q => hb q.symm)]
    simp (disch := omega) only [e0, f0, ob_some, mx_letI, mx_chkT, mx_inb_i3, mx_inb_lit, lit_toNat, i3_toNat, i3_le, i3_lt, i3_leL, i3_Lle, i3_ltL, i3_Llt, i3_neg, i3_eq, i3_eqL, i3_ne1, i3_add, i3_addL, i3_Ladd, i3_mul, i3_mulL, i3_Lmul, mx_b01_0, mx_b01_1, b2_01, b2_0, b2_1, se_inl, se_inr, if_true, if_false, e10, e01, e00, e11, em1, em1lt, Nat.not_lt_zero, if_pos, if_neg]
  · have off : ∀ x, x ≠ 0 → aP N x = N x := fun x hx => ud_ne _ _ hx
    have at0 : aP N 0 = i3 (nP N + 1) := ud_self _ _ _
    have eP : nP (aP N) = nP N + 1 := by
      show (aP N 0).toNatClampNeg = _
      rw [at0, i3_toNat (by omega)]
    have eL : nL (aP N) = nL N := by unfold nL; rw [off 1 (by omega)]
    have eK : nK (aP N) = nK N := by unfold nK; rw [off 125 (by omega)]
    have eA : ∀ l, nA (aP N) l = nA N l := fun l => by unfold nA; rw [off _ (by omega)]
    have eB : ∀ l, nB (aP N) l = nB N l := fun l => by unfold nB; rw [off _ (by omega)]
    have elm : ∀ p q l, lm (aP N) p q l = lm N p q l := fun p q l => by unfold lm; rw [eA, eB]
    have eli : ∀ p q, li (aP N) p q = li N p q := fun p q => by
      unfold li
      rw [eL]
      exact ff_congr (fun l _ => elm p q l)
    have elk : ∀ p q, lk (aP N) p q = lk N p q := fun p q => by unfold lk; rw [eli]
    have elc : ∀ p q, lc (aP N) p q = lc N p q := fun p q => by unfold lc; rw [eli]
    refine ⟨⟨⟨by rw [at0, eP], by rw [eP]; omega⟩, ⟨by rw [eL, off 1 (by omega)]; exact g.2.1.1, by rw [eL]; exact hL⟩, fun l hl => ?_, fun l l' hl hl' => ?_⟩, ⟨⟨by rw [eK, off 125 (by omega)]; exact s.1.1, by rw [eK]; exact hK⟩, fun l hl => ?_, fun p hp => ?_, fun p hp => ?_, fun k hk2 => ?_⟩, ⟨⟨?_, ?_⟩, fun p hp q => ?_, fun l hl => ?_, fun p q hp hq => ?_⟩, ⟨⟨?_, ?_, ?_⟩, fun p hp => ?_, fun k hk2 => ?_⟩⟩
    · rw [eL] at hl
      rw [off _ (by omega), off _ (by omega), eA, eB, eP]
      have := g.2.2.1 l hl
      exact ⟨this.1, this.2.1, by omega, by omega, this.2.2.2.2⟩
    · rw [eL] at hl hl'
      rw [eA, eB, elm]
      exact g.2.2.2 l l' hl hl'
    · rw [eL] at hl
      rw [off _ (by omega)]; exact s.2.1 l hl
    · rw [eP] at hp ⊢
      rw [off _ (by omega)]
      by_cases q : p = nP N
      · rw [q]; exact Or.inl hp1
      · rcases prt s (p := p) (by omega) with w | ⟨r, q1, q2, q3, q4⟩
        · exact Or.inl w
        · exact Or.inr ⟨r, by omega, q2, by rw [off _ (by omega)]; exact q3, by rw [elk]; exact q4⟩
    · rw [eP] at hp
      rw [off _ (by omega)]
      by_cases q : p = nP N
      · rw [q, hp2]; exact ⟨0, rfl, by omega⟩
      · exact s.2.2.2.1 p (by omega)
    · rw [eK] at hk2
      rw [off _ (by omega), off _ (by omega), eP]
      obtain ⟨u1, t, u2, u3, u4⟩ := s.2.2.2.2 k hk2
      exact ⟨u1, t, u2, Nat.lt_of_lt_of_le u3 (Nat.pow_le_pow_right (by omega) (by omega)), u4⟩
    · rw [at0]; exact mx_up_self _ a 0 _
    · show mx_up (mx_up (mx_up (mx_up c.1 (a + 2) (nP N) 0) (a + 3) (nP N) (-1)) (a + 4) (nP N) 0) a 0 (i3 (nP N + 1)) a 1 = _
      rw [up_at, if_neg (by omega), up_off _ (by omega), up_off _ (by omega), up_off _ (by omega), off 1 (by omega)]
      exact h1.1.2
    · rw [eP] at hp
      show bt (mx_up (mx_up (mx_up (mx_up c.1 (a + 2) (nP N) 0) (a + 3) (nP N) (-1)) (a + 4) (nP N) 0) a 0 (i3 (nP N + 1)) (a + 2) p) q = _
      rw [up_off _ (by omega), up_off _ (by omega), up_off _ (by omega), up_at, elk]
      by_cases w : p = nP N
      · rw [if_pos w, bt_zero]
        cases hb : lk N p q with
        | false => rfl
        | true => have := (lk_lt g hb).1; omega
      · rw [if_neg w]; exact h1.2.1 p (by omega) q
    · rw [eL] at hl
      rw [off _ (by omega), off _ (by omega), off _ (by omega)]
      show mx_up (mx_up (mx_up (mx_up c.1 (a + 2) (nP N) 0) (a + 3) (nP N) (-1)) (a + 4) (nP N) 0) a 0 (i3 (nP N + 1)) (a + 5) l = _ ∧ mx_up (mx_up (mx_up (mx_up c.1 (a + 2) (nP N) 0) (a + 3) (nP N) (-1)) (a + 4) (nP N) 0) a 0 (i3 (nP N + 1)) (a + 6) l = _ ∧ mx_up (mx_up (mx_up (mx_up c.1 (a + 2) (nP N) 0) (a + 3) (nP N) (-1)) (a + 4) (nP N) 0) a 0 (i3 (nP N + 1)) (a + 7) l = _
      simp (disch := omega) only [up_off]
      exact h1.2.2.1 l hl
    · rw [eP] at hp hq
      show mx_up (mx_up (mx_up (mx_up c.1 (a + 2) (nP N) 0) (a + 3) (nP N) (-1)) (a + 4) (nP N) 0) a 0 (i3 (nP N + 1)) (a + 8) (p * 10 + q) = _
      simp (disch := omega) only [up_off]
      rw [elc]
      by_cases w : p < nP N ∧ q < nP N
      · exact h1.2.2.2 p q w.1 w.2
      · rw [hz p q (by omega) (by omega) (by omega)]
        unfold lc
        rw [li_n g (by omega)]
        rfl
    · show mx_up (mx_up (mx_up (mx_up c.1 (a + 2) (nP N) 0) (a + 3) (nP N) (-1)) (a + 4) (nP N) 0) a 0 (i3 (nP N + 1)) a 2 = _
      rw [up_at, if_neg (by omega), up_off _ (by omega), up_off _ (by omega), up_off _ (by omega), off _ (by omega)]
      exact h2.1.1
    · show mx_up (mx_up (mx_up (mx_up c.1 (a + 2) (nP N) 0) (a + 3) (nP N) (-1)) (a + 4) (nP N) 0) a 0 (i3 (nP N + 1)) a 3 = _
      rw [up_at, if_neg (by omega), up_off _ (by omega), up_off _ (by omega), up_off _ (by omega), off _ (by omega)]
      exact h2.1.2.1
    · show mx_up (mx_up (mx_up (mx_up c.1 (a + 2) (nP N) 0) (a + 3) (nP N) (-1)) (a + 4) (nP N) 0) a 0 (i3 (nP N + 1)) a 4 = _
      rw [up_at, if_neg (by omega), up_off _ (by omega), up_off _ (by omega), up_off _ (by omega), off _ (by omega)]
      exact h2.1.2.2
    · rw [eP] at hp
      rw [off _ (by omega), off _ (by omega)]
      show mx_up (mx_up (mx_up (mx_up c.1 (a + 2) (nP N) 0) (a + 3) (nP N) (-1)) (a + 4) (nP N) 0) a 0 (i3 (nP N + 1)) (a + 3) p = _ ∧ mx_up (mx_up (mx_up (mx_up c.1 (a + 2) (nP N) 0) (a + 3) (nP N) (-1)) (a + 4) (nP N) 0) a 0 (i3 (nP N + 1)) (a + 4) p = _
      rw [up_off _ (by omega), up_off _ (by omega), up_at, up_off _ (by omega), up_off _ (by omega), up_at, up_off _ (by omega), up_off _ (by omega)]
      by_cases w : p = nP N
      · rw [if_pos w, if_pos w, w]; exact ⟨hp1.symm, hp2.symm⟩
      · rw [if_neg w, if_neg w]; exact h2.2.1 p (by omega)
    · rw [eK] at hk2
      rw [off _ (by omega), off _ (by omega)]
      show mx_up (mx_up (mx_up (mx_up c.1 (a + 2) (nP N) 0) (a + 3) (nP N) (-1)) (a + 4) (nP N) 0) a 0 (i3 (nP N + 1)) (a + 9) k = _ ∧ mx_up (mx_up (mx_up (mx_up c.1 (a + 2) (nP N) 0) (a + 3) (nP N) (-1)) (a + 4) (nP N) 0) a 0 (i3 (nP N + 1)) (a + 10) k = _
      simp (disch := omega) only [up_off]
      exact h2.2.2 k hk2
  · intro j
    exact ul_at _ _ _ _ _
  · show mx_up (mx_up (mx_up (mx_up c.1 (a + 2) (nP N) 0) (a + 3) (nP N) (-1)) (a + 4) (nP N) 0) a 0 (i3 (nP N + 1)) (a + 8) = _
    simp (disch := omega) only [up_off]
theorem ff_succ (P : Nat → Bool) (n : Nat) : ff P (n + 1) = match ff P n with
    | some i => some i
    | none => if P n = true then some n else none := by
  cases e : ff P n with
  | some i =>
    obtain ⟨h1, h2, h3⟩ := ff_some.mp e
    exact ff_some.mpr ⟨by omega, h2, h3⟩
  | none =>
    have h := ff_none.mp e
    dsimp only
    cases hb : P n with
    | true => rw [if_pos rfl]; exact ff_some.mpr ⟨by omega, hb, h⟩
    | false =>
      rw [if_neg (by decide)]
      refine ff_none.mpr (fun i hi => ?_)
      by_cases q : i = n
      · rw [q]; exact hb
      · exact h i (by omega)
theorem C_addSetB (h : Nt c a N) (hk : nK N < 6) {x : Nat} (hx : x < 2 ^ nP N) (ho : pc x % 2 = 1) {w : Nat} (hw4 : w ≤ 400) : ∃ c', FX4_addSet a (i3 x) (i3 w) c = some c' ∧ Nt c' a (aS N (i3 x) w) ∧ c'.2 = c.2 ∧ c'.1 (a + 8) = c.1 (a + 8) := by
  have h' := h
  obtain ⟨g, s, h1, h2⟩ := h
  have hn := g.1.2
  have hL := g.2.1.2
  have e2 : c.1 a 2 = i3 (nK N) := by rw [h2.1.1, s.1.1]
  have off : ∀ j, j ≠ 178 + nK N → j ≠ 184 + nK N → j ≠ 125 → aS N (i3 x) w j = N j := fun j q1 q2 q3 => by unfold aS; rw [ud_ne _ _ q3, ud_ne _ _ q2, ud_ne _ _ q1]
  have e125 : aS N (i3 x) w 125 = i3 (nK N + 1) := by unfold aS; rw [ud_self]
  have eK : nK (aS N (i3 x) w) = nK N + 1 := by
    show (aS N (i3 x) w 125).toNatClampNeg = _
    rw [e125, i3_toNat (by omega)]
  have e184 : aS N (i3 x) w (184 + nK N) = i3 w := by unfold aS; rw [ud_ne _ _ (by omega), ud_self]
  have e178 : aS N (i3 x) w (178 + nK N) = i3 x := by unfold aS; rw [ud_ne _ _ (by omega), ud_ne _ _ (by omega), ud_self]
  have f2 : ∀ (m : mI) (b j : Nat) (x : Int32), b ≠ a → mx_up m b j x a 2 = m a 2 := fun m b j x hb => by rw [up_off _ (fun q => hb q.symm)]
  have cl : ∀ b, b ≠ a → b ≠ a + 9 → b ≠ a + 10 → mx_up (mx_up (mx_up c.1 (a + 9) (nK N) (i3 x)) (a + 10) (nK N) (i3 w)) a 2 (i3 (nK N + 1)) b = c.1 b := fun b q1 q2 q3 => by rw [up_off _ q1, up_off _ q3, up_off _ q2]
  have fa : ∀ j, j ≠ 2 → mx_up (mx_up (mx_up c.1 (a + 9) (nK N) (i3 x)) (a + 10) (nK N) (i3 w)) a 2 (i3 (nK N + 1)) a j = c.1 a j := fun j q => by rw [up_at, if_neg q, up_off _ (by omega), up_off _ (by omega)]
  refine ⟨(mx_up (mx_up (mx_up c.1 (a + 9) (nK N) (i3 x)) (a + 10) (nK N) (i3 w)) a 2 (i3 (nK N + 1)), c.2), ?_, ?_, rfl, cl _ (by omega) (by omega) (by omega)⟩
  · unfold FX4_addSet
    simp (disch := omega) only [e2, f2, ob_some, mx_letI, mx_chkT, mx_inb_i3, mx_inb_lit, lit_toNat, i3_toNat, i3_le, i3_lt, i3_leL, i3_Lle, i3_ltL, i3_Llt, i3_neg, i3_eq, i3_eqL, i3_ne1, i3_add, i3_addL, i3_Ladd, i3_mul, i3_mulL, i3_Lmul, mx_b01_0, mx_b01_1, b2_01, b2_0, b2_1, se_inl, se_inr, if_true, if_false, e10, e01, e00, e11, em1, em1lt, Nat.not_lt_zero, if_pos, if_neg]
  · refine Nt_mk h' (SI_mk g s (fun j hj => off j (by omega) (by omega) (by omega)) ⟨by rw [eK, e125], by rw [eK]; omega⟩ ?_ ?_ ?_ ?_) (fun j hj => off j (by omega) (by omega) (by omega)) (fa 0 (by omega)) (fa 1 (by omega)) (cl _ (by omega) (by omega) (by omega)) (cl _ (by omega) (by omega) (by omega)) (cl _ (by omega) (by omega) (by omega)) (cl _ (by omega) (by omega) (by omega)) ?_ ?_ ?_ ?_
    · intro l hl; rw [off _ (by omega) (by omega) (by omega)]; exact s.2.1 l hl
    · intro p hp
      rw [off _ (by omega) (by omega) (by omega)]
      rcases prt s hp with q | ⟨q, q1, q2, q3, q4⟩
      · exact Or.inl q
      · exact Or.inr ⟨q, q1, q2, by rw [off _ (by omega) (by omega) (by omega)]; exact q3, q4⟩
    · intro p hp; rw [off _ (by omega) (by omega) (by omega)]; exact s.2.2.2.1 p hp
    · intro j hj
      rw [eK] at hj
      by_cases q : j = nK N
      · rw [q, e184, e178]
        exact ⟨⟨w, rfl, hw4⟩, x, rfl, hx, ho⟩
      · rw [off _ (by omega) (by omega) (by omega), off _ (by omega) (by omega) (by omega)]
        exact s.2.2.2.2 j (by omega)
    · intro l hl; rw [off _ (by omega) (by omega) (by omega)]; exact (congrFun (cl (a + 7) (by omega) (by omega) (by omega)) l).trans (h1.2.2.1 l hl).2.2
    · rw [e125, off 126 (by omega) (by omega) (by omega), off 127 (by omega) (by omega) (by omega)]
      exact ⟨mx_up_self _ a 2 _, (fa 3 (by omega)).trans h2.1.2.1, (fa 4 (by omega)).trans h2.1.2.2⟩
    · intro p hp
      rw [off _ (by omega) (by omega) (by omega), off _ (by omega) (by omega) (by omega)]
      exact ⟨(congrFun (cl (a + 3) (by omega) (by omega) (by omega)) p).trans (h2.2.1 p hp).1, (congrFun (cl (a + 4) (by omega) (by omega) (by omega)) p).trans (h2.2.1 p hp).2⟩
    · intro k hk2
      rw [eK] at hk2
      show mx_up (mx_up (mx_up c.1 (a + 9) (nK N) (i3 x)) (a + 10) (nK N) (i3 w)) a 2 (i3 (nK N + 1)) (a + 9) k = _ ∧ mx_up (mx_up (mx_up c.1 (a + 9) (nK N) (i3 x)) (a + 10) (nK N) (i3 w)) a 2 (i3 (nK N + 1)) (a + 10) k = _
      rw [up_off _ (by omega), up_off _ (by omega), up_at, up_off _ (by omega), up_at, up_off _ (by omega)]
      by_cases q : k = nK N
      · rw [if_pos q, if_pos q, q, e178, e184]; exact ⟨rfl, rfl⟩
      · rw [if_neg q, if_neg q, off _ (by omega) (by omega) (by omega), off _ (by omega) (by omega) (by omega)]
        exact h2.2.2 k (by omega)
end BUILD
