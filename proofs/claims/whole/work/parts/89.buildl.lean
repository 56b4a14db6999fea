/-! ===== a link is added ===== -/
section BUILDL
variable {c c' d : mB} {a : Nat} {N : Rw}
theorem aL_at {x y w : Nat} (j : Nat) (h1 : j ≠ 3 + nL N) (h2 : j ≠ 33 + nL N) (h3 : j ≠ 128 + nL N) (h4 : j ≠ 1) : aL N x y w j = N j := by
  unfold aL
  rw [ud_ne _ _ h4, ud_ne _ _ h3, ud_ne _ _ h2, ud_ne _ _ h1]
theorem aL_li (g : GI N) (hl : nL N < 30) {x y w : Nat} (hx : x < nP N) (hy : y < nP N) (hno : lk N x y = false) (u v : Nat) : li (aL N x y w) u v = if (u = x ∧ v = y) ∨ (u = y ∧ v = x) then some (nL N) else li N u v := by
  have e1 : aL N x y w 1 = i3 (nL N + 1) := by unfold aL; rw [ud_self]
  have eL : nL (aL N x y w) = nL N + 1 := by
    show (aL N x y w 1).toNatClampNeg = _
    rw [e1, i3_toNat (by omega)]
  have eA : ∀ l, l < nL N → nA (aL N x y w) l = nA N l := fun l h => by unfold nA; rw [aL_at _ (by omega) (by omega) (by omega) (by omega)]
  have eB : ∀ l, l < nL N → nB (aL N x y w) l = nB N l := fun l h => by unfold nB; rw [aL_at _ (by omega) (by omega) (by omega) (by omega)]
  have hn := g.1.2
  have a3 : aL N x y w (3 + nL N) = i3 x := by unfold aL; rw [ud_ne _ _ (by omega), ud_ne _ _ (by omega), ud_ne _ _ (by omega), ud_self]
  have a33 : aL N x y w (33 + nL N) = i3 y := by unfold aL; rw [ud_ne _ _ (by omega), ud_ne _ _ (by omega), ud_self]
  have eAn : nA (aL N x y w) (nL N) = x := by unfold nA; rw [a3, i3_toNat (by omega)]
  have eBn : nB (aL N x y w) (nL N) = y := by unfold nB; rw [a33, i3_toNat (by omega)]
  have elm : ∀ l, l < nL N → lm (aL N x y w) u v l = lm N u v l := fun l h => by unfold lm; rw [eA l h, eB l h]
  unfold li
  rw [eL, ff_succ, ff_congr elm]
  have hln : (lm (aL N x y w) u v (nL N) = true) ↔ ((u = x ∧ v = y) ∨ (u = y ∧ v = x)) := by
    rw [lm_iff, eAn, eBn]
    omega
  by_cases q : (u = x ∧ v = y) ∨ (u = y ∧ v = x)
  · rw [if_pos q]
    have hn1 : li N u v = none := by
      have : lk N u v = false := by
        rcases q with ⟨rfl, rfl⟩ | ⟨rfl, rfl⟩
        · exact hno
        · rw [lk_comm]; exact hno
      unfold lk at this
      cases e : li N u v with
      | none => rfl
      | some l => rw [e] at this; cases this
    have hn2 : ff (lm N u v) (nL N) = none := hn1
    rw [hn2]
    dsimp only
    rw [if_pos (hln.mpr q)]
  · rw [if_neg q]
    cases e : ff (lm N u v) (nL N) with
    | some i => rfl
    | none =>
      dsimp only
      rw [if_neg (fun w => q (hln.mp w))]
theorem C_addLink (h : Nt c a N) (hl : nL N < 30) {x y w : Nat} (hx : x < nP N) (hy : y < nP N) (hne : x ≠ y) (hno : lk N x y = false) (hw1 : 1 ≤ w) (hw9 : w ≤ 99) :
    ∃ c', FX4_addLink a (i3 x) (i3 y) (i3 w) c = some c' ∧ Nt c' a (aL N x y w) ∧ c'.2 = c.2 ∧ ∀ u v, u < 10 → v < 10 → (nP N ≤ u ∨ nP N ≤ v) → c'.1 (a + 8) (u * 10 + v) = c.1 (a + 8) (u * 10 + v) := by
  obtain ⟨g, s, h1, h2⟩ := h
  have hn := g.1.2
  have hK := s.1.2
  have e1 : c.1 a 1 = i3 (nL N) := by rw [h1.1.2, g.2.1.1]
  have li' := aL_li (w := w) g hl hx hy hno
  have lk' : ∀ u v, lk (aL N x y w) u v = (decide ((u = x ∧ v = y) ∨ (u = y ∧ v = x)) || lk N u v) := fun u v => by
    unfold lk
    rw [li']
    by_cases q : (u = x ∧ v = y) ∨ (u = y ∧ v = x)
    · rw [if_pos q, decide_eq_true q]; rfl
    · rw [if_neg q, decide_eq_false q]; rfl
  have lc' : ∀ u v, lc (aL N x y w) u v = if (u = x ∧ v = y) ∨ (u = y ∧ v = x) then nL N + 1 else lc N u v := fun u v => by
    unfold lc
    rw [li']
    by_cases q : (u = x ∧ v = y) ∨ (u = y ∧ v = x)
    · rw [if_pos q, if_pos q]
    · rw [if_neg q, if_neg q]
  have off : ∀ j, j ≠ 3 + nL N → j ≠ 33 + nL N → j ≠ 128 + nL N → j ≠ 1 → aL N x y w j = N j := fun j q1 q2 q3 q4 => aL_at j q1 q2 q3 q4
  have at1 : aL N x y w 1 = i3 (nL N + 1) := by unfold aL; rw [ud_self]
  have eL : nL (aL N x y w) = nL N + 1 := by
    show (aL N x y w 1).toNatClampNeg = _
    rw [at1, i3_toNat (by omega)]
  have eP : nP (aL N x y w) = nP N := by unfold nP; rw [off 0 (by omega) (by omega) (by omega) (by omega)]
  have eK : nK (aL N x y w) = nK N := by unfold nK; rw [off 125 (by omega) (by omega) (by omega) (by omega)]
  have a3 : aL N x y w (3 + nL N) = i3 x := by unfold aL; rw [ud_ne _ _ (by omega), ud_ne _ _ (by omega), ud_ne _ _ (by omega), ud_self]
  have a33 : aL N x y w (33 + nL N) = i3 y := by unfold aL; rw [ud_ne _ _ (by omega), ud_ne _ _ (by omega), ud_self]
  have a128 : aL N x y w (128 + nL N) = i3 w := by unfold aL; rw [ud_ne _ _ (by omega), ud_self]
  have eA : ∀ l, l < nL N → nA (aL N x y w) l = nA N l := fun l h => by unfold nA; rw [off _ (by omega) (by omega) (by omega) (by omega)]
  have eB : ∀ l, l < nL N → nB (aL N x y w) l = nB N l := fun l h => by unfold nB; rw [off _ (by omega) (by omega) (by omega) (by omega)]
  have eAn : nA (aL N x y w) (nL N) = x := by unfold nA; rw [a3, i3_toNat (by omega)]
  have eBn : nB (aL N x y w) (nL N) = y := by unfold nB; rw [a33, i3_toNat (by omega)]
  have eF : FX4_addLink a (i3 x) (i3 y) (i3 w) c = some (mx_up (mx_up (mx_up (mx_up (mx_up (mx_up (mx_up (mx_up c.1 (a + 5) (nL N) (i3 x)) (a + 6) (nL N) (i3 y)) (a + 7) (nL N) (i3 w)) (a + 2) x (c.1 (a + 2) x ||| pw y)) (a + 2) y (c.1 (a + 2) y ||| pw x)) a 1 (i3 (nL N + 1))) (a + 8) (x * 10 + y) (i3 (nL N + 1))) (a + 8) (y * 10 + x) (i3 (nL N + 1)), c.2) := by
    have f1 : ∀ (m : mI) (b j : Nat) (z : Int32), b ≠ a → mx_up m b j z a 1 = m a 1 := fun m b j z hb => by rw [up_off _ (fun q => hb q.symm)]
    have f2 : ∀ (m : mI) (b j : Nat) (z : Int32) (i : Nat), b ≠ a + 2 → mx_up m b j z (a + 2) i = m (a + 2) i := fun m b j z i hb => by rw [up_off _ (fun q => hb q.symm)]
    have f3 : ∀ (m : mI) (j : Nat) (z : Int32), mx_up m a j z a 1 = if 1 = j then z else m a 1 := fun m j z => up_at _ _ _ _ _
    have f5 : ∀ (m : mI) (z : Int32), mx_up m (a + 2) x z (a + 2) y = m (a + 2) y := fun m z => by rw [up_at, if_neg (fun q => hne q.symm)]
    unfold FX4_addLink
    rw [e1]
    simp (disch := omega) only [C_hasPoint_y g h1 hx, C_hasPoint_y g h1 hy, f1, f5, f2, f3, e1, ob_some, mx_letI, mx_chkT, mx_inb_i3, mx_inb_lit, lit_toNat, i3_toNat, i3_le, i3_lt, i3_leL, i3_Lle, i3_ltL, i3_Llt, i3_neg, i3_eq, i3_eqL, i3_ne1, i3_add, i3_addL, i3_Ladd, i3_mul, i3_mulL, i3_Lmul, mx_b01_0, mx_b01_1, b2_01, b2_0, b2_1, se_inl, se_inr, if_true, if_false, e10, e01, e00, e11, em1, em1lt, Nat.not_lt_zero, if_pos, if_neg]
    rfl
  refine ⟨_, eF, ?_, rfl, ?_⟩
  · have big : ∀ u, (mx_up (mx_up (mx_up (mx_up (mx_up (mx_up (mx_up (mx_up c.1 (a + 5) (nL N) (i3 x)) (a + 6) (nL N) (i3 y)) (a + 7) (nL N) (i3 w)) (a + 2) x (c.1 (a + 2) x ||| pw y)) (a + 2) y (c.1 (a + 2) y ||| pw x)) a 1 (i3 (nL N + 1))) (a + 8) (x * 10 + y) (i3 (nL N + 1))) (a + 8) (y * 10 + x) (i3 (nL N + 1))) (a + 2) u = if u = y then c.1 (a + 2) y ||| pw x else if u = x then c.1 (a + 2) x ||| pw y else c.1 (a + 2) u := fun u => by
      simp (disch := omega) only [up_off, up_at]
    refine ⟨⟨⟨by rw [eP, off 0 (by omega) (by omega) (by omega) (by omega)]; exact g.1.1, by rw [eP]; exact hn⟩, ⟨by rw [at1, eL], by rw [eL]; omega⟩, fun l hl2 => ?_, fun l l' hl2 hl3 => ?_⟩, ⟨⟨by rw [eK, off 125 (by omega) (by omega) (by omega) (by omega)]; exact s.1.1, by rw [eK]; exact hK⟩, fun l hl2 => ?_, fun p hp => ?_, fun p hp => ?_, fun k hk2 => ?_⟩, ⟨⟨?_, ?_⟩, fun p hp q => ?_, fun l hl2 => ?_, fun p q hp hq => ?_⟩, ⟨⟨?_, ?_, ?_⟩, fun p hp => ?_, fun k hk2 => ?_⟩⟩
    · rw [eL] at hl2
      rw [eP]
      by_cases q : l = nL N
      · rw [q, eAn, eBn, a3, a33]; exact ⟨rfl, rfl, hx, hy, hne⟩
      · rw [eA l (by omega), eB l (by omega), off _ (by omega) (by omega) (by omega) (by omega), off _ (by omega) (by omega) (by omega) (by omega)]
        exact g.2.2.1 l (by omega)
    · rw [eL] at hl2 hl3
      intro hm
      rw [lm_iff] at hm
      have noL : ∀ i, i < nL N → ¬ ((nA N i = x ∧ nB N i = y) ∨ (nA N i = y ∧ nB N i = x)) := fun i hi w => by
        have := li_of g hi (p := x) (q := y) (lm_iff.mpr w)
        unfold lk at hno
        rw [this] at hno
        cases hno
      by_cases q1 : l = nL N
      · by_cases q2 : l' = nL N
        · omega
        · rw [q1, eAn, eBn, eA l' (by omega), eB l' (by omega)] at hm
          exact absurd (by omega) (noL l' (by omega))
      · by_cases q2 : l' = nL N
        · rw [q2, eAn, eBn, eA l (by omega), eB l (by omega)] at hm
          exact absurd (by omega) (noL l (by omega))
        · rw [eA l (by omega), eB l (by omega), eA l' (by omega), eB l' (by omega)] at hm
          exact g.2.2.2 l l' (by omega) (by omega) (lm_iff.mpr hm)
    · rw [eL] at hl2
      by_cases q : l = nL N
      · rw [q, a128]; exact ⟨w, rfl, hw1, hw9⟩
      · rw [off _ (by omega) (by omega) (by omega) (by omega)]; exact s.2.1 l (by omega)
    · rw [eP] at hp ⊢
      rw [off _ (by omega) (by omega) (by omega) (by omega)]
      rcases prt s hp with q | ⟨r, q1, q2, q3, q4⟩
      · exact Or.inl q
      · exact Or.inr ⟨r, q1, q2, by rw [off _ (by omega) (by omega) (by omega) (by omega)]; exact q3, by rw [lk', q4, Bool.or_true]⟩
    · rw [eP] at hp
      rw [off _ (by omega) (by omega) (by omega) (by omega)]; exact s.2.2.2.1 p hp
    · rw [eK] at hk2
      rw [off _ (by omega) (by omega) (by omega) (by omega), off _ (by omega) (by omega) (by omega) (by omega), eP]
      exact s.2.2.2.2 k hk2
    · rw [off 0 (by omega) (by omega) (by omega) (by omega)]
      dsimp only
      simp (disch := omega) only [up_off, up_at, if_neg]
      exact h1.1.1
    · rw [at1]
      dsimp only
      rw [up_off _ (by omega), up_off _ (by omega), mx_up_self]
    · rw [eP] at hp
      dsimp only
      rw [big, lk']
      by_cases q1 : p = y
      · subst q1
        rw [if_pos rfl, bt_or, h1.2.1 p hp q]
        by_cases c32 : q < 32
        · have := bt_one (k := x) (j := q) (by omega) c32
          show (lk N p q || bt ((1 : Int32) <<< (i3 x &&& 31)) q) = _
          rw [this, Bool.or_comm]
          congr 1
          exact decide_eq_decide.mpr (by omega)
        · rw [bt_hi (by omega), Bool.or_false, decide_eq_false (by omega)]; rfl
      · rw [if_neg q1]
        by_cases q2 : p = x
        · subst q2
          rw [if_pos rfl, bt_or, h1.2.1 p hp q]
          by_cases c32 : q < 32
          · have := bt_one (k := y) (j := q) (by omega) c32
            show (lk N p q || bt ((1 : Int32) <<< (i3 y &&& 31)) q) = _
            rw [this, Bool.or_comm]
            congr 1
            exact decide_eq_decide.mpr (by omega)
          · rw [bt_hi (by omega), Bool.or_false, decide_eq_false (by omega)]; rfl
        · rw [if_neg q2, h1.2.1 p hp q, decide_eq_false (by omega)]; rfl
    · rw [eL] at hl2
      dsimp only
      simp (disch := omega) only [up_off, up_at]
      by_cases q : l = nL N
      · rw [if_pos q, if_pos q, if_pos q, q, a3, a33, a128]; exact ⟨rfl, rfl, rfl⟩
      · rw [if_neg q, if_neg q, if_neg q, off _ (by omega) (by omega) (by omega) (by omega), off _ (by omega) (by omega) (by omega) (by omega), off _ (by omega) (by omega) (by omega) (by omega)]
        exact h1.2.2.1 l (by omega)
    · rw [eP] at hp hq
      dsimp only
      rw [up_at, up_at, lc']
      simp (disch := omega) only [up_off]
      by_cases q1 : p = y ∧ q = x
      · rw [if_pos (by omega), if_pos (by omega)]
      · rw [if_neg (by omega)]
        by_cases q2 : p = x ∧ q = y
        · rw [if_pos (by omega), if_pos (by omega)]
        · rw [if_neg (by omega), if_neg (by omega)]
          exact h1.2.2.2 p q hp hq
    · rw [off _ (by omega) (by omega) (by omega) (by omega)]
      dsimp only
      simp (disch := omega) only [up_off, up_at, if_neg]
      exact h2.1.1
    · rw [off _ (by omega) (by omega) (by omega) (by omega)]
      dsimp only
      simp (disch := omega) only [up_off, up_at, if_neg]
      exact h2.1.2.1
    · rw [off _ (by omega) (by omega) (by omega) (by omega)]
      dsimp only
      simp (disch := omega) only [up_off, up_at, if_neg]
      exact h2.1.2.2
    · rw [eP] at hp
      rw [off _ (by omega) (by omega) (by omega) (by omega), off _ (by omega) (by omega) (by omega) (by omega)]
      dsimp only
      simp (disch := omega) only [up_off]
      exact h2.2.1 p hp
    · rw [eK] at hk2
      rw [off _ (by omega) (by omega) (by omega) (by omega), off _ (by omega) (by omega) (by omega) (by omega)]
      dsimp only
      simp (disch := omega) only [up_off]
      exact h2.2.2 k hk2
  · intro u v hu hv hor
    dsimp only
    rw [up_at, if_neg (by omega), up_at, if_neg (by omega)]
    simp (disch := omega) only [up_off]
end BUILDL
