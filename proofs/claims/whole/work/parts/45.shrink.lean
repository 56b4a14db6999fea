/-! ===== flowers that are shrunk ===== -/
def sN (f : Nat → Nat) : Nat → Nat
  | 0 => 0
  | k + 1 => sN f k ||| 2 ^ f k
theorem i3_or (a b : Nat) : i3 a ||| i3 b = i3 (a ||| b) := by
  apply bt_ext
  intro k hk
  rw [bt_or, bt_i3 hk, bt_i3 hk, bt_i3 hk, Nat.testBit_or]
theorem pw_i3 : ∀ j, j < 31 → pw j = i3 (2 ^ j) := by decide +kernel
theorem sN_fo {f : Nat → Nat} : ∀ {k : Nat}, (∀ i, i < k → f i < 31) → fo (fun i s => s ||| pw (f i)) k (i3 0) = i3 (sN f k) := by
  intro k
  induction k with
  | zero => intro _; rfl
  | succ k ih =>
    intro h
    rw [fo_succ, ih (fun i hi => h i (by omega)), pw_i3 _ (h k (by omega)), i3_or]
    rfl
theorem sN_bit {f : Nat → Nat} {j : Nat} : ∀ {k : Nat}, (sN f k).testBit j = true ↔ ∃ i, i < k ∧ f i = j := by
  intro k
  induction k with
  | zero =>
    show Nat.testBit 0 j = true ↔ _
    rw [Nat.zero_testBit]
    constructor
    · intro h; cases h
    · rintro ⟨i, hi, -⟩; omega
  | succ k ih =>
    show (sN f k ||| 2 ^ f k).testBit j = true ↔ _
    rw [Nat.testBit_or, Bool.or_eq_true, ih, Nat.testBit_two_pow]
    constructor
    · rintro (⟨i, hi, e⟩ | h)
      · exact ⟨i, by omega, e⟩
      · exact ⟨k, by omega, of_decide_eq_true h⟩
    · rintro ⟨i, hi, e⟩
      by_cases q : i = k
      · right; subst q; exact decide_eq_true e
      · left; exact ⟨i, by omega, e⟩
theorem cnt_true : ∀ n, cnt (fun _ => true) n = n := by
  intro n
  induction n with
  | zero => rfl
  | succ n ih => rw [cnt_succ, ih]; rfl
theorem sN_pc {f : Nat → Nat} {k : Nat} (h : ∀ i, i < k → f i < 10) (hd : ∀ i j, i < k → j < k → f i = f j → i = j) : pc (sN f k) = k := by
  unfold pc
  rw [← cnt_bij f (n := k) (P := fun _ => true) (m := 10) (Q := fun j => (sN f k).testBit j) (fun l hl _ => ⟨h l hl, sN_bit.mpr ⟨l, hl, rfl⟩⟩) (fun l l' hl hl' _ _ e => hd l l' hl hl' e) (fun p hp hq => ?_), cnt_true]
  obtain ⟨i, hi, e⟩ := sN_bit.mp hq
  exact ⟨i, hi, rfl, e⟩
theorem sN_lt {f : Nat → Nat} {k n : Nat} (h : ∀ i, i < k → f i < n) : sN f k < 2 ^ n := by
  apply Nat.lt_pow_two_of_testBit
  intro i hi
  cases e : (sN f k).testBit i with
  | false => rfl
  | true =>
    obtain ⟨j, hj, e2⟩ := sN_bit.mp e
    have := h j hj
    omega
section SHR
variable {c d : mB} {a r k : Nat} {N : Rw} {f : Nat → Nat}
def isF (N : Rw) (k : Nat) (f : Nat → Nat) : Prop := 3 ≤ k ∧ (∀ i, i < k - 1 → gbp N f i) ∧ lk N (f (k - 1)) (f 0) = true
theorem isF_pt (g : GI N) (h : isF N k f) : ∀ i, i < k → f i < nP N := by
  intro i hi
  by_cases e : i < k - 1
  · exact (lk_lt g (h.2.1 i e).1).1
  · have : i = k - 1 := by omega
    rw [this]; exact (lk_lt g h.2.2).1
def fset (N : Rw) (x : Int32) : Option Nat := ff (fun k => decide (N (178 + k) = x)) (nK N)
def rShr (N : Rw) (x : Int32) : Int32 := match fset N x with
  | some _ => 2
  | none => if nK N < 6 then 0 else 3
def nShr (N : Rw) (x : Int32) : Rw := ud (ud (ud (ud N (178 + nK N) x) (184 + nK N) 0) 125 (i3 (nK N + 1))) 127 (N 127 + 1)
theorem C_setOf_L (s : SI N) (hs : CS c a N) (x : Int32) : FX4_setOf_L2 a x c mx_FU (i3 0) = some (osum (ff (fun k => decide (N (178 + k) = x)) (nK N))) := by
  have := s.1.2
  refine lp_ff (L := fun f y => FX4_setOf_L2 a x c f y) (n := nK N) (fun k => decide (N (178 + k) = x)) osum ?_ ?_ ?_ mx_FU (FU_lt (by omega))
  · intro f
    show FX4_setOf_L2 a x c (f + 1) (i3 (nK N)) = _
    rw [FX4_setOf_L2]
    simp (disch := omega) only [C2 s hs, Nat.le_refl, Nat.reduceAdd, osum, ob_some, mx_letI, mx_chkT, mx_inb_i3, mx_inb_lit, lit_toNat, i3_toNat, i3_le, i3_lt, i3_leL, i3_Lle, i3_ltL, i3_Llt, i3_neg, i3_eq, i3_eqL, i3_ne1, i3_add, i3_addL, i3_Ladd, i3_mul, i3_mulL, i3_Lmul, mx_b01_0, mx_b01_1, b2_01, b2_0, b2_1, se_inl, se_inr, if_true, if_false, e10, e01, e00, e11, em1, em1lt, Nat.not_lt_zero, if_pos, if_neg]
  · intro f k hk hP
    show FX4_setOf_L2 a x c (f + 1) (i3 k) = _
    rw [FX4_setOf_L2]
    simp (disch := omega) only [C2 s hs, (hs.2.2 k hk).1, Nat.reduceAdd, osum, ob_some, mx_letI, mx_chkT, mx_inb_i3, mx_inb_lit, lit_toNat, i3_toNat, i3_le, i3_lt, i3_leL, i3_Lle, i3_ltL, i3_Llt, i3_neg, i3_eq, i3_eqL, i3_ne1, i3_add, i3_addL, i3_Ladd, i3_mul, i3_mulL, i3_Lmul, mx_b01_0, mx_b01_1, b2_01, b2_0, b2_1, se_inl, se_inr, if_true, if_false, e10, e01, e00, e11, em1, em1lt, Nat.not_lt_zero]
    rw [if_neg (by omega), if_neg (by omega), if_pos (of_decide_eq_true hP)]
  · intro f k hk hP
    show FX4_setOf_L2 a x c (f + 1) (i3 k) = FX4_setOf_L2 a x c f (i3 (k + 1))
    rw [FX4_setOf_L2]
    simp (disch := omega) only [C2 s hs, (hs.2.2 k hk).1, Nat.reduceAdd, osum, ob_some, mx_letI, mx_chkT, mx_inb_i3, mx_inb_lit, lit_toNat, i3_toNat, i3_le, i3_lt, i3_leL, i3_Lle, i3_ltL, i3_Llt, i3_neg, i3_eq, i3_eqL, i3_ne1, i3_add, i3_addL, i3_Ladd, i3_mul, i3_mulL, i3_Lmul, mx_b01_0, mx_b01_1, b2_01, b2_0, b2_1, se_inl, se_inr, if_true, if_false, e10, e01, e00, e11, em1, em1lt, Nat.not_lt_zero]
    rw [if_neg (by omega), if_neg (by omega), if_neg (of_decide_eq_false hP)]

theorem C_setOf (s : SI N) (hs : CS c a N) (x : Int32) : FX4_setOf a x c = some (oi (fset N x)) := by
  unfold FX4_setOf
  rw [i3_zero, C_setOf_L s hs x]
  exact osum_oi _
theorem nShr_at {x : Int32} (j : Nat) (h1 : j ≠ 178 + nK N) (h2 : j ≠ 184 + nK N) (h3 : j ≠ 125) (h4 : j ≠ 127) : nShr N x j = N j := by
  unfold nShr
  rw [ud_ne _ _ h4, ud_ne _ _ h3, ud_ne _ _ h2, ud_ne _ _ h1]
theorem nShr_K (hk : nK N < 6) (x : Int32) : nK (nShr N x) = nK N + 1 := by
  have : nShr N x 125 = i3 (nK N + 1) := by unfold nShr; rw [ud_ne _ _ (by omega), ud_self]
  show (nShr N x 125).toNatClampNeg = _
  rw [this, i3_toNat (by omega)]
theorem SI_shr (g : GI N) (s : SI N) (hk : nK N < 6) {t : Nat} (ht : t < 2 ^ nP N) (ho : pc t % 2 = 1) : SI (nShr N (i3 t)) := by
  have hn := g.1.2
  have hL := g.2.1.2
  have e125 : nShr N (i3 t) 125 = i3 (nK N + 1) := by unfold nShr; rw [ud_ne _ _ (by omega), ud_self]
  have off : ∀ j, j < 125 ∨ (128 ≤ j ∧ j < 178) → nShr N (i3 t) j = N j := fun j hj => nShr_at j (by omega) (by omega) (by omega) (by omega)
  refine SI_mk g s (fun j hj => off j (by omega)) ⟨by rw [nShr_K hk, e125], by rw [nShr_K hk]; omega⟩ ?_ ?_ ?_ ?_
  · intro l hl; rw [off _ (by omega)]; exact s.2.1 l hl
  · intro p hp; rw [off _ (by omega)]
    rcases prt s hp with q | ⟨q, q1, q2, q3, q4⟩
    · exact Or.inl q
    · exact Or.inr ⟨q, q1, q2, by rw [off _ (by omega)]; exact q3, q4⟩
  · intro p hp; rw [off _ (by omega)]; exact s.2.2.2.1 p hp
  · intro j hj
    rw [nShr_K hk] at hj
    by_cases q : j = nK N
    · subst q
      have e1 : nShr N (i3 t) (184 + nK N) = 0 := by unfold nShr; rw [ud_ne _ _ (by omega), ud_ne _ _ (by omega), ud_self]
      have e2 : nShr N (i3 t) (178 + nK N) = i3 t := by unfold nShr; rw [ud_ne _ _ (by omega), ud_ne _ _ (by omega), ud_ne _ _ (by omega), ud_self]
      rw [e1, e2]
      exact ⟨⟨0, rfl, by omega⟩, t, rfl, ht, ho⟩
    · rw [nShr_at _ (by omega) (by omega) (by omega) (by omega), nShr_at _ (by omega) (by omega) (by omega) (by omega)]
      exact s.2.2.2.2 j (by omega)
theorem C_shr_L (hr : Ri c r k f) (hk : 3 ≤ k) : FX4_shrinkAlong_L44 a r (i3 (k - 1)) c mx_FU (i3 0) (i3 0) = some (i3 (sN f k)) := by
  have h10 := hr.1.2.1
  rw [← sN_fo (fun i hi => by have := (hr.2 i hi).2; omega)]
  refine lp_fo (L := fun fu y t => FX4_shrinkAlong_L44 a r (i3 (k - 1)) c fu t y) (n := k) _ (fun t => t) _ ?_ ?_ mx_FU (FU_lt (by omega))
  · intro fu t
    show FX4_shrinkAlong_L44 a r (i3 (k - 1)) c (fu + 1) t (i3 k) = _
    rw [FX4_shrinkAlong_L44]
    simp (disch := omega) only [ob_some, mx_letI, mx_chkT, mx_inb_i3, mx_inb_lit, lit_toNat, i3_toNat, i3_le, i3_lt, i3_leL, i3_Lle, i3_ltL, i3_Llt, i3_neg, i3_eq, i3_eqL, i3_ne1, i3_add, i3_addL, i3_Ladd, i3_mul, i3_mulL, i3_Lmul, mx_b01_0, mx_b01_1, b2_01, b2_0, b2_1, se_inl, se_inr, if_true, if_false, e10, e01, e00, e11, em1, em1lt, Nat.not_lt_zero, if_pos, if_neg]
  · intro fu i t hi
    show FX4_shrinkAlong_L44 a r (i3 (k - 1)) c (fu + 1) t (i3 i) = FX4_shrinkAlong_L44 a r (i3 (k - 1)) c fu _ (i3 (i + 1))
    rw [FX4_shrinkAlong_L44]
    simp (disch := omega) only [R_at_y hr.1, (hr.2 i hi).1, pw_eq, ob_some, mx_letI, mx_chkT, mx_inb_i3, mx_inb_lit, lit_toNat, i3_toNat, i3_le, i3_lt, i3_leL, i3_Lle, i3_ltL, i3_Llt, i3_neg, i3_eq, i3_eqL, i3_ne1, i3_add, i3_addL, i3_Ladd, i3_mul, i3_mulL, i3_Lmul, mx_b01_0, mx_b01_1, b2_01, b2_0, b2_1, se_inl, se_inr, if_true, if_false, e10, e01, e00, e11, em1, em1lt, Nat.not_lt_zero, if_pos, if_neg]
theorem C_addSet (h : Nt c a N) (hk : nK N < 6) (x : Int32) : FX4_addSet a x 0 c = some (mx_up (mx_up (mx_up c.1 (a + 9) (nK N) x) (a + 10) (nK N) 0) a 2 (i3 (nK N + 1)), c.2) := by
  obtain ⟨g, s, h1, h2⟩ := h
  unfold FX4_addSet
  simp (disch := omega) only [C2 s h2, mx_up_ne _ _ (show a = a + 9 → (2 : Nat) ≠ nK N from fun q => by omega), mx_up_ne _ _ (show a = a + 10 → (2 : Nat) ≠ nK N from fun q => by omega), ob_some, mx_letI, mx_chkT, mx_inb_i3, mx_inb_lit, lit_toNat, i3_toNat, i3_le, i3_lt, i3_leL, i3_Lle, i3_ltL, i3_Llt, i3_neg, i3_eq, i3_eqL, i3_ne1, i3_add, i3_addL, i3_Ladd, i3_mul, i3_mulL, i3_Lmul, mx_b01_0, mx_b01_1, b2_01, b2_0, b2_1, se_inl, se_inr, if_true, if_false, e10, e01, e00, e11, em1, em1lt, Nat.not_lt_zero, if_pos, if_neg]
theorem C_shrinkAlong (h : Nt c a N) (hr : Ri c r k f) (hk : k = 0 ∨ (3 ≤ k ∧ k % 2 = 1)) (hd : ∀ i j, i < k → j < k → f i = f j → i = j) :
    (isF N k f ∧ ∃ c', FX4_shrinkAlong a r c = some (rShr N (i3 (sN f k)), c') ∧ Nt c' a (if rShr N (i3 (sN f k)) = 0 then nShr N (i3 (sN f k)) else N) ∧ (rShr N (i3 (sN f k)) ≠ 0 → c' = c)) ∨ (¬ isF N k f ∧ FX4_shrinkAlong a r c = some (1, c)) := by
  have h' := h
  obtain ⟨g, s, h1, h2⟩ := h'
  have hn := g.1.2
  have hL := g.2.1.2
  have hK := s.1.2
  have h10 := hr.1.2.1
  rcases hk with h0 | ⟨k3, kodd⟩
  · right
    refine ⟨fun q => by have := q.1; omega, ?_⟩
    subst h0
    unfold FX4_shrinkAlong FX7_size
    rw [hr.1.1]
    rfl
  · obtain ⟨b3, E3, B3⟩ := C_goesByPairs g h1 h2 hr
    have a0 := R_at_y hr.1 (i := 0) (by omega)
    have a1 := R_at_y hr.1 (i := k - 1) (by omega)
    rw [(hr.2 0 (by omega)).1] at a0
    rw [(hr.2 (k - 1) (by omega)).1] at a1
    have f0 := (hr.2 0 (by omega)).2
    have f1 := (hr.2 (k - 1) (by omega)).2
    have El := C_areLinked g h1 (p := f (k - 1)) (q := f 0) (by omega) (by omega)
    have eF : FX4_shrinkAlong a r c = if b3 = true ∧ lk N (f (k - 1)) (f 0) = true then (if oi (fset N (i3 (sN f k))) = -1 then (if nK N < 6 then Option.bind (FX4_addSet a (i3 (sN f k)) 0 c) (fun r18 => some (0, (mx_up r18.1 a 4 ((r18.1 a 4) + 1), r18.2))) else some (3, c)) else some (2, c)) else some (1, c) := by
      unfold FX4_shrinkAlong FX7_size
      rw [hr.1.1]
      have eL := C_shr_L (a := a) hr k3
      simp (disch := omega) only [show (0 : Int32) = i3 0 from rfl, i3_subL, a0, a1, E3, El, eL, C_setOf s h2, C2 s h2, ob_some, mx_letI, i3_ltL]
      rw [if_neg (by omega)]
      cases b3 <;> cases lk N (f (k - 1)) (f 0) <;> rfl
    by_cases hF : isF N k f
    · left
      refine ⟨hF, ?_⟩
      rw [if_pos ⟨B3.mpr hF.2.1, hF.2.2⟩] at eF
      unfold rShr
      cases ef : fset N (i3 (sN f k)) with
      | some j =>
        have hj := (ff_some.mp ef).1
        rw [ef, if_neg (by rw [show oi (some j) = i3 j from rfl, i3_ne1 (by omega)]; exact not_false)] at eF
        exact ⟨c, eF, h, fun _ => rfl⟩
      | none =>
        rw [ef, if_pos (show oi none = -1 from rfl)] at eF
        by_cases h6 : nK N < 6
        · rw [if_pos h6, C_addSet h h6] at eF
          simp only [if_pos h6]
          have pt := isF_pt g hF
          have eb : (mx_up (mx_up (mx_up c.1 (a + 9) (nK N) (i3 (sN f k))) (a + 10) (nK N) 0) a 2 (i3 (nK N + 1))) a 4 = c.1 a 4 := by
            rw [mx_up_ne _ _ (fun _ => by omega), up_off _ (by omega), up_off _ (by omega)]
          refine ⟨_, eF, ?_, fun q => absurd rfl q⟩
          show Nt _ a (nShr N (i3 (sN f k)))
          have cl : ∀ b, b ≠ a → b ≠ a + 9 → b ≠ a + 10 → (mx_up (mx_up (mx_up (mx_up c.1 (a + 9) (nK N) (i3 (sN f k))) (a + 10) (nK N) 0) a 2 (i3 (nK N + 1))) a 4 ((mx_up (mx_up (mx_up c.1 (a + 9) (nK N) (i3 (sN f k))) (a + 10) (nK N) 0) a 2 (i3 (nK N + 1))) a 4 + 1)) b = c.1 b := fun b q1 q2 q3 => by
            rw [up_off _ q1, up_off _ q1, up_off _ q3, up_off _ q2]
          have cla : ∀ j, j ≠ 2 → j ≠ 4 → (mx_up (mx_up (mx_up (mx_up c.1 (a + 9) (nK N) (i3 (sN f k))) (a + 10) (nK N) 0) a 2 (i3 (nK N + 1))) a 4 ((mx_up (mx_up (mx_up c.1 (a + 9) (nK N) (i3 (sN f k))) (a + 10) (nK N) 0) a 2 (i3 (nK N + 1))) a 4 + 1)) a j = c.1 a j := fun j q1 q2 => by
            rw [mx_up_ne _ _ (fun _ => q2), mx_up_ne _ _ (fun _ => q1), up_off _ (by omega), up_off _ (by omega)]
          have off : ∀ j, j < 125 ∨ (128 ≤ j ∧ j < 178) → nShr N (i3 (sN f k)) j = N j := fun j hj => nShr_at j (by omega) (by omega) (by omega) (by omega)
          refine Nt_mk h (SI_shr g s h6 (sN_lt pt) (by rw [sN_pc (fun i hi => (hr.2 i hi).2) hd]; exact kodd)) (fun j hj => off j (by omega)) (cla 0 (by omega) (by omega)) (cla 1 (by omega) (by omega)) (cl _ (by omega) (by omega) (by omega)) (cl _ (by omega) (by omega) (by omega)) (cl _ (by omega) (by omega) (by omega)) (cl _ (by omega) (by omega) (by omega)) ?_ ⟨?_, ?_, ?_⟩ ?_ ?_
          · intro l hl; rw [off _ (by omega)]; exact (congrFun (cl (a + 7) (by omega) (by omega) (by omega)) l).trans (h1.2.2.1 l hl).2.2
          · show mx_up _ _ _ _ a 2 = _
            rw [mx_up_ne _ _ (fun _ => by omega)]
            show mx_up _ _ _ _ a 2 = _
            rw [mx_up_self]
            unfold nShr
            rw [ud_ne _ _ (by omega), ud_self]
          · rw [nShr_at _ (by omega) (by omega) (by omega) (by omega)]; exact (cla 3 (by omega) (by omega)).trans h2.1.2.1
          · show mx_up _ _ _ _ a 4 = _
            rw [mx_up_self]
            show mx_up _ _ _ _ a 4 + 1 = _
            rw [eb, h2.1.2.2]
            unfold nShr
            rw [ud_self]
          · intro p hp; rw [off _ (by omega), off _ (by omega)]
            exact ⟨(congrFun (cl (a + 3) (by omega) (by omega) (by omega)) p).trans (h2.2.1 p hp).1, (congrFun (cl (a + 4) (by omega) (by omega) (by omega)) p).trans (h2.2.1 p hp).2⟩
          · intro j hj
            rw [nShr_K h6] at hj
            constructor
            · show mx_up (mx_up (mx_up (mx_up c.1 (a + 9) (nK N) (i3 (sN f k))) (a + 10) (nK N) 0) a 2 (i3 (nK N + 1))) a 4 _ (a + 9) j = _
              rw [up_off _ (by omega), up_off _ (by omega), up_off _ (by omega), up_at]
              by_cases q : j = nK N
              · rw [if_pos q, q]
                unfold nShr
                rw [ud_ne _ _ (by omega), ud_ne _ _ (by omega), ud_ne _ _ (by omega), ud_self]
              · rw [if_neg q, nShr_at _ (by omega) (by omega) (by omega) (by omega)]; exact (h2.2.2 j (by omega)).1
            · show mx_up (mx_up (mx_up (mx_up c.1 (a + 9) (nK N) (i3 (sN f k))) (a + 10) (nK N) 0) a 2 (i3 (nK N + 1))) a 4 _ (a + 10) j = _
              rw [up_off _ (by omega), up_off _ (by omega), up_at, up_off _ (by omega)]
              by_cases q : j = nK N
              · rw [if_pos q, q]
                unfold nShr
                rw [ud_ne _ _ (by omega), ud_ne _ _ (by omega), ud_self]
              · rw [if_neg q, nShr_at _ (by omega) (by omega) (by omega) (by omega)]; exact (h2.2.2 j (by omega)).2
        · rw [if_neg h6] at eF
          simp only [if_neg h6]
          exact ⟨c, eF, h, fun _ => rfl⟩
    · right
      refine ⟨hF, ?_⟩
      rw [eF, if_neg]
      rintro ⟨q1, q2⟩
      exact hF ⟨k3, B3.mp q1, q2⟩
end SHR
