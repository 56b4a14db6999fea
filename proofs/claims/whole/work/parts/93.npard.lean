/-! ===== a network's lines: odd sets; all lines ===== -/
section NPARD
variable {c c' d d' : mB} {n lim p : Nat} {t : Nat → Nat}
/-- adding a point to a set -/
theorem pc_add : ∀ x, x < 1024 → ∀ i, i < 10 → x.testBit i = false → pc (x ||| 2 ^ i) = pc x + 1 := by decide +kernel
theorem or_lt {x i m : Nat} (hx : x < 2 ^ m) (hi : i < m) : x ||| 2 ^ i < 2 ^ m := Nat.or_lt_two_pow hx (Nat.pow_lt_pow_right (by omega) hi)
/-- the points of a set are read -/
theorem L_set (y1 y2 : Int32) : ∀ (fu : Nat) {c d : mB} {p x many : Nat}, PR c d n lim t p → NP c d → many ≤ 9 → 9 - many < fu → x < 2 ^ nP (stN (d.1 225)) → pc x = many → hb (FX5_readSet_L25 26 1 y1 fu (i3 x) (i3 many) c) (FX12_readOdd_L44 222 y2 fu (i3 x) (i3 many) d) (fun r s => (∃ x' m' p' c' d', r = .inr (i3 x', c') ∧ s = .inr (i3 x', i3 m', d') ∧ PR c' d' n lim t p' ∧ p ≤ p' ∧ NP c' d' ∧ x' < 2 ^ nP (stN (d'.1 225)) ∧ pc x' = m' ∧ m' ≤ 9 ∧ 3 ≤ m' ∧ d'.1 225 = d.1 225 ∧ ((c'.1 1 6 = 59 ∧ m' % 2 = 1) ∨ (c'.1 1 6 ≠ 59 ∧ m' = 9))) ∨ (∃ c' d', r = .inl (0, c') ∧ s = .inl (0, d') ∧ FL c' d') ∨ (∃ c' d' x' m', r = .inl (0, c') ∧ s = .inr (i3 x', i3 m', d') ∧ m' ≤ 9 ∧ (∃ d2, FX12_bad 222 1 d' = some (0, d2) ∧ FL c' d2) ∧ (FX12_isSign 222 59 d' = some 0 ∨ m' % 2 = 0))) := by
  intro fu
  induction fu with
  | zero => intro c d p x many _ _ _ hf; omega
  | succ fu ih =>
    intro c d p x many h hnp hm9 hf hx hpc
    obtain ⟨e0, e1, h10⟩ := NP_P hnp
    have hx10 : x < 1024 := pow10 h10 hx
    rw [FX5_readSet_L25, FX12_readOdd_L44]
    unfold FX10_kind
    have sg := PR_isSign h (x := 59) (by decide)
    by_cases c9 : many = 9
    · rw [if_pos (by rw [c9]; decide), mx_letI, if_neg (by show ¬ i3 many < i3 3; rw [i3_lt (by omega) (by omega)]; omega)]
      have fin : hb (some (Sum.inr (i3 x, c) : (Int32 × mB) ⊕ (Int32 × mB))) (some (Sum.inr (i3 x, i3 many, d) : (Int32 × mB) ⊕ (Int32 × Int32 × mB))) (fun r s => (∃ x' m' p' c' d', r = .inr (i3 x', c') ∧ s = .inr (i3 x', i3 m', d') ∧ PR c' d' n lim t p' ∧ p ≤ p' ∧ NP c' d' ∧ x' < 2 ^ nP (stN (d'.1 225)) ∧ pc x' = m' ∧ m' ≤ 9 ∧ 3 ≤ m' ∧ d'.1 225 = d.1 225 ∧ ((c'.1 1 6 = 59 ∧ m' % 2 = 1) ∨ (c'.1 1 6 ≠ 59 ∧ m' = 9))) ∨ (∃ c' d', r = .inl (0, c') ∧ s = .inl (0, d') ∧ FL c' d') ∨ (∃ c' d' x' m', r = .inl (0, c') ∧ s = .inr (i3 x', i3 m', d') ∧ m' ≤ 9 ∧ (∃ d2, FX12_bad 222 1 d' = some (0, d2) ∧ FL c' d2) ∧ (FX12_isSign 222 59 d' = some 0 ∨ m' % 2 = 0))) := by
        refine hb_some (Or.inl ⟨x, many, p, c, d, rfl, rfl, h, Nat.le_refl _, hnp, hx, hpc, hm9, by omega, rfl, ?_⟩)
        by_cases q : c.1 1 6 = 59
        · exact Or.inl ⟨q, by omega⟩
        · exact Or.inr ⟨q, c9⟩
      rcases PR_isName h with ⟨w, hv, hl, g1⟩ | ⟨q1, g1⟩
      · rw [g1, ob_some, if_neg (show ¬ (1 : Int32) = 0 by decide), if_pos (by rw [c9]; decide)]
        exact fin
      · rw [g1, ob_some, if_pos rfl]
        exact fin
    · rw [if_neg (by show ¬ i3 9 ≤ i3 many; rw [i3_le (by omega) (by omega)]; omega), ob_some]
      refine (show ∀ {α β : Type} {X : Option α} {Y : Option β} {Q : α → β → Prop}, hb X Y Q → hb X Y Q from fun h => h) ?_
      generalize hK : (Option.bind (FX10_pointHere 1 (26 + 1) c) (fun r8 => (if r8.1 = (-1) then (some (Sum.inl (0, r8.2))) else (if ((i3 x >>> (r8.1 &&& 31)) &&& 1) = 0 then mx_let (i3 x ||| ((1 : Int32) <<< (r8.1 &&& 31))) (fun v11 => Option.bind (FX10_advance 1 r8.2) (fun r12 => mx_let (i3 many + 1) (fun v13 => (FX5_readSet_L25 26 1 y1 fu v11 v13 r12)))) else Option.bind (FX10_fail 1 3 r8.2) (fun r14 => mx_chk (mx_b01 r14.1) ((some (Sum.inl (r14.1, r14.2))))))))) = K
      generalize hJ : (Option.bind (FX12_isHere 222 d) (fun r9 => (if r9.1 = 0 then (some (Sum.inl (0, r9.2))) else Option.bind (FX12_has (i3 x) (r9.2.1 222 13) r9.2) (fun r11 => (if r11 = 0 then mx_let (i3 x ||| ((1 : Int32) <<< ((r9.2.1 222 13) &&& 31))) (fun v13 => mx_let (i3 many + 1) (fun v14 => Option.bind (FX12_go 222 r9.2) (fun r15 => (FX12_readOdd_L44 222 y2 fu v13 v14 r15)))) else Option.bind (FX12_bad 222 3 r9.2) (fun r16 => mx_chk (mx_b01 r16.1) ((some (Sum.inl (r16.1, r16.2)))))))))) = J
      rw [mx_letI, mx_letI]
      have both : hb K J (fun r s => (∃ x' m' p' c' d', r = .inr (i3 x', c') ∧ s = .inr (i3 x', i3 m', d') ∧ PR c' d' n lim t p' ∧ p ≤ p' ∧ NP c' d' ∧ x' < 2 ^ nP (stN (d'.1 225)) ∧ pc x' = m' ∧ m' ≤ 9 ∧ 3 ≤ m' ∧ d'.1 225 = d.1 225 ∧ ((c'.1 1 6 = 59 ∧ m' % 2 = 1) ∨ (c'.1 1 6 ≠ 59 ∧ m' = 9))) ∨ (∃ c' d', r = .inl (0, c') ∧ s = .inl (0, d') ∧ FL c' d') ∨ (∃ c' d' x' m', r = .inl (0, c') ∧ s = .inr (i3 x', i3 m', d') ∧ m' ≤ 9 ∧ (∃ d2, FX12_bad 222 1 d' = some (0, d2) ∧ FL c' d2) ∧ (FX12_isSign 222 59 d' = some 0 ∨ m' % 2 = 0))) := by
        rw [← hK, ← hJ]
        obtain ⟨⟨x1, z1⟩, ⟨x2, z2⟩, g1, g2, hp⟩ := PR_here h h10 e0 e1 hnp.2.1
        show hb (Option.bind (FX10_pointHere 1 27 c) _) _ _
        rw [g1, g2, ob_some, ob_some]
        dsimp only
        rcases hp with ⟨i, hi, q1, q2, q3, q4, q5, q6, q7⟩ | ⟨q1, q2, q3⟩
        · dsimp only at q1 q2 q3 q4 q5 q7
          subst q1 q2 q4
          have ni : ¬ i3 i = -1 := fun q => (i3_ne1 (a := i) (by omega)).mp q
          have h' := PR_13 h q5
          have hnp' := NP_13 hnp q5
          rw [if_neg ni, if_neg (show ¬ (1 : Int32) = 0 by decide), q3]
          have ebt := bt_sh (i3 x) (k := i) (by omega)
          have ebt1 := bt_sh1 (i3 x) (k := i) (by omega)
          rw [bt_i3 (by omega)] at ebt ebt1
          unfold FX12_has
          have epw : i3 x ||| ((1 : Int32) <<< (i3 i &&& 31)) = i3 (x ||| 2 ^ i) := by
            have := pw_i3 i (by omega)
            show i3 x ||| pw i = _
            rw [this, i3_or]
          cases hb1 : x.testBit i with
          | false =>
            rw [if_pos (ebt.mpr hb1), if_neg (fun q => by rw [ebt1.mp q] at hb1; cases hb1), ob_some, if_pos rfl, mx_letI, mx_letI, mx_letI, epw, i3_succ]
            obtain ⟨c2, d2, a1, a2, s1, s2, s3, s4⟩ := PR_go h' q6
            rw [a1, a2, ob_some, ob_some]
            have hn2 := NP_U hnp' s3 s4
            have eR : d2.1 225 = d.1 225 := by rw [s4.cell 225 (fun j => by unfold U2; omega), q5.cell 225 (fun j => by omega)]
            have R := ih (x := x ||| 2 ^ i) (many := many + 1) s1 hn2 (by omega) (by omega) (by rw [eR]; exact or_lt hx hi) (by rw [pc_add x hx10 i (by omega) hb1]; omega)
            refine hb_mono R (fun r s q => ?_)
            rcases q with ⟨x', m', p', c', d', u1, u2, u3, u4, u5, u6, u7, u8, u9, u10, u11⟩ | q | q
            · exact Or.inl ⟨x', m', p', c', d', u1, u2, u3, by omega, u5, u6, u7, u8, u9, by rw [u10, eR], u11⟩
            · exact Or.inr (Or.inl q)
            · exact Or.inr (Or.inr q)
          | true =>
            rw [if_neg (fun q => by rw [ebt.mp q] at hb1; cases hb1), if_pos (ebt1.mpr hb1), ob_some, if_neg (show ¬ (1 : Int32) = 0 by decide)]
            obtain ⟨ca, da, m1, m2, q⟩ := PR_no h' (x := 3) (fun q => by rw [q7] at q; exact absurd q (by decide))
            rw [m1, m2, ob_some, ob_some]
            exact hb_some (Or.inr (Or.inl ⟨ca, da, rfl, rfl, q.1⟩))
        · dsimp only at q1 q2 q3
          subst q1 q2
          rw [if_pos rfl, if_pos rfl]
          exact hb_some (Or.inr (Or.inl ⟨z1, z2, rfl, rfl, q3.1⟩))
      -- the class fails at a token that is no name, the reference first leaves its loop
      have other : 3 ≤ many → FX12_isName 222 d = some 0 → (FX12_isSign 222 59 d = some 0 ∨ many % 2 = 0) → hb K (some (Sum.inr (i3 x, i3 many, d) : (Int32 × mB) ⊕ (Int32 × Int32 × mB))) (fun r s => (∃ x' m' p' c' d', r = .inr (i3 x', c') ∧ s = .inr (i3 x', i3 m', d') ∧ PR c' d' n lim t p' ∧ p ≤ p' ∧ NP c' d' ∧ x' < 2 ^ nP (stN (d'.1 225)) ∧ pc x' = m' ∧ m' ≤ 9 ∧ 3 ≤ m' ∧ d'.1 225 = d.1 225 ∧ ((c'.1 1 6 = 59 ∧ m' % 2 = 1) ∨ (c'.1 1 6 ≠ 59 ∧ m' = 9))) ∨ (∃ c' d', r = .inl (0, c') ∧ s = .inl (0, d') ∧ FL c' d') ∨ (∃ c' d' x' m', r = .inl (0, c') ∧ s = .inr (i3 x', i3 m', d') ∧ m' ≤ 9 ∧ (∃ d2, FX12_bad 222 1 d' = some (0, d2) ∧ FL c' d2) ∧ (FX12_isSign 222 59 d' = some 0 ∨ m' % 2 = 0))) := by
        intro h3 hnm hsg
        rw [← hK]
        have hk2 : c.1 1 6 ≠ 2 := by
          rcases PR_isName h with ⟨w, hv, hl, g1⟩ | ⟨q1, g1⟩
          · rw [hnm] at g1; exact absurd g1 (by decide)
          · exact q1
        unfold FX10_pointHere
        rw [if_neg hk2]
        obtain ⟨ca, da, m1, m2, q⟩ := PR_no h (x := 1) (fun _ => rfl)
        rw [m1, ob_some, ob_some]
        exact hb_some (Or.inr (Or.inr ⟨ca, d, x, many, rfl, rfl, hm9, ⟨da, m2, q.1⟩, hsg⟩))
      by_cases c3 : many < 3
      · rw [if_pos (show i3 many < 3 by show i3 many < i3 3; rw [i3_lt (by omega) (by omega)]; exact c3)]
        rcases sg with ⟨q1, -⟩ | ⟨q1, -⟩
        · have q1' : c.1 1 6 = 59 := q1
          rw [if_pos q1', if_pos (show i3 many < 3 by show i3 many < i3 3; rw [i3_lt (by omega) (by omega)]; exact c3)]
          exact both
        · have q1' : ¬ c.1 1 6 = 59 := q1
          rw [if_neg q1', if_pos (show i3 many < 3 by show i3 many < i3 3; rw [i3_lt (by omega) (by omega)]; exact c3)]
          exact both
      · have n3 : ¬ i3 many < 3 := by show ¬ i3 many < i3 3; rw [i3_lt (by omega) (by omega)]; exact c3
        have n9 : ¬ 9 ≤ i3 many := by show ¬ i3 9 ≤ i3 many; rw [i3_le (by omega) (by omega)]; omega
        rw [if_neg n3]
        have hodd := odd_i3 (k := many) (by omega)
        rcases sg with ⟨q1, q2, -, q4, -⟩ | ⟨q1, q2⟩
        · have q1' : c.1 1 6 = 59 := q1
          have hnm : FX12_isName 222 d = some 0 := M_isName_n (by rw [q4]; decide)
          rw [if_pos q1', if_neg n3, hnm, ob_some, if_pos rfl]
          by_cases co : many % 2 = 1
          · rw [if_pos (hodd.mpr co)]
            exact hb_some (Or.inl ⟨x, many, p, c, d, rfl, rfl, h, Nat.le_refl _, hnp, hx, hpc, hm9, by omega, rfl, Or.inl ⟨q1', co⟩⟩)
          · rw [if_neg (fun q => co (hodd.mp q))]
            exact other (by omega) hnm (Or.inr (by omega))
        · have q1' : ¬ c.1 1 6 = 59 := q1
          rw [if_neg q1', if_neg n3]
          rcases PR_isName h with ⟨w, hv, hl, g1⟩ | ⟨k1, g1⟩
          · rw [g1, ob_some, if_neg (show ¬ (1 : Int32) = 0 by decide), if_neg n9]
            exact both
          · rw [g1, ob_some, if_pos rfl]
            exact other (by omega) g1 (Or.inl q2)
end NPARD
