/-! ===== the class's next token ===== -/
section ADVB
variable {c c' : mB} {n lim p : Nat} {t : Nat → Nat}
theorem chn_pos (hp : p < n) (ha : isA (t p) = true) : 1 ≤ chn n t p := by
  obtain ⟨-, -, s2⟩ := chn_ok (t := t) (Nat.le_of_lt hp)
  by_cases c0 : chn n t p = 0
  · rw [c0] at s2
    rcases s2 with q | q
    · omega
    · rw [Nat.add_zero, ha] at q; cases q
  · omega
theorem chn_let (hp : p ≤ n) (h0 : nd t p (chn n t p) = 0) : ∀ j, j < chn n t p → isL (t (p + j)) = true := by
  intro j hj
  have := cnt_0 h0 j hj
  simpa using this
theorem chn_dig (hp : p ≤ n) (h0 : nl t p (chn n t p) = 0) : ∀ j, j < chn n t p → isD (t (p + j)) = true := by
  intro j hj
  have h1 := cnt_0 h0 j hj
  have h2 := ((chn_ok (t := t) hp).2.1 j hj).2
  unfold isA at h2
  rw [h1] at h2
  exact h2
theorem C_readChunk (h : Tx c n lim t) (hp : p < n) (ha : isA (t p) = true) (h4 : c.1 1 4 = i3 p) : hw (FX10_readChunk 1 c) (fun c' => TC c' (ckt n t p) ∧ c'.1 1 4 = i3 (p + chn n t p) ∧ mx_out (fun b j => b = 1 ∧ (j = 4 ∨ j = 6 ∨ j = 8 ∨ j = 9)) c c') := by
  have hL := chn_pos hp ha
  have hs := nl_nd t p (chn n t p)
  have hb := (chn_ok (t := t) (Nat.le_of_lt hp)).1
  have h940 := h.1
  obtain ⟨c1, e1, p1, z1⟩ := C_chunk_L9 h (Nat.le_of_lt hp) h4
  unfold FX10_readChunk
  rw [e1, ob_some]
  dsimp only
  rw [mx_letI]
  refine hw_letK (fun K hK => ?_)
  have zz : mx_out (fun b j => b = 1 ∧ (j = 4 ∨ j = 6 ∨ j = 8 ∨ j = 9)) c (mx_up c1.1 1 6 1, c1.2) := mx_out_up (z1.sub (fun b j q => ⟨q.1, Or.inl q.2⟩)) rfl ⟨rfl, Or.inr (Or.inl rfl)⟩
  have p2 : (mx_up c1.1 1 6 1, c1.2).1 1 4 = i3 (p + chn n t p) := by
    show mx_up c1.1 1 6 1 1 4 = _
    rw [up_at, if_neg (by omega)]; exact p1
  have k2 : (mx_up c1.1 1 6 1, c1.2).1 1 6 = 1 := mx_up_self c1.1 1 6 1
  have kk : ¬ (nd t p (chn n t p) = 0 ∧ chn n t p ≤ 7) → hw (K (mx_up c1.1 1 6 1, c1.2)) (fun c' => TC c' (ckt n t p) ∧ c'.1 1 4 = i3 (p + chn n t p) ∧ mx_out (fun b j => b = 1 ∧ (j = 4 ∨ j = 6 ∨ j = 8 ∨ j = 9)) c c') := by
    intro hn
    rw [hK]
    dsimp only
    by_cases q1 : nl t p (chn n t p) = 0
    · rw [if_pos (by rw [q1]; rfl)]
      by_cases q2 : 3 < nd t p (chn n t p)
      · rw [if_pos (by show i3 3 < _; rw [i3_lt (by omega) (by omega)]; exact q2)]
        refine hw_some ⟨?_, p2, zz⟩
        unfold ckt
        rw [if_neg hn, if_neg (by omega)]
        exact Or.inr (Or.inr (Or.inl ⟨rfl, k2⟩))
      · rw [if_neg (by show ¬ i3 3 < _; rw [i3_lt (by omega) (by omega)]; exact q2), mx_letI, mx_letI]
        obtain ⟨-, v, v1, v2⟩ := fM_N (t := t) (p := p) (chn n t p) (by omega) (chn_dig (Nat.le_of_lt hp) q1)
        have v3 : 10 ^ chn n t p ≤ 10 ^ 3 := Nat.pow_le_pow_right (by omega) (by omega)
        refine hw_some ⟨?_, ?_, mx_out_up (mx_out_up zz rfl ⟨rfl, Or.inr (Or.inr (Or.inl rfl))⟩) rfl ⟨rfl, Or.inr (Or.inl rfl)⟩⟩
        · unfold ckt
          rw [if_neg hn, if_pos ⟨q1, by omega⟩]
          refine Or.inr (Or.inr (Or.inr (Or.inr (Or.inl ⟨rfl, ?_, ?_, ?_⟩))))
          · exact mx_up_self (mx_up (mx_up c1.1 1 6 1) 1 8 (fN t p (chn n t p))) 1 6 3
          · show mx_up (mx_up (mx_up c1.1 1 6 1) 1 8 (fN t p (chn n t p))) 1 6 3 1 8 = _
            rw [up_at, if_neg (by omega), up_at, if_pos rfl]
            dsimp only
            rw [v2, i3_toNat (by omega)]
          · dsimp only
            rw [v2, i3_toNat (by omega)]
            omega
        · show mx_up (mx_up (mx_up c1.1 1 6 1) 1 8 (fN t p (chn n t p))) 1 6 3 1 4 = _
          rw [up_at, if_neg (by omega), up_at, if_neg (by omega)]
          exact p2
    · rw [if_neg (by show ¬ _ = i3 0; rw [i3_eq (by omega) (by omega)]; exact q1)]
      refine hw_some ⟨?_, p2, zz⟩
      unfold ckt
      rw [if_neg hn, if_neg (by omega)]
      exact Or.inr (Or.inr (Or.inl ⟨rfl, k2⟩))
  by_cases q1 : nd t p (chn n t p) = 0
  · rw [if_pos (by rw [q1]; rfl)]
    by_cases q2 : 7 < nl t p (chn n t p)
    · rw [if_pos (by show i3 7 < _; rw [i3_lt (by omega) (by omega)]; exact q2)]
      exact kk (by omega)
    · rw [if_neg (by show ¬ i3 7 < _; rw [i3_lt (by omega) (by omega)]; exact q2), mx_letI, mx_letI]
      have hlet := chn_let (Nat.le_of_lt hp) q1
      have hwk : wok (wrd t p (chn n t p)) := wrd_ok hL (by omega) hlet
      have z3' : mx_out (fun b j => b = 1 ∧ (j = 4 ∨ j = 6 ∨ j = 8 ∨ j = 9)) c (mx_up (mx_up c1.1 1 6 1) 1 6 2, mx_ul c1.2 1 9 (f32 t p (chn n t p))) := mx_out_up (m1 := (mx_up c1.1 1 6 1, mx_ul c1.2 1 9 (f32 t p (chn n t p)))) (mx_out_ul zz rfl ⟨rfl, Or.inr (Or.inr (Or.inr rfl))⟩) rfl ⟨rfl, Or.inr (Or.inl rfl)⟩
      have ef := f32_w (t := t) (p := p) (chn n t p) hlet
      obtain ⟨c5, e5, k5, z5⟩ := C_told (c := (mx_up (mx_up c1.1 1 6 1) 1 6 2, mx_ul c1.2 1 9 (f32 t p (chn n t p)))) hwk (fun i hi => by
        rw [(z3' 3 i (by omega)).2]; exact h.2.2.2.2.2.2 i hi) (mx_up_self (mx_up c1.1 1 6 1) 1 6 2)
      show hw (Option.bind (FX10_readChunk_L154 1 (f32 t p (chn n t p)) mx_FU (i3 0) (mx_up (mx_up c1.1 1 6 1) 1 6 2, mx_ul c1.2 1 9 (f32 t p (chn n t p)))) _) _
      rw [ef] at e5 z5 ⊢
      rw [e5, ob_some]
      refine hw_some ⟨?_, ?_, mx_out.tr (by rw [ef] at z3'; exact z3') (z5.sub (fun b j q => ⟨q.1, Or.inr (Or.inl q.2)⟩))⟩
      · unfold ckt
        rw [if_pos ⟨q1, by omega⟩]
        refine Or.inr (Or.inr (Or.inr (Or.inl ⟨rfl, hwk, ?_, k5⟩)))
        rw [(z5 1 9 (by omega)).2]
        show mx_ul c1.2 1 9 _ 1 9 = _
        simp [mx_ul]
      · rw [z5.fld 1 4 (by omega)]
        show mx_up (mx_up c1.1 1 6 1) 1 6 2 1 4 = _
        rw [up_at, if_neg (by omega)]
        exact p2
  · rw [if_neg (by show ¬ _ = i3 0; rw [i3_eq (by omega) (by omega)]; exact q1)]
    exact kk (by omega)
theorem TC_mv {τ : Nat × List Nat × Nat} (h : TC c τ) (h5 : c'.1 1 5 = c.1 1 5) (h6 : c'.1 1 6 = c.1 1 6) (h8 : c'.1 1 8 = c.1 1 8) (h9 : c'.2 1 9 = c.2 1 9) : TC c' τ := by
  unfold TC
  rw [h5, h6, h8, h9]
  exact h
theorem C_adv (h : Tx c n lim t) (hp : p ≤ 2000) (h4 : c.1 1 4 = i3 p) : hw (FX10_advance 1 c) (fun c' => TC c' (tkn n lim t p) ∧ c'.1 1 7 = i3 (tst n lim t p) ∧ c'.1 1 4 = i3 (tnx n lim t p) ∧ mx_out W1 c c') := by
  obtain ⟨c1, e1, p1, z1⟩ := C_skip h hp h4
  have z1' : mx_out W1 c c1 := z1.sub (fun b j q => ⟨q.1, Or.inl q.2⟩)
  have h1 : Tx c1 n lim t := Tx_mv h z1 (fun b j q => by omega)
  have e3 := h1.2.2.2.1
  have hn := h1.1
  have hlim := h1.2.1
  have hk : tkp n lim t p ≤ 3000 := by
    obtain ⟨s1, s2⟩ := skp_ok (min n lim) t p
    unfold tkp
    by_cases c0 : skp (min n lim) t p = 0
    · omega
    · have := (s1 (skp (min n lim) t p - 1) (by omega)).1; omega
  unfold FX10_advance
  rw [e1, ob_some, p1, e3]
  by_cases c0 : min n lim ≤ tkp n lim t p
  · rw [if_neg (by rw [i3_lt (by omega) (by omega)]; omega), mx_letI, mx_letI]
    refine hw_some ⟨?_, ?_, ?_, mx_out_up (mx_out_up z1' rfl ⟨rfl, Or.inr (Or.inr (Or.inl rfl))⟩) rfl ⟨rfl, Or.inr (Or.inl rfl)⟩⟩
    · have k6 : (mx_up (mx_up c1.1 1 7 (i3 (min n lim))) 1 6 0, c1.2).1 1 6 = 0 := mx_up_self (mx_up c1.1 1 7 (i3 (min n lim))) 1 6 0
      have k5 : (mx_up (mx_up c1.1 1 7 (i3 (min n lim))) 1 6 0, c1.2).1 1 5 = b2 (decide (lim < n)) := by
        show mx_up (mx_up c1.1 1 7 (i3 (min n lim))) 1 6 0 1 5 = _
        rw [up_at, if_neg (by omega), up_at, if_neg (by omega)]
        exact h1.2.2.2.2.1
      unfold tkn
      rw [if_pos c0]
      by_cases c2 : lim < n
      · rw [if_pos c2]
        rw [decide_eq_true c2] at k5
        exact Or.inr (Or.inl ⟨rfl, k6, k5⟩)
      · rw [if_neg c2]
        rw [decide_eq_false c2] at k5
        exact Or.inl ⟨rfl, k6, k5⟩
    · show mx_up (mx_up c1.1 1 7 (i3 (min n lim))) 1 6 0 1 7 = _
      rw [up_at, if_neg (by omega), up_at, if_pos rfl]
      unfold tst
      rw [if_pos c0]
    · show mx_up (mx_up c1.1 1 7 (i3 (min n lim))) 1 6 0 1 4 = _
      rw [up_at, if_neg (by omega), up_at, if_neg (by omega), p1]
      unfold tnx
      rw [if_pos c0]
  · rw [if_pos (by rw [i3_lt (by omega) (by omega)]; omega), mx_letI]
    have z2 : mx_out (fun b j => b = 1 ∧ j = 7) c1 (mx_up c1.1 1 7 (i3 (tkp n lim t p)), c1.2) := mx_out_up mx_out.rf rfl ⟨rfl, rfl⟩
    have z2' : mx_out W1 c (mx_up c1.1 1 7 (i3 (tkp n lim t p)), c1.2) := mx_out.tr z1' (z2.sub (fun b j q => ⟨q.1, Or.inr (Or.inr (Or.inl q.2))⟩))
    have h2 : Tx (mx_up c1.1 1 7 (i3 (tkp n lim t p)), c1.2) n lim t := Tx_mv h1 z2 (fun b j q => by omega)
    have p2 : (mx_up c1.1 1 7 (i3 (tkp n lim t p)), c1.2).1 1 4 = i3 (tkp n lim t p) := by rw [z2.fld 1 4 (by omega)]; exact p1
    have p7 : (mx_up c1.1 1 7 (i3 (tkp n lim t p)), c1.2).1 1 7 = i3 (tkp n lim t p) := mx_up_self c1.1 1 7 _
    obtain ⟨hv, ht⟩ := h2.2.2.2.2.2.1 (tkp n lim t p) (by omega)
    have es : FX10_signAt 1 (i3 (tkp n lim t p)) (mx_up c1.1 1 7 (i3 (tkp n lim t p)), c1.2) = some (i3 (t (tkp n lim t p))) := by
      unfold FX10_signAt
      rw [if_neg (i3_ge0 (by omega)), h2.2.2.1, if_neg (by rw [i3_le (by omega) (by omega)]; omega), if_neg (by show ¬ i3 940 ≤ _; rw [i3_le (by omega) (by omega)]; omega), mx_inb_i3 (by omega) (by omega), mx_chkT, i3_toNat (by omega)]
      show some ((mx_up c1.1 1 7 (i3 (tkp n lim t p)), c1.2).1 2 (tkp n lim t p)) = _
      rw [ht]
    show hw (Option.bind (FX10_signAt 1 ((mx_up c1.1 1 7 (i3 (tkp n lim t p)), c1.2).1 1 4) (mx_up c1.1 1 7 (i3 (tkp n lim t p)), c1.2)) _) _
    rw [p2, es, ob_some]
    have chunk : isA (t (tkp n lim t p)) = true → hw (Option.bind (FX10_readChunk 1 (mx_up c1.1 1 7 (i3 (tkp n lim t p)), c1.2)) (fun r => some r)) (fun c' => TC c' (tkn n lim t p) ∧ c'.1 1 7 = i3 (tst n lim t p) ∧ c'.1 1 4 = i3 (tnx n lim t p) ∧ mx_out W1 c c') := by
      intro ha
      obtain ⟨c3, e3, T3, p3, z3'⟩ := C_readChunk h2 (by omega) ha p2
      rw [e3, ob_some]
      refine hw_some ⟨?_, ?_, ?_, mx_out.tr z2' (z3'.sub (fun b j q => by unfold W1; omega))⟩
      · unfold tkn
        rw [if_neg c0, if_pos ha]
        exact T3
      · rw [z3'.fld 1 7 (by omega), p7]
        unfold tst
        rw [if_neg c0]
      · rw [p3]
        unfold tnx
        rw [if_neg c0, if_pos ha]
    refine hw_letK (fun K14 hK14 => ?_)
    have k14 : ¬ (97 ≤ t (tkp n lim t p) ∧ t (tkp n lim t p) ≤ 122) → hw K14 (fun c' => TC c' (tkn n lim t p) ∧ c'.1 1 7 = i3 (tst n lim t p) ∧ c'.1 1 4 = i3 (tnx n lim t p) ∧ mx_out W1 c c') := by
      intro hna
      rw [hK14]
      refine hw_letK (fun K17 hK17 => ?_)
      have k17 : isA (t (tkp n lim t p)) = false → hw (K17 (mx_up c1.1 1 7 (i3 (tkp n lim t p)), c1.2)) (fun c' => TC c' (tkn n lim t p) ∧ c'.1 1 7 = i3 (tst n lim t p) ∧ c'.1 1 4 = i3 (tnx n lim t p) ∧ mx_out W1 c c') := by
        intro ha
        rw [hK17]
        dsimp only
        have p2' : mx_up c1.1 1 7 (i3 (tkp n lim t p)) 1 4 = i3 (tkp n lim t p) := p2
        rw [p2', i3_succ, mx_letI]
        have fin : ∀ (x : Int32), TC (mx_up (mx_up (mx_up c1.1 1 7 (i3 (tkp n lim t p))) 1 4 (i3 (tkp n lim t p + 1))) 1 6 x, c1.2) (tkn n lim t p) → hw (some (mx_up (mx_up (mx_up c1.1 1 7 (i3 (tkp n lim t p))) 1 4 (i3 (tkp n lim t p + 1))) 1 6 x, c1.2)) (fun c' => TC c' (tkn n lim t p) ∧ c'.1 1 7 = i3 (tst n lim t p) ∧ c'.1 1 4 = i3 (tnx n lim t p) ∧ mx_out W1 c c') := by
          intro x hx
          refine hw_some ⟨hx, ?_, ?_, mx_out_up (mx_out_up z2' rfl ⟨rfl, Or.inl rfl⟩) rfl ⟨rfl, Or.inr (Or.inl rfl)⟩⟩
          · show mx_up (mx_up (mx_up c1.1 1 7 (i3 (tkp n lim t p))) 1 4 (i3 (tkp n lim t p + 1))) 1 6 x 1 7 = _
            rw [up_at, if_neg (by omega), up_at, if_neg (by omega), up_at, if_pos rfl]
            unfold tst
            rw [if_neg c0]
          · show mx_up (mx_up (mx_up c1.1 1 7 (i3 (tkp n lim t p))) 1 4 (i3 (tkp n lim t p + 1))) 1 6 x 1 4 = _
            rw [up_at, if_neg (by omega), up_at, if_pos rfl]
            unfold tnx
            rw [if_neg c0, ha, if_neg (by decide)]
        have tg : isG (t (tkp n lim t p)) = true → TC (mx_up (mx_up (mx_up c1.1 1 7 (i3 (tkp n lim t p))) 1 4 (i3 (tkp n lim t p + 1))) 1 6 (i3 (t (tkp n lim t p))), c1.2) (tkn n lim t p) := by
          intro hg
          unfold tkn
          rw [if_neg c0, ha, if_neg (by decide), if_pos hg]
          exact Or.inr (Or.inr (Or.inr (Or.inr (Or.inr ⟨rfl, mx_up_self (mx_up (mx_up c1.1 1 7 (i3 (tkp n lim t p))) 1 4 (i3 (tkp n lim t p + 1))) 1 6 _, hg⟩))))
        have tb : isG (t (tkp n lim t p)) = false → TC (mx_up (mx_up (mx_up c1.1 1 7 (i3 (tkp n lim t p))) 1 4 (i3 (tkp n lim t p + 1))) 1 6 1, c1.2) (tkn n lim t p) := by
          intro hg
          unfold tkn
          rw [if_neg c0, ha, if_neg (by decide), hg, if_neg (by decide)]
          exact Or.inr (Or.inr (Or.inl ⟨rfl, mx_up_self (mx_up (mx_up c1.1 1 7 (i3 (tkp n lim t p))) 1 4 (i3 (tkp n lim t p + 1))) 1 6 _⟩))
        refine hw_letK (fun K20 hK20 => ?_)
        have k20 : ¬ (59 ≤ t (tkp n lim t p) ∧ t (tkp n lim t p) ≤ 62) → hw K20 (fun c' => TC c' (tkn n lim t p) ∧ c'.1 1 7 = i3 (tst n lim t p) ∧ c'.1 1 4 = i3 (tnx n lim t p) ∧ mx_out W1 c c') := by
          intro hng
          rw [hK20]
          by_cases q1 : t (tkp n lim t p) = 40
          · rw [if_pos (by rw [q1]; rfl), mx_letI]
            exact fin _ (tg (by unfold isG; rw [q1]; rfl))
          · rw [if_neg (by show ¬ _ = i3 40; rw [i3_eq (by omega) (by omega)]; exact q1)]
            by_cases q2 : t (tkp n lim t p) = 41
            · rw [if_pos (by rw [q2]; rfl), mx_letI]
              exact fin _ (tg (by unfold isG; rw [q2]; rfl))
            · rw [if_neg (by show ¬ _ = i3 41; rw [i3_eq (by omega) (by omega)]; exact q2), mx_letI]
              exact fin _ (tb (by unfold isG; simp; omega))
        by_cases q1 : t (tkp n lim t p) < 59
        · rw [if_pos (by show _ < i3 59; rw [i3_lt (by omega) (by omega)]; exact q1)]
          exact k20 (by omega)
        · rw [if_neg (by show ¬ _ < i3 59; rw [i3_lt (by omega) (by omega)]; exact q1)]
          by_cases q2 : t (tkp n lim t p) ≤ 62
          · rw [if_pos (by show _ ≤ i3 62; rw [i3_le (by omega) (by omega)]; exact q2), mx_letI]
            exact fin _ (tg (by unfold isG; simp; omega))
          · rw [if_neg (by show ¬ _ ≤ i3 62; rw [i3_le (by omega) (by omega)]; exact q2)]
            exact k20 (by omega)
      have na : ∀ {v : Nat}, ¬ ((97 ≤ v ∧ v ≤ 122) ∨ (48 ≤ v ∧ v ≤ 57)) → isA v = false := fun {v} q => by
        cases hb : isA v with
        | false => rfl
        | true => exact absurd (isA_iff.mp hb) q
      by_cases q1 : t (tkp n lim t p) < 48
      · rw [if_pos (by show _ < i3 48; rw [i3_lt (by omega) (by omega)]; exact q1)]
        exact k17 (na (by omega))
      · rw [if_neg (by show ¬ _ < i3 48; rw [i3_lt (by omega) (by omega)]; exact q1)]
        by_cases q2 : 57 < t (tkp n lim t p)
        · rw [if_pos (by show i3 57 < _; rw [i3_lt (by omega) (by omega)]; exact q2)]
          exact k17 (na (by omega))
        · rw [if_neg (by show ¬ i3 57 < _; rw [i3_lt (by omega) (by omega)]; exact q2)]
          exact chunk (isA_iff.mpr (by omega))
    by_cases q1 : t (tkp n lim t p) < 97
    · rw [if_pos (by show _ < i3 97; rw [i3_lt (by omega) (by omega)]; exact q1)]
      exact k14 (by omega)
    · rw [if_neg (by show ¬ _ < i3 97; rw [i3_lt (by omega) (by omega)]; exact q1)]
      by_cases q2 : t (tkp n lim t p) ≤ 122
      · rw [if_pos (by show _ ≤ i3 122; rw [i3_le (by omega) (by omega)]; exact q2)]
        exact chunk (isA_iff.mpr (by omega))
      · rw [if_neg (by show ¬ _ ≤ i3 122; rw [i3_le (by omega) (by omega)]; exact q2)]
        exact k14 (by omega)
end ADVB
