/-! ===== both read the same tokens ===== -/
section GON
variable {c c' d d' : mB} {n lim p : Nat} {t : Nat → Nat}
theorem M_go (h : Ty d n lim t) (hp : p ≤ n) (h5 : d.1 222 5 = i3 p) : hw (FX12_go 222 d) (fun d' => TM d' (tkn n lim t p) ∧ d'.1 222 6 = i3 (tst n lim t p) ∧ (tkp n lim t p < min n lim → d'.1 222 5 = i3 (tnx n lim t p)) ∧ mx_out W2 d d') := by
  obtain ⟨d1, e1, p1, z1⟩ := M_skip h hp h5
  obtain ⟨k1, k2, k3⟩ := skp_two (n := n) (lim := lim) (t := t) hp
  have z1' : mx_out W2 d d1 := z1.sub (fun b j q => ⟨q.1, Or.inl q.2⟩)
  have h1 : Ty d1 n lim t := Ty_mv h z1 (fun b j q => by omega)
  have hn := h1.1
  have hlim := h1.2.1
  unfold FX12_go
  rw [e1, ob_some, p1, mx_letI]
  have z2 : mx_out (fun b j => b = 222 ∧ j = 6) d1 (mx_up d1.1 222 6 (i3 (p + skp n t p)), d1.2) := mx_out_up mx_out.rf rfl ⟨rfl, rfl⟩
  have z2' : mx_out W2 d (mx_up d1.1 222 6 (i3 (p + skp n t p)), d1.2) := mx_out.tr z1' (z2.sub (fun b j q => ⟨q.1, Or.inr (Or.inl q.2)⟩))
  have h2 : Ty (mx_up d1.1 222 6 (i3 (p + skp n t p)), d1.2) n lim t := Ty_mv h1 z2 (fun b j q => by omega)
  have p2 : (mx_up d1.1 222 6 (i3 (p + skp n t p)), d1.2).1 222 5 = i3 (p + skp n t p) := by rw [z2.fld 222 5 (by omega)]; exact p1
  have p6 : (mx_up d1.1 222 6 (i3 (p + skp n t p)), d1.2).1 222 6 = i3 (p + skp n t p) := mx_up_self d1.1 222 6 _
  generalize hd2 : (mx_up d1.1 222 6 (i3 (p + skp n t p)), d1.2) = d2 at z2 z2' h2 p2 p6 ⊢
  refine hw_letK (fun K hK => ?_)
  have kk : tkp n lim t p < min n lim ∨ n ≤ lim → hw (K d2) (fun d' => TM d' (tkn n lim t p) ∧ d'.1 222 6 = i3 (tst n lim t p) ∧ (tkp n lim t p < min n lim → d'.1 222 5 = i3 (tnx n lim t p)) ∧ mx_out W2 d d') := by
    intro hor
    rw [hK]
    dsimp only
    rw [p2, h2.2.2.1]
    by_cases c0 : tkp n lim t p < min n lim
    · have ep := k1 c0
      rw [ep] at p2 p6 ⊢
      obtain ⟨hv, ht⟩ := h2.2.2.2.2 (tkp n lim t p) (by omega)
      have ht' : d2.1 (222 + 1) (tkp n lim t p) = i3 (t (tkp n lim t p)) := ht
      have c0' : ¬ min n lim ≤ tkp n lim t p := by omega
      rw [if_pos (by rw [i3_lt (by omega) (by omega)]; omega), mx_inb_i3 (by omega) (by omega), mx_chkT, i3_toNat (by omega), ht', mx_letI, M_isLetter hv, ob_some]
      refine hw_letK (fun J hJ => ?_)
      have jj : isA (t (tkp n lim t p)) = true → hw (J d2) (fun d' => TM d' (tkn n lim t p) ∧ d'.1 222 6 = i3 (tst n lim t p) ∧ (tkp n lim t p < min n lim → d'.1 222 5 = i3 (tnx n lim t p)) ∧ mx_out W2 d d') := by
        intro ha
        rw [hJ]
        dsimp only
        rw [M_isLetter hv, ob_some, mx_letI, mx_letI]
        have z3' : mx_out (fun b j => b = 222 ∧ (j = 12 ∨ j = 8)) d2 (mx_up d2.1 222 8 0, mx_ul d2.2 222 12 0) := mx_out_up (m1 := (d2.1, mx_ul d2.2 222 12 0)) (mx_out_ul mx_out.rf rfl ⟨rfl, Or.inl rfl⟩) rfl ⟨rfl, Or.inr rfl⟩
        obtain ⟨d4, e4, q5, q8, q12, z4⟩ := M_go_L215 (d := (mx_up d2.1 222 8 0, mx_ul d2.2 222 12 0)) (p := tkp n lim t p) (Ty_mv h2 z3' (fun b j q => by omega)) (by omega) (by rw [z3'.fld 222 5 (by omega)]; exact p2) (by rw [z3'.fld 222 6 (by omega)]; exact p6) (mx_up_self d2.1 222 8 0) (by show mx_ul d2.2 222 12 0 222 12 = 0; simp [mx_ul])
        rw [e4, ob_some]
        dsimp only
        have q6 : d4.1 222 6 = i3 (tkp n lim t p) := by rw [z4.fld 222 6 (by omega), z3'.fld 222 6 (by omega)]; exact p6
        have hL := chn_pos (t := t) (n := n) (p := tkp n lim t p) (by omega) ha
        have hb := (chn_ok (t := t) (n := n) (p := tkp n lim t p) (by omega)).1
        have hs := nl_nd t (tkp n lim t p) (chn n t (tkp n lim t p))
        have ek : i3 (tkp n lim t p + chn n t (tkp n lim t p)) - i3 (tkp n lim t p) = i3 (chn n t (tkp n lim t p)) := by
          rw [i3_sub (by omega)]
          congr 1
          omega
        have z5 : mx_out W2 d d4 := mx_out.tr z2' (mx_out.tr (z3'.sub (fun b j q => by unfold W2; omega)) (z4.sub (fun b j q => by unfold W2; omega)))
        have fin : ∀ x : Int32, (x = 1 ∧ ckt n t (tkp n lim t p) = (2, [], 0) ∨ x = 2 ∧ nd t (tkp n lim t p) (chn n t (tkp n lim t p)) = 0 ∧ chn n t (tkp n lim t p) ≤ 7 ∨ x = 3 ∧ nl t (tkp n lim t p) (chn n t (tkp n lim t p)) = 0 ∧ chn n t (tkp n lim t p) ≤ 3) → hw (some (mx_up d4.1 222 7 x, d4.2)) (fun d' => TM d' (tkn n lim t p) ∧ d'.1 222 6 = i3 (tst n lim t p) ∧ (tkp n lim t p < min n lim → d'.1 222 5 = i3 (tnx n lim t p)) ∧ mx_out W2 d d') := by
          intro x hx
          have x7 : (mx_up d4.1 222 7 x, d4.2).1 222 7 = x := mx_up_self d4.1 222 7 x
          refine hw_some ⟨?_, ?_, fun _ => ?_, mx_out_up z5 rfl ⟨rfl, by omega⟩⟩
          · unfold tkn
            rw [if_neg c0', if_pos ha]
            rcases hx with ⟨w1, w2⟩ | ⟨w1, w2, w3⟩ | ⟨w1, w2, w3⟩
            · rw [w2]
              exact Or.inr (Or.inr (Or.inl ⟨rfl, x7.trans w1⟩))
            · have hlet := chn_let (t := t) (n := n) (p := tkp n lim t p) (by omega) w2
              unfold ckt
              rw [if_pos ⟨w2, w3⟩]
              refine Or.inr (Or.inr (Or.inr (Or.inl ⟨rfl, wrd_ok hL w3 hlet, ?_, x7.trans w1⟩)))
              show d4.2 222 12 = _
              rw [q12, f27_w _ w3 hlet]
            · have hdig := chn_dig (t := t) (n := n) (p := tkp n lim t p) (by omega) w2
              obtain ⟨u1, v, v1, v2⟩ := fM_N (t := t) (p := tkp n lim t p) (chn n t (tkp n lim t p)) w3 hdig
              have v3 : 10 ^ chn n t (tkp n lim t p) ≤ 10 ^ 3 := Nat.pow_le_pow_right (by omega) w3
              unfold ckt
              rw [if_neg (by omega), if_pos ⟨w2, w3⟩]
              refine Or.inr (Or.inr (Or.inr (Or.inr (Or.inl ⟨rfl, x7.trans w1, ?_, ?_⟩))))
              · show mx_up d4.1 222 7 x 222 8 = _
                rw [up_at, if_neg (by omega), q8, u1]
                dsimp only
                rw [v2, i3_toNat (by omega)]
              · dsimp only
                rw [v2, i3_toNat (by omega)]
                omega
          · show mx_up d4.1 222 7 x 222 6 = _
            rw [up_at, if_neg (by omega), q6]
            unfold tst
            rw [if_neg c0']
          · show mx_up d4.1 222 7 x 222 5 = _
            rw [up_at, if_neg (by omega), q5]
            unfold tnx
            rw [if_neg c0', if_pos ha]
        rw [q5, q6, ek]
        have hg := gdb_iff t (tkp n lim t p) (chn n t (tkp n lim t p))
        have h0L : isL (t (tkp n lim t p)) = true → nl t (tkp n lim t p) (chn n t (tkp n lim t p)) ≠ 0 := fun q w => by
          have := cnt_0 w 0 hL
          rw [Nat.add_zero, q] at this; cases this
        have h0D : isL (t (tkp n lim t p)) = false → nd t (tkp n lim t p) (chn n t (tkp n lim t p)) ≠ 0 := fun q w => by
          have := cnt_0 w 0 hL
          rw [Nat.add_zero, q] at this; cases this
        cases cg : gdb t (tkp n lim t p) (chn n t (tkp n lim t p)) with
        | false =>
          rw [if_pos (show b2 false = 0 from rfl), mx_letI]
          refine fin 1 (Or.inl ⟨rfl, ?_⟩)
          rw [cg] at hg
          unfold ckt
          cases cl : isL (t (tkp n lim t p)) with
          | true =>
            have w1 := h0L cl
            have w2 : nd t (tkp n lim t p) (chn n t (tkp n lim t p)) ≠ 0 := fun w => by
              have := hg.mpr ⟨fun _ => w, fun q => by rw [cl] at q; cases q⟩
              cases this
            rw [if_neg (by omega), if_neg (by omega)]
          | false =>
            have w1 := h0D cl
            have w2 : nl t (tkp n lim t p) (chn n t (tkp n lim t p)) ≠ 0 := fun w => by
              have := hg.mpr ⟨fun q => absurd (cl.symm.trans q) (by decide), fun _ => w⟩
              cases this
            rw [if_neg (by omega), if_neg (by omega)]
        | true =>
          rw [if_neg (show ¬ b2 true = 0 by decide)]
          have hg' := hg.mp cg
          cases cl : isL (t (tkp n lim t p)) with
          | false =>
            have w1 := h0D cl
            have w2 := hg'.2 cl
            rw [if_pos (show b2 false = 0 from rfl)]
            by_cases c3 : chn n t (tkp n lim t p) ≤ 3
            · rw [if_pos (by show _ ≤ i3 3; rw [i3_le (by omega) (by omega)]; exact c3), if_pos (show b2 false = 0 from rfl), mx_letI]
              exact fin 3 (Or.inr (Or.inr ⟨rfl, w2, c3⟩))
            · rw [if_neg (by show ¬ _ ≤ i3 3; rw [i3_le (by omega) (by omega)]; exact c3), mx_letI]
              exact fin 1 (Or.inl ⟨rfl, by unfold ckt; rw [if_neg (by omega), if_neg (by omega)]⟩)
          | true =>
            have w1 := h0L cl
            have w2 := hg'.1 cl
            rw [if_neg (show ¬ b2 true = 0 by decide)]
            by_cases c3 : chn n t (tkp n lim t p) ≤ 7
            · rw [if_pos (by show _ ≤ i3 7; rw [i3_le (by omega) (by omega)]; exact c3), if_neg (show ¬ b2 true = 0 by decide), mx_letI]
              exact fin 2 (Or.inr (Or.inl ⟨rfl, w2, c3⟩))
            · rw [if_neg (by show ¬ _ ≤ i3 7; rw [i3_le (by omega) (by omega)]; exact c3), mx_letI]
              exact fin 1 (Or.inl ⟨rfl, by unfold ckt; rw [if_neg (by omega), if_neg (by omega)]⟩)
      cases cl : isL (t (tkp n lim t p)) with
      | true =>
        rw [if_neg (show ¬ b2 true = 0 by decide)]
        exact jj (by unfold isA; rw [cl]; rfl)
      | false =>
        rw [if_pos (show b2 false = 0 from rfl), M_isDigit hv, ob_some]
        cases cd : isD (t (tkp n lim t p)) with
        | true =>
          rw [if_neg (show ¬ b2 true = 0 by decide)]
          exact jj (by unfold isA; rw [cd, Bool.or_true])
        | false =>
          rw [if_pos (show b2 false = 0 from rfl)]
          have ha : isA (t (tkp n lim t p)) = false := by unfold isA; rw [cl, cd]; rfl
          have fin : ∀ x : Int32, (x = 4 ∧ isG (t (tkp n lim t p)) = true ∨ x = 1 ∧ isG (t (tkp n lim t p)) = false) → hw (some (mx_up (mx_up (mx_up d2.1 222 7 x) 222 9 (i3 (t (tkp n lim t p)))) 222 5 (i3 (tkp n lim t p) + 1), d2.2)) (fun d' => TM d' (tkn n lim t p) ∧ d'.1 222 6 = i3 (tst n lim t p) ∧ (tkp n lim t p < min n lim → d'.1 222 5 = i3 (tnx n lim t p)) ∧ mx_out W2 d d') := by
            intro x hx
            refine hw_some ⟨?_, ?_, fun _ => ?_, mx_out_up (mx_out_up (mx_out_up z2' rfl ⟨rfl, by omega⟩) rfl ⟨rfl, by omega⟩) rfl ⟨rfl, by omega⟩⟩
            · have x7 : mx_up (mx_up (mx_up d2.1 222 7 x) 222 9 (i3 (t (tkp n lim t p)))) 222 5 (i3 (tkp n lim t p) + 1) 222 7 = x := by
                rw [up_at, if_neg (by omega), up_at, if_neg (by omega), up_at, if_pos rfl]
              have x9 : mx_up (mx_up (mx_up d2.1 222 7 x) 222 9 (i3 (t (tkp n lim t p)))) 222 5 (i3 (tkp n lim t p) + 1) 222 9 = i3 (t (tkp n lim t p)) := by
                rw [up_at, if_neg (by omega), up_at, if_pos rfl]
              unfold tkn
              rw [if_neg c0', ha, if_neg (by decide)]
              rcases hx with ⟨w1, w2⟩ | ⟨w1, w2⟩
              · rw [if_pos w2]
                exact Or.inr (Or.inr (Or.inr (Or.inr (Or.inr ⟨rfl, x7.trans w1, x9, w2⟩))))
              · rw [w2, if_neg (by decide)]
                exact Or.inr (Or.inr (Or.inl ⟨rfl, x7.trans w1⟩))
            · show mx_up (mx_up (mx_up d2.1 222 7 x) 222 9 (i3 (t (tkp n lim t p)))) 222 5 (i3 (tkp n lim t p) + 1) 222 6 = _
              rw [up_at, if_neg (by omega), up_at, if_neg (by omega), up_at, if_neg (by omega), p6]
              unfold tst
              rw [if_neg c0']
            · refine (mx_up_self (mx_up (mx_up d2.1 222 7 x) 222 9 (i3 (t (tkp n lim t p)))) 222 5 (i3 (tkp n lim t p) + 1)).trans ?_
              unfold tnx
              rw [if_neg c0', ha, if_neg (by decide), i3_succ]
          have f5 : ∀ x : Int32, mx_up (mx_up d2.1 222 7 x) 222 9 (i3 (t (tkp n lim t p))) 222 5 = i3 (tkp n lim t p) := fun x => by
            rw [up_at, if_neg (by omega), up_at, if_neg (by omega)]; exact p2
          refine hw_letK (fun J2 hJ2 => ?_)
          have j2 : isG (t (tkp n lim t p)) = true → hw J2 (fun d' => TM d' (tkn n lim t p) ∧ d'.1 222 6 = i3 (tst n lim t p) ∧ (tkp n lim t p < min n lim → d'.1 222 5 = i3 (tnx n lim t p)) ∧ mx_out W2 d d') := by
            intro hg
            rw [hJ2, mx_letI, mx_letI, mx_letI]
            dsimp only
            rw [f5]
            exact fin 4 (Or.inl ⟨rfl, hg⟩)
          by_cases g1 : t (tkp n lim t p) = 59
          · rw [if_pos (by rw [g1]; rfl)]
            exact j2 (by unfold isG; rw [g1]; rfl)
          · rw [if_neg (by show ¬ _ = i3 59; rw [i3_eq (by omega) (by omega)]; exact g1)]
            by_cases g2 : t (tkp n lim t p) = 60
            · rw [if_pos (by rw [g2]; rfl)]
              exact j2 (by unfold isG; rw [g2]; rfl)
            · rw [if_neg (by show ¬ _ = i3 60; rw [i3_eq (by omega) (by omega)]; exact g2)]
              by_cases g3 : t (tkp n lim t p) = 61
              · rw [if_pos (by rw [g3]; rfl)]
                exact j2 (by unfold isG; rw [g3]; rfl)
              · rw [if_neg (by show ¬ _ = i3 61; rw [i3_eq (by omega) (by omega)]; exact g3)]
                by_cases g4 : t (tkp n lim t p) = 62
                · rw [if_pos (by rw [g4]; rfl)]
                  exact j2 (by unfold isG; rw [g4]; rfl)
                · rw [if_neg (by show ¬ _ = i3 62; rw [i3_eq (by omega) (by omega)]; exact g4)]
                  by_cases g5 : t (tkp n lim t p) = 40
                  · rw [if_pos (by rw [g5]; rfl)]
                    exact j2 (by unfold isG; rw [g5]; rfl)
                  · rw [if_neg (by show ¬ _ = i3 40; rw [i3_eq (by omega) (by omega)]; exact g5)]
                    by_cases g6 : t (tkp n lim t p) = 41
                    · rw [if_pos (by rw [g6]; rfl)]
                      exact j2 (by unfold isG; rw [g6]; rfl)
                    · rw [if_neg (by show ¬ _ = i3 41; rw [i3_eq (by omega) (by omega)]; exact g6), mx_letI, mx_letI, mx_letI]
                      dsimp only
                      rw [f5]
                      exact fin 1 (Or.inr ⟨rfl, by unfold isG; simp; omega⟩)
    · have hle := hor.resolve_left c0
      have c0' : min n lim ≤ tkp n lim t p := by omega
      have := k2 c0'
      have ep : p + skp n t p = n := by omega
      rw [ep] at p6 ⊢
      rw [if_neg (by rw [i3_lt (by omega) (by omega)]; omega), mx_letI]
      refine hw_some ⟨?_, ?_, fun q => absurd q c0, mx_out_up z2' rfl ⟨rfl, by omega⟩⟩
      · unfold tkn
        rw [if_pos c0', if_neg (by omega)]
        exact Or.inl ⟨rfl, mx_up_self d2.1 222 7 0⟩
      · show mx_up d2.1 222 7 0 222 6 = _
        rw [up_at, if_neg (by omega), p6]
        unfold tst
        rw [if_pos c0']
        congr 1
        omega
  rw [h2.2.2.1, h2.2.2.2.1]
  by_cases c1 : n ≤ lim
  · rw [if_pos (by rw [i3_le (by omega) (by omega)]; exact c1)]
    exact kk (Or.inr c1)
  · rw [if_neg (by rw [i3_le (by omega) (by omega)]; exact c1), p6]
    by_cases c0 : tkp n lim t p < min n lim
    · have ep := k1 c0
      rw [if_pos (by rw [ep, i3_lt (by omega) (by omega)]; omega)]
      exact kk (Or.inl c0)
    · have c0' : min n lim ≤ tkp n lim t p := by omega
      have := k2 c0'
      rw [if_neg (by rw [i3_lt (by omega) (by omega)]; omega), mx_letI, mx_letI]
      refine hw_some ⟨?_, ?_, fun q => absurd q c0, mx_out_up (mx_out_up z2' rfl ⟨rfl, by omega⟩) rfl ⟨rfl, by omega⟩⟩
      · unfold tkn
        rw [if_pos c0', if_pos (by omega)]
        exact Or.inr (Or.inl ⟨rfl, mx_up_self (mx_up d2.1 222 6 (i3 lim)) 222 7 1⟩)
      · show mx_up (mx_up d2.1 222 6 (i3 lim)) 222 7 1 222 6 = _
        rw [up_at, if_neg (by omega), up_at, if_pos rfl]
        unfold tst
        rw [if_pos c0']
        congr 1
        omega
end GON
