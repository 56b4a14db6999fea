/-! ===== a network's lines ===== -/
section NPARE
variable {c c' d d' : mB} {n lim p : Nat} {t : Nat → Nat}
theorem stN_2 {R : Rw} (v : Int32) (x : Nat) : stN (ud R 2 v) x = ud (ud (stN R) 125 v) 2 v x := by
  by_cases q : x = 2
  · rw [q, ud_self, stN_lo _ (by omega), ud_self]
  · rw [ud_ne _ _ q]
    by_cases q2 : x = 125
    · rw [q2, ud_self, stN_125, ud_self]
    · rw [ud_ne _ _ q2]
      unfold stN
      by_cases q1 : x < 125
      · rw [if_pos q1, if_pos q1, ud_ne _ _ q]
      · rw [if_neg q1, if_neg q1, if_neg q2, if_neg q2]
        by_cases q3 : x < 128
        · rw [if_pos q3, if_pos q3]
        · rw [if_neg q3, if_neg q3, ud_ne _ _ (by omega)]
/-- a crown beyond the last set is of no matter -/
theorem Nt_cr {a : Nat} {N : Rw} (h : Nt c a N) (hk : nK N < 6) (v : Int32) : Nt c a (ud N (184 + nK N) v) := by
  have h' := h
  obtain ⟨g, s, h1, h2⟩ := h
  have hn := g.1.2
  have hL := g.2.1.2
  have off : ∀ j, j ≠ 184 + nK N → ud N (184 + nK N) v j = N j := fun j q => ud_ne _ _ q
  have eK : nK (ud N (184 + nK N) v) = nK N := by
    show (ud N (184 + nK N) v 125).toNatClampNeg = _
    rw [off 125 (by omega)]; rfl
  refine Nt_mk h' (SI_mk g s (fun j hj => off j (by omega)) ?_ ?_ ?_ ?_ ?_) (fun j hj => off j (by omega)) rfl rfl rfl rfl rfl rfl ?_ ?_ ?_ ?_
  · rw [eK, off 125 (by omega)]; exact s.1
  · intro l hl; rw [off _ (by omega)]; exact s.2.1 l hl
  · intro p hp
    rw [off _ (by omega)]
    rcases prt s hp with q | ⟨q, q1, q2, q3, q4⟩
    · exact Or.inl q
    · exact Or.inr ⟨q, q1, q2, by rw [off _ (by omega)]; exact q3, q4⟩
  · intro p hp; rw [off _ (by omega)]; exact s.2.2.2.1 p hp
  · intro k hk2; rw [eK] at hk2; rw [off _ (by omega), off _ (by omega)]; exact s.2.2.2.2 k hk2
  · intro l hl; rw [off _ (by omega)]; exact (h1.2.2.1 l hl).2.2
  · rw [off _ (by omega), off _ (by omega), off _ (by omega)]; exact h2.1
  · intro p hp; rw [off _ (by omega), off _ (by omega)]; exact h2.2.1 p hp
  · intro k hk2; rw [eK] at hk2; rw [off _ (by omega), off _ (by omega)]; exact h2.2.2 k hk2
/-- a line that the class takes for read, and that fails at its end -/
def LX (n lim : Nat) (t : Nat → Nat) (p : Nat) (r s : Int32 × mB) : Prop := LQ n lim t p r s ∨ (r.1 = 1 ∧ s.1 = 0 ∧ ∃ c2, FX10_take 1 59 r.2 = some (0, c2) ∧ FL c2 s.2)
theorem L_odd (h : PR c d n lim t p) (hnp : NP c d) (hl : tkp n lim t p < min n lim) (h7 : d.1 222 7 = 2) : hb (if 6 ≤ c.1 27 2 then Option.bind (FX10_fail 1 4 c) (fun r5 => mx_chk (mx_b01 r5.1) (some (r5.1, r5.2))) else Option.bind (FX5_readSet 26 1 c) (fun r7 => mx_chk (mx_b01 r7.1) (some (r7.1, r7.2)))) (Option.bind (FX12_readOdd 222 d) (fun r => mx_chk (mx_b01 r.1) (some (r.1, r.2)))) (LX n lim t p) := by
  have hS := hnp.1.2.1
  have h6 := hS.1.2
  have cL : c.1 27 2 = i3 (nK (stN (d.1 225))) := by rw [hnp.1.2.2.2.1.1, hS.1.1]
  have dL : d.1 225 2 = i3 (nK (stN (d.1 225))) := by
    have := hS.1.1
    rw [stN_125] at this
    exact this
  unfold FX12_readOdd FX12_readFirst
  have dL' : d.1 (222 + 3) (Int32.toNatClampNeg 2) = i3 (nK (stN (d.1 225))) := dL
  rw [cL, show mx_inb (2 : Int32) 125 = true by decide, mx_chkT, dL']
  by_cases c6 : nK (stN (d.1 225)) = 6
  · rw [c6, if_pos (by decide), if_pos (by decide)]
    obtain ⟨c1, d1, f1, f2, q⟩ := PR_no h (x := 4) (fun q => by rw [h7] at q; exact absurd q (by decide))
    rw [f1, f2, ob_some, ob_some]
    exact hb_some (Or.inl (Or.inr ⟨rfl, rfl, q.1⟩))
  · have hk6 : nK (stN (d.1 225)) < 6 := by omega
    rw [if_neg (by show ¬ i3 6 ≤ _; rw [i3_le (by omega) (by omega)]; omega), if_neg (by show ¬ _ = i3 6; rw [i3_eq (by omega) (by omega)]; exact c6)]
    obtain ⟨c1, d1, f1, f2, r1, r2, r3, r4⟩ := PR_go h hl
    have hn1 := NP_U hnp r3 r4
    have eR1 : d1.1 225 = d.1 225 := r4.cell 225 (fun j => by unfold U2; omega)
    unfold FX5_readSet
    rw [f1, f2, ob_some, ob_some, ob_some]
    dsimp only
    have dL2 : d1.1 (222 + 3) 2 = i3 (nK (stN (d.1 225))) := by show d1.1 225 2 = _; rw [eR1]; exact dL
    rw [if_neg (show ¬ (1 : Int32) = 0 by decide), mx_letI, dL2]
    obtain ⟨⟨x3, y3⟩, ⟨x4, y4⟩, k1, k2, hp2⟩ := PR_num r1 (a := 0) (b := 400) (by omega) (by omega)
    show hb (Option.bind (Option.bind (FX10_takeNumber 1 (i3 0) (i3 400) c1) _) _) (Option.bind (Option.bind (FX12_readNumber 222 (i3 0) (i3 400) d1) _) _) _
    rw [k1, k2, ob_some, ob_some]
    dsimp only
    unfold FX12_noted
    rcases hp2 with ⟨w, p', w1, w2, w3, w4, w5, w6, w7, w8, w9⟩ | ⟨u1, u2, u3⟩
    · dsimp only at w3 w4 w5 w6 w7 w8 w9
      subst w3 w4
      have nw : ¬ i3 w = -1 := fun q => (i3_ne1 (a := w) (by omega)).mp q
      have eR4 : y4.1 225 = d.1 225 := by rw [w9.cell 225 (fun j => by unfold U2; omega)]; exact eR1
      rw [if_neg nw, if_neg (show ¬ (1 : Int32) = 0 by decide), i3_Ladd, mx_inb_i3 (by omega) (by omega), mx_chkT, i3_toNat (by omega), mx_letI, w5]
      show hb _ (Option.bind (Option.bind (some ((1 : Int32), (mx_up y4.1 225 (119 + nK (stN (d.1 225))) (i3 w), y4.2))) _) _) _
      rw [ob_some]
      dsimp only
      rw [if_neg (show ¬ (1 : Int32) = 0 by decide)]
      have hn4 := NP_U hn1 w8 w9
      have z4 : mx_out (fun b _ => b = 225) y4 (mx_up y4.1 225 (119 + nK (stN (d.1 225))) (i3 w), y4.2) := mx_out_up mx_out.rf rfl rfl
      have eR5 : (mx_up y4.1 225 (119 + nK (stN (d.1 225))) (i3 w), y4.2).1 225 = ud (d.1 225) (119 + nK (stN (d.1 225))) (i3 w) := by
        show mx_up y4.1 225 (119 + nK (stN (d.1 225))) (i3 w) 225 = _
        rw [up_ud, eR4]
      have eNc : ∀ x, x < 63 ∨ (125 ≤ x ∧ x < 190) → stN (ud (d.1 225) (119 + nK (stN (d.1 225))) (i3 w)) x = ud (stN (d.1 225)) (184 + nK (stN (d.1 225))) (i3 w) x := by
        intro x hx
        rcases hx with hx | hx
        · rw [stN_h0 (by omega) _ hx, ud_ne _ _ (by omega)]
        · rw [stN_h (by omega) (by omega) _ hx.1, show 119 + nK (stN (d.1 225)) + 65 = 184 + nK (stN (d.1 225)) by omega]
      have ePc : nP (stN (ud (d.1 225) (119 + nK (stN (d.1 225))) (i3 w))) = nP (stN (d.1 225)) := by
        unfold nP
        rw [stN_h0 (by omega) _ (by omega)]
      have eKc : nK (stN (ud (d.1 225) (119 + nK (stN (d.1 225))) (i3 w))) = nK (stN (d.1 225)) := by
        show (stN (ud (d.1 225) (119 + nK (stN (d.1 225))) (i3 w)) 125).toNatClampNeg = (stN (d.1 225) 125).toNatClampNeg
        rw [eNc 125 (by omega), ud_ne _ _ (by omega)]
      have hn5 : NP y3 (mx_up y4.1 225 (119 + nK (stN (d.1 225))) (i3 w), y4.2) := by
        obtain ⟨p1, p2, p3, p4, p5⟩ := hn4
        rw [eR4] at p1 p2 p4 p5
        unfold NP
        rw [eR5, ePc]
        refine ⟨Nt_congr (Nt_cr p1 hk6 (i3 w)) (fun x hx => eNc x (by omega)) (fun x h1 h2 => eNc x (by omega)), fun k hk2 => ?_, fun k hk2 => ?_, fun k h1 h2 => ?_, p5⟩
        · rw [z4.cellL 231 (fun j => by omega)]; exact p2 k hk2
        · rw [z4.cell 234 (fun j => by omega)]; exact p3 k hk2
        · rw [ud_ne _ _ (by omega), ud_ne _ _ (by omega)]; exact p4 k h1 h2
      have s5 : PR y3 (mx_up y4.1 225 (119 + nK (stN (d.1 225))) (i3 w), y4.2) n lim t p' := PR_mv w6 (S := fun _ _ => False) mx_out.rf z4 (fun b j q => q.elim) (fun b j q => by omega)
      obtain ⟨rr, ss, g1, g2, hq⟩ := L_set (i3 w) (i3 (nK (stN (d.1 225)))) mx_FU (x := 0) (many := 0) s5 hn5 (by omega) (FU_lt (by omega)) (Nat.two_pow_pos _) (by decide)
      show hb (Option.bind (Option.bind (FX5_readSet_L25 26 1 (i3 w) mx_FU (i3 0) (i3 0) y3) _) _) (Option.bind (Option.bind (FX12_readOdd_L44 222 (i3 (nK (stN (d.1 225)))) mx_FU (i3 0) (i3 0) (mx_up y4.1 225 (119 + nK (stN (d.1 225))) (i3 w), y4.2)) _) _) _
      rw [g1, g2, ob_some, ob_some]
      rcases hq with ⟨x', m', p2, c6', d6, e1, e2, t1, t2, t3, t4, t5, t6, t7, t8, t9⟩ | ⟨ca, da, e1, e2, q⟩ | ⟨ca, da, x', m', e1, e2, t1, ⟨d2, t2, t3⟩, t4⟩
      · subst e1 e2
        rw [se_inr, se_inr]
        dsimp only
        unfold FX10_kind
        rw [ob_some]
        have eR6 : d6.1 225 = ud (d.1 225) (119 + nK (stN (d.1 225))) (i3 w) := by rw [t8]; exact eR5
        rw [eR6] at t4
        have hN6 := t3.1
        rw [eR6] at hN6
        have hadd : pc x' % 2 = 1 → ∃ c7, FX4_addSet 27 (i3 x') (i3 w) c6' = some c7 ∧ Nt c7 27 (aS (stN (ud (d.1 225) (119 + nK (stN (d.1 225))) (i3 w))) (i3 x') w) ∧ c7.2 = c6'.2 ∧ c7.1 (27 + 8) = c6'.1 (27 + 8) := fun ho => C_addSetB hN6 (by rw [eKc]; exact hk6) t4 ho (by omega)
        rcases t9 with ⟨k6, ko⟩ | ⟨k6, ko⟩
        · rw [if_pos k6]
          have sg : FX12_isSign 222 59 d6 = some 1 := by
            rcases PR_isSign t1 (x := 59) (by decide) with ⟨-, q, -⟩ | ⟨q, -⟩
            · exact q
            · exact absurd k6 q
          rw [sg, ob_some, if_neg (show ¬ (1 : Int32) = 0 by decide)]
          have hev : ¬ (i3 m' - i3 m' / 2 * 2) = 0 := by
            have := (odd_i3 (k := m') (by omega)).mpr ko
            rw [this]; decide
          rw [if_neg hev]
          show hb (Option.bind (Option.bind (FX4_setOf 27 (i3 x') c6') _) _) (Option.bind (Option.bind (FX12_isOddIn 222 225 125 (i3 113) (i3 (nK (stN (d.1 225)))) (i3 x') d6) _) _) _
          rw [C_setOf hN6.2.1 hN6.2.2.2, M_isOddIn eR6 (by omega) (by omega), ob_some, ob_some]
          have eff : ff (fun k => decide (ud (d.1 225) (119 + nK (stN (d.1 225))) (i3 w) (113 + k) = i3 x')) (nK (stN (d.1 225))) = fset (stN (ud (d.1 225) (119 + nK (stN (d.1 225))) (i3 w))) (i3 x') := by
            unfold fset
            rw [eKc]
            refine ff_congr (fun k hk2 => ?_)
            rw [stN_hi _ (by omega) (by omega), show 178 + k - 65 = 113 + k by omega]
          rw [eff]
          cases ef : fset (stN (ud (d.1 225) (119 + nK (stN (d.1 225))) (i3 w))) (i3 x') with
          | some k =>
            have hkk := (ff_some.mp ef).1
            rw [eKc] at hkk
            rw [if_neg (show ¬ oi (some k) = -1 from fun q => (i3_ne1 (a := k) (by omega)).mp q), if_neg (show ¬ b2 (some k).isSome = 0 by show ¬ b2 true = 0; decide)]
            obtain ⟨ca, da, m1, m2, q⟩ := PR_no t1 (x := 3) (fun q => by
              rcases PR_isSign t1 (x := 59) (by decide) with ⟨-, -, -, w7, -⟩ | ⟨w7, -⟩
              · rw [w7] at q; exact absurd q (by decide)
              · exact absurd k6 w7)
            rw [m1, m2, ob_some, ob_some]
            exact hb_some (Or.inl (Or.inr ⟨rfl, rfl, q.1⟩))
          | none =>
            obtain ⟨c7, n1, n2, n3, n4⟩ := hadd (by rw [t5]; exact ko)
            rw [if_pos (show oi none = -1 from rfl), if_pos (show b2 (none : Option Nat).isSome = 0 from rfl)]
            show hb (Option.bind (Option.bind (FX4_addSet 27 (i3 x') (i3 w) c6') _) _) _ _
            rw [n1, ob_some, ob_some, i3_Ladd, mx_inb_i3 (by omega) (by omega), mx_chkT, i3_toNat (by omega), mx_letI, mx_letI]
            have e2K : mx_up d6.1 (222 + 3) (113 + nK (stN (d.1 225))) (i3 x') (222 + 3) 2 = i3 (nK (stN (d.1 225))) := by
              show mx_up d6.1 225 (113 + nK (stN (d.1 225))) (i3 x') 225 2 = _
              rw [up_at, if_neg (by omega), eR6, ud_ne _ _ (by omega)]; exact dL
            show hb _ (Option.bind (some ((1 : Int32), (mx_up (mx_up d6.1 225 (113 + nK (stN (d.1 225))) (i3 x')) 225 2 (mx_up d6.1 (222 + 3) (113 + nK (stN (d.1 225))) (i3 x') (222 + 3) 2 + 1), d6.2))) _) _
            rw [e2K, i3_succ, ob_some]
            have z7 := ZX4_addSet n1
            have z8 : mx_out (fun b _ => b = 225) d6 (mx_up (mx_up d6.1 225 (113 + nK (stN (d.1 225))) (i3 x')) 225 2 (i3 (nK (stN (d.1 225)) + 1)), d6.2) := mx_out_up (mx_out_up mx_out.rf rfl rfl) rfl rfl
            refine hb_some (Or.inl (Or.inl ⟨p2, rfl, rfl, PR_mv t1 z7 z8 (fun b j q => by unfold WSX4_addSet at q; omega) (fun b j q => by omega), by omega, ?_⟩))
            show NP c7 (mx_up (mx_up d6.1 225 (113 + nK (stN (d.1 225))) (i3 x')) 225 2 (i3 (nK (stN (d.1 225)) + 1)), d6.2)
            have eR8 : (mx_up (mx_up d6.1 225 (113 + nK (stN (d.1 225))) (i3 x')) 225 2 (i3 (nK (stN (d.1 225)) + 1)), d6.2).1 225 = ud (ud (ud (d.1 225) (119 + nK (stN (d.1 225))) (i3 w)) (113 + nK (stN (d.1 225))) (i3 x')) 2 (i3 (nK (stN (d.1 225)) + 1)) := by
              show mx_up (mx_up d6.1 225 (113 + nK (stN (d.1 225))) (i3 x')) 225 2 (i3 (nK (stN (d.1 225)) + 1)) 225 = _
              rw [up_ud, up_ud, eR6]
            have eA : ∀ x, x < 63 ∨ (125 ≤ x ∧ x < 190) → stN (ud (ud (ud (d.1 225) (119 + nK (stN (d.1 225))) (i3 w)) (113 + nK (stN (d.1 225))) (i3 x')) 2 (i3 (nK (stN (d.1 225)) + 1))) x = ud (aS (stN (ud (d.1 225) (119 + nK (stN (d.1 225))) (i3 w))) (i3 x') w) 2 (i3 (nK (stN (d.1 225)) + 1)) x := by
              intro x hx
              rw [stN_2]
              by_cases x2 : x = 2
              · rw [x2, ud_self, ud_self]
              · rw [ud_ne _ _ x2, ud_ne _ _ x2]
                unfold aS
                rw [eKc]
                by_cases x125 : x = 125
                · rw [x125, ud_self, ud_self]
                · rw [ud_ne _ _ x125, ud_ne _ _ x125]
                  rcases hx with hx | hx
                  · rw [stN_h0 (by omega) _ hx, ud_ne _ _ (by omega), ud_ne _ _ (by omega)]
                  · rw [stN_h (by omega) (by omega) _ hx.1, show 113 + nK (stN (d.1 225)) + 65 = 178 + nK (stN (d.1 225)) by omega]
                    by_cases x4 : x = 184 + nK (stN (d.1 225))
                    · rw [x4, ud_self, ud_ne _ _ (by omega), eNc _ (by omega), ud_self]
                    · rw [ud_ne _ _ x4]
            have ePn : nP (stN (ud (ud (ud (d.1 225) (119 + nK (stN (d.1 225))) (i3 w)) (113 + nK (stN (d.1 225))) (i3 x')) 2 (i3 (nK (stN (d.1 225)) + 1)))) = nP (stN (d.1 225)) := by
              show (stN _ 0).toNatClampNeg = (stN (d.1 225) 0).toNatClampNeg
              rw [eA 0 (by omega), ud_ne _ _ (by omega)]
              unfold aS
              rw [eKc, ud_ne _ _ (by omega), ud_ne _ _ (by omega), ud_ne _ _ (by omega), stN_h0 (by omega) _ (by omega)]
            obtain ⟨-, p2', p3, p4, p5⟩ := t3
            rw [eR6, ePc] at p2' p4 p5
            unfold NP
            rw [eR8, ePn]
            refine ⟨Nt_congr (Nt_i2 n2 _) (fun x hx => eA x (by omega)) (fun x h1 h2 => eA x (by omega)), fun k hk2 => ?_, fun k hk2 => ?_, fun k h1 h2 => ?_, fun u v hu hv hor => ?_⟩
            · rw [n3, z8.cellL 231 (fun j => by omega)]; exact p2' k hk2
            · rw [z7.fld 26 2 (by unfold WSX4_addSet; omega), z8.cell 234 (fun j => by omega)]; exact p3 k hk2
            · rw [ud_ne _ _ (show 93 + k ≠ 2 by omega), ud_ne _ _ (show 93 + k ≠ 113 + nK (stN (d.1 225)) by omega), ud_ne _ _ (show 103 + k ≠ 2 by omega), ud_ne _ _ (show 103 + k ≠ 113 + nK (stN (d.1 225)) by omega)]; exact p4 k h1 h2
            · show c7.1 (27 + 8) (u * 10 + v) = 0
              rw [n4]; exact p5 u v hu hv hor
        · rw [if_neg k6]
          have sg : FX12_isSign 222 59 d6 = some 0 := by
            rcases PR_isSign t1 (x := 59) (by decide) with ⟨q, -⟩ | ⟨-, q⟩
            · exact absurd q k6
            · exact q
          rw [sg, ob_some, if_pos rfl]
          obtain ⟨c7, n1, n2, n3, n4⟩ := hadd (by rw [t5, ko])
          show hb (Option.bind (Option.bind (FX4_addSet 27 (i3 x') (i3 w) c6') _) _) _ _
          rw [n1, ob_some]
          have z7 := ZX4_addSet n1
          have t1' : PR c7 d6 n lim t p2 := PR_mv t1 z7 (T := fun _ _ => False) mx_out.rf (fun b j q => by unfold WSX4_addSet at q; omega) (fun b j q => q.elim)
          obtain ⟨ca, da, m1, m2, q⟩ := PR_no t1' (x := 1) (fun _ => rfl)
          rw [m2, ob_some, ob_some]
          refine hb_some (Or.inr ⟨rfl, rfl, ca, ?_, q.1⟩)
          show FX10_take 1 59 c7 = some (0, ca)
          unfold FX10_take
          rw [if_neg (by rw [z7.fld 1 6 (by unfold WSX4_addSet; omega)]; exact k6), m1, ob_some]
          rfl
      · subst e1 e2
        rw [se_inl, se_inl]
        exact hb_some (Or.inl (Or.inr ⟨rfl, rfl, q⟩))
      · subst e1 e2
        rw [se_inl, se_inr]
        dsimp only
        have fin : hb (Option.bind (some ((0 : Int32), ca)) (fun r7 => mx_chk (mx_b01 r7.1) (some (r7.1, r7.2)))) (Option.bind (Option.bind (FX12_bad 222 1 da) (fun r26 => mx_chk (mx_b01 r26.1) (some (r26.1, r26.2)))) (fun r => mx_chk (mx_b01 r.1) (some (r.1, r.2)))) (LX n lim t p) := by
          rw [t2, ob_some, ob_some]
          exact hb_some (Or.inl (Or.inr ⟨rfl, rfl, t3⟩))
        rcases t4 with q | q
        · rw [q, ob_some, ob_some, if_pos rfl]
          exact fin
        · by_cases q0 : FX12_isSign 222 59 da = some 0
          · rw [q0, ob_some, ob_some, if_pos rfl]
            exact fin
          · have q1 : FX12_isSign 222 59 da = some 1 := by
              unfold FX12_isSign at q0 ⊢
              by_cases w1 : da.1 222 7 = 4
              · rw [if_pos w1] at q0 ⊢
                by_cases w2 : da.1 222 9 = 59
                · rw [if_pos w2]
                · rw [if_neg w2] at q0; exact absurd rfl q0
              · rw [if_neg w1] at q0; exact absurd rfl q0
            have hev : (i3 m' - i3 m' / 2 * 2) = 0 := by
              have e1 : i3 m' / 2 * 2 = i3 (m' / 2 * 2) := by rw [i3_divL (by omega) (by omega), i3_mulL]
              rw [e1, i3_sub (by omega), show m' - m' / 2 * 2 = 0 by omega]
              rfl
            rw [q1, ob_some, ob_some, if_neg (show ¬ (1 : Int32) = 0 by decide), if_pos hev]
            exact fin
    · dsimp only at u1 u2 u3
      subst u1 u2
      rw [if_pos rfl, if_pos rfl]
      exact hb_some (Or.inl (Or.inr ⟨rfl, rfl, u3.1⟩))
end NPARE
