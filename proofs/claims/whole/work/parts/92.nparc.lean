/-! ===== a network's lines: prices, links ===== -/
section NPARC
variable {c c' d d' : mB} {n lim p : Nat} {t : Nat → Nat}
theorem bt_set (s : Int32) {i j : Nat} (hi : i < 32) (hj : j < 32) : bt (s ||| ((1 : Int32) <<< (i3 i &&& 31))) j = (bt s j || decide (j = i)) := by
  rw [bt_or, bt_one hi hj]
theorem L_price (h : PR c d n lim t p) (hnp : NP c d) (hl : tkp n lim t p < min n lim) : hb (FX5_readPrice 26 1 c) (FX12_readPrice 222 d) (LQ n lim t p) := by
  unfold FX5_readPrice FX12_readPrice
  obtain ⟨c1, d1, f1, f2, r1, r2, r3, r4⟩ := PR_go h hl
  have hn1 := NP_U hnp r3 r4
  rw [f1, f2, ob_some, ob_some]
  obtain ⟨e0, e1, h10⟩ := NP_P hn1
  obtain ⟨⟨x1, y1⟩, ⟨x2, y2⟩, g1, g2, hp⟩ := PR_here r1 h10 e0 e1 hn1.2.1
  show hb (Option.bind (FX10_pointHere 1 27 c1) _) _ _
  rw [g1, g2, ob_some, ob_some]
  dsimp only
  rcases hp with ⟨i, hi, q1, q2, q3, q4, q5, q6, q7⟩ | ⟨q1, q2, q3⟩
  · dsimp only at q1 q2 q3 q4 q5 q7
    subst q1 q2 q4
    have ni : ¬ i3 i = -1 := fun q => (i3_ne1 (a := i) (by omega)).mp q
    have r1' := PR_13 r1 q5
    have hn1' := NP_13 hn1 q5
    have eR : y2.1 225 = d1.1 225 := q5.cell 225 (fun j => by omega)
    obtain ⟨p1, p2, p3, p4, p5⟩ := hn1'
    rw [eR] at p1 p2 p4 p5
    obtain ⟨b1, b2'⟩ := p3 i (by omega)
    rw [if_neg ni, if_neg (show ¬ (1 : Int32) = 0 by decide), mx_letI, q3, mx_inb_i3 (by omega) (by omega), mx_chkT, i3_toNat (by omega)]
    have ebt := bt_sh (y1.1 26 2) (k := i) (by omega)
    rw [b2'] at ebt
    show hb _ (if y2.1 234 i = 0 then _ else _) _
    by_cases c1' : y2.1 234 i = 0
    · rw [if_pos c1', if_pos (ebt.mpr (decide_eq_false (by rw [c1']; decide))), mx_letI]
      have z3d : mx_out (fun b _ => b = 234) y2 (mx_up y2.1 234 i 1, y2.2) := mx_out_up mx_out.rf rfl rfl
      have s1 : PR y1 (mx_up y2.1 234 i 1, y2.2) n lim t _ := PR_mv r1' (S := fun _ _ => False) mx_out.rf z3d (fun b j q => q.elim) (fun b j q => by omega)
      obtain ⟨c2, d2, a1, a2, v1, v2, v3, v4⟩ := PR_go s1 q6
      show hb _ (Option.bind (FX12_go 222 (mx_up y2.1 234 i 1, y2.2)) _) _
      rw [a1, a2, ob_some, ob_some]
      obtain ⟨⟨x3, y3⟩, ⟨x4, y4⟩, k1, k2, hp2⟩ := PR_num v1 (a := 0) (b := 400) (by omega) (by omega)
      show hb (Option.bind (FX10_takeNumber 1 (i3 0) (i3 400) c2) _) (Option.bind (FX12_readNumber 222 (i3 0) (i3 400) d2) _) _
      rw [k1, k2, ob_some, ob_some]
      dsimp only
      unfold FX12_noted
      rcases hp2 with ⟨w, p', w1, w2, w3, w4, w5, w6, w7, w8, w9⟩ | ⟨u1, u2, u3⟩
      · dsimp only at w3 w4 w5 w6 w7 w8 w9
        subst w3 w4
        have nw : ¬ i3 w = -1 := fun q => (i3_ne1 (a := w) (by omega)).mp q
        have eR4 : y4.1 225 = d1.1 225 := by
          rw [w9.cell 225 (fun j => by unfold U2; omega), v4.cell 225 (fun j => by unfold U2; omega), z3d.cell 225 (fun j => by omega)]; exact eR
        rw [if_neg nw, if_neg (show ¬ (1 : Int32) = 0 by decide), i3_Ladd, mx_inb_i3 (by omega) (by omega), mx_chkT, i3_toNat (by omega), mx_letI, mx_letI, w5]
        have zc : mx_out (fun b j => b = 26 ∧ j = 2) y3 (mx_up y3.1 26 2 (y3.1 26 2 ||| ((1 : Int32) <<< (i3 i &&& 31))), y3.2) := mx_out_up mx_out.rf rfl ⟨rfl, rfl⟩
        have hNt : Nt (mx_up y3.1 26 2 (y3.1 26 2 ||| ((1 : Int32) <<< (i3 i &&& 31))), y3.2) 27 (stN (d1.1 225)) := Nt_mem p1 (fun b h1 h2 => by
          rw [zc.cell b (fun j => by omega), w8.cell b (fun j => by unfold U1; omega), v3.cell b (fun j => by unfold U1; omega)])
        obtain ⟨c5, m1, m2, m3⟩ := C_priceAt hNt hi (n := i3 w) ⟨w, rfl, by omega⟩
        show hb (Option.bind (FX4_priceAt 27 (i3 i) (i3 w) (mx_up y3.1 26 2 (y3.1 26 2 ||| ((1 : Int32) <<< (i3 i &&& 31))), y3.2)) _) _ _
        rw [m1, ob_some]
        have z5 := ZX4_priceAt m1
        have z4d : mx_out (fun b _ => b = 225) y4 (mx_up y4.1 225 (103 + i) (i3 w), y4.2) := mx_out_up mx_out.rf rfl rfl
        have zc2 : mx_out (fun b j => (b = 26 ∧ j = 2) ∨ b = 31) y3 c5 := mx_out.tr (zc.sub (fun b j q => Or.inl q)) (z5.sub (fun b j q => Or.inr (by unfold WSX4_priceAt at q; omega)))
        refine hb_some (Or.inl ⟨p', rfl, rfl, PR_mv w6 zc2 z4d (fun b j q => by omega) (fun b j q => by omega), by omega, ?_⟩)
        have eR5 : (mx_up y4.1 225 (103 + i) (i3 w), y4.2).1 225 = ud (d1.1 225) (103 + i) (i3 w) := by
          show mx_up y4.1 225 (103 + i) (i3 w) 225 = _
          rw [up_ud, eR4]
        have eN : ∀ x, 125 ≤ x → stN (ud (d1.1 225) (103 + i) (i3 w)) x = ud (stN (d1.1 225)) (168 + i) (i3 w) x := by
          intro x hx
          rw [stN_h (by omega) (by omega) _ hx, show 103 + i + 65 = 168 + i by omega]
        have eN0 : ∀ x, x < 63 → stN (ud (d1.1 225) (103 + i) (i3 w)) x = ud (stN (d1.1 225)) (168 + i) (i3 w) x := by
          intro x hx
          rw [stN_h0 (by omega) _ hx, ud_ne _ _ (by omega)]
        have hN5 : Nt c5 27 (ud (stN (d1.1 225)) (168 + i) (i3 w)) := by
          by_cases hr : rPrice (stN (d1.1 225)) i (i3 w) = 0
          · rw [if_pos hr] at m2; exact m2
          · rw [if_neg hr] at m2
            have : stN (d1.1 225) (168 + i) = i3 w := by
              unfold rPrice at hr
              by_cases q : stN (d1.1 225) (168 + i) = i3 w
              · exact q
              · rw [if_neg q] at hr; exact absurd rfl hr
            have e : ud (stN (d1.1 225)) (168 + i) (i3 w) = stN (d1.1 225) := by
              funext x
              unfold ud
              by_cases q : x = 168 + i
              · rw [if_pos q, q, this]
              · rw [if_neg q]
            rw [e]; exact m2
        have ePn : nP (stN (ud (d1.1 225) (103 + i) (i3 w))) = nP (stN (d1.1 225)) := by
          unfold nP
          rw [stN_h0 (by omega) _ (by omega)]
        show NP c5 (mx_up y4.1 225 (103 + i) (i3 w), y4.2)
        unfold NP
        rw [eR5, ePn]
        have d234 : ∀ k, (mx_up y4.1 225 (103 + i) (i3 w), y4.2).1 234 k = if k = i then 1 else y2.1 234 k := fun k => by
          rw [z4d.cell 234 (fun j => by omega), w9.cell 234 (fun j => by unfold U2; omega), v4.cell 234 (fun j => by unfold U2; omega)]
          exact up_at _ _ _ _ _
        have c26 : c5.1 26 2 = y1.1 26 2 ||| ((1 : Int32) <<< (i3 i &&& 31)) := by
          rw [z5.fld 26 2 (by unfold WSX4_priceAt; omega)]
          show mx_up y3.1 26 2 (y3.1 26 2 ||| ((1 : Int32) <<< (i3 i &&& 31))) 26 2 = _
          rw [mx_up_self, w8.fld 26 2 (by unfold U1; omega), v3.fld 26 2 (by unfold U1; omega)]
        refine ⟨Nt_congr hN5 eN0 (fun x h1 h2 => eN x h1), fun k hk2 => ?_, fun k hk2 => ?_, fun k h1 h2 => ?_, fun u v hu hv hor => ?_⟩
        · rw [zc2.cellL (27 + 1) (fun j => by omega), w8.cellL (27 + 1) (fun j => by unfold U1; omega), v3.cellL (27 + 1) (fun j => by unfold U1; omega), z4d.cellL 231 (fun j => by omega), w9.cellL 231 (fun j => by unfold U2; omega), v4.cellL 231 (fun j => by unfold U2; omega), z3d.cellL 231 (fun j => by omega)]
          exact p2 k hk2
        · rw [d234, c26, bt_set _ (by omega) (by omega)]
          by_cases q : k = i
          · rw [if_pos q, decide_eq_true q, Bool.or_true]
            exact ⟨Or.inr rfl, rfl⟩
          · rw [if_neg q, decide_eq_false q, Bool.or_false]
            exact p3 k hk2
        · rw [ud_ne _ _ (by omega), ud_ne _ _ (by omega)]
          exact p4 k h1 h2
        · rw [zc2.cell 35 (fun j => by omega), w8.cell 35 (fun j => by unfold U1; omega), v3.cell 35 (fun j => by unfold U1; omega)]
          exact p5 u v hu hv hor
      · dsimp only at u1 u2 u3
        subst u1 u2
        rw [if_pos rfl, if_pos rfl]
        exact hb_some (Or.inr ⟨rfl, rfl, u3.1⟩)
    · have c2' := b1.resolve_left c1'
      rw [if_neg c1', if_neg (fun q => by have := ebt.mp q; rw [decide_eq_true c2'] at this; cases this)]
      obtain ⟨ca, da, m1, m2, q⟩ := PR_no r1' (x := 3) (fun q => by rw [q7] at q; exact absurd q (by decide))
      rw [m1, m2, ob_some, ob_some]
      exact hb_some (Or.inr ⟨rfl, rfl, q.1⟩)
  · dsimp only at q1 q2 q3
    subst q1 q2
    rw [if_pos rfl, if_pos rfl]
    exact hb_some (Or.inr ⟨rfl, rfl, q3.1⟩)
theorem L_link (h : PR c d n lim t p) (hnp : NP c d) (hl : tkp n lim t p < min n lim) (h7 : d.1 222 7 = 2) : hb (if 30 ≤ c.1 27 1 then Option.bind (FX10_fail 1 4 c) (fun r5 => mx_chk (mx_b01 r5.1) (some (r5.1, r5.2))) else Option.bind (FX5_readLink 26 1 c) (fun r7 => mx_chk (mx_b01 r7.1) (some (r7.1, r7.2)))) (Option.bind (FX12_readLink 222 d) (fun r => mx_chk (mx_b01 r.1) (some (r.1, r.2)))) (LQ n lim t p) := by
  have hG := hnp.1.1
  have h30 := hG.2.1.2
  have cL : c.1 27 1 = i3 (nL (stN (d.1 225))) := by rw [hnp.1.2.2.1.1.2, hG.2.1.1]
  have dL : d.1 225 1 = i3 (nL (stN (d.1 225))) := by
    have := hG.2.1.1
    rw [stN_lo _ (by omega)] at this
    exact this
  unfold FX12_readLink FX12_readFirst
  have dL' : d.1 (222 + 3) (Int32.toNatClampNeg 1) = i3 (nL (stN (d.1 225))) := dL
  rw [cL, show mx_inb (1 : Int32) 125 = true by decide, mx_chkT, dL']
  by_cases c30 : nL (stN (d.1 225)) = 30
  · rw [c30, if_pos (by decide), if_pos (by decide)]
    obtain ⟨c1, d1, f1, f2, q⟩ := PR_no h (x := 4) (fun q => by rw [h7] at q; exact absurd q (by decide))
    rw [f1, f2, ob_some, ob_some]
    exact hb_some (Or.inr ⟨rfl, rfl, q.1⟩)
  · rw [if_neg (by show ¬ i3 30 ≤ _; rw [i3_le (by omega) (by omega)]; omega), if_neg (by show ¬ _ = i3 30; rw [i3_eq (by omega) (by omega)]; exact c30)]
    obtain ⟨c1, d1, f1, f2, r1, r2, r3, r4⟩ := PR_go h hl
    have hn1 := NP_U hnp r3 r4
    unfold FX5_readLink FX10_takePoint
    rw [f1, f2, ob_some, ob_some, ob_some]
    dsimp only
    rw [if_neg (show ¬ (1 : Int32) = 0 by decide)]
    obtain ⟨e0, e1, h10⟩ := NP_P hn1
    obtain ⟨⟨x1, y1⟩, ⟨x2, y2⟩, g1, g2, hp⟩ := PR_here r1 h10 e0 e1 hn1.2.1
    show hb (Option.bind (Option.bind (Option.bind (FX10_pointHere 1 27 c1) _) _) _) _ _
    rw [g1, g2, ob_some, ob_some]
    dsimp only
    rcases hp with ⟨i, hi, q1, q2, q3, q4, q5, q6, -⟩ | ⟨q1, q2, q3⟩
    · dsimp only at q1 q2 q3 q4 q5
      subst q1 q2 q4
      have ni : ¬ i3 i = -1 := fun q => (i3_ne1 (a := i) (by omega)).mp q
      have r1' := PR_13 r1 q5
      have hn1' := NP_13 hn1 q5
      obtain ⟨c2, d2, a1, a2, s1, s2, s3, s4⟩ := PR_go r1' q6
      have hn2 := NP_U hn1' s3 s4
      have eR2 : y2.1 225 = d.1 225 := by rw [q5.cell 225 (fun j => by omega), r4.cell 225 (fun j => by unfold U2; omega)]
      have eR3 : d2.1 225 = d.1 225 := by rw [s4.cell 225 (fun j => by unfold U2; omega)]; exact eR2
      have dL2 : y2.1 (222 + 3) 1 = i3 (nL (stN (d.1 225))) := by show y2.1 225 1 = _; rw [eR2]; exact dL
      rw [if_neg ni, if_neg (show ¬ (1 : Int32) = 0 by decide), a1, ob_some, ob_some]
      dsimp only
      rw [if_neg ni, mx_letI, mx_letI, dL2, q3, a2, ob_some]
      obtain ⟨k0, k1, k10⟩ := NP_P hn2
      obtain ⟨⟨x3, y3⟩, ⟨x4, y4⟩, b1, b2', hp2⟩ := PR_here s1 k10 k0 k1 hn2.2.1
      show hb (Option.bind (Option.bind (FX10_pointHere 1 27 c2) _) _) _ _
      rw [b1, b2', ob_some, ob_some]
      dsimp only
      have hiN : i < nP (stN (d.1 225)) := by
        have : d1.1 225 = d.1 225 := r4.cell 225 (fun j => by unfold U2; omega)
        rw [this] at hi
        exact hi
      rcases hp2 with ⟨j, hj, u1, u2, u3, u4, u5, u6, u7⟩ | ⟨u1, u2, u3⟩
      · dsimp only at u1 u2 u3 u4 u5 u7
        rw [eR3] at hj
        subst u1 u2 u4
        have hn10 := hG.1.2
        have nj : ¬ i3 j = -1 := fun q => (i3_ne1 (a := j) (by omega)).mp q
        have s1' := PR_13 s1 u5
        have hn2' := NP_13 hn2 u5
        have eR4 : y4.1 225 = d.1 225 := by rw [u5.cell 225 (fun j => by omega)]; exact eR3
        have hN2 := hn2'.1
        rw [eR4] at hN2
        have no : hb (Option.bind (Option.bind (FX10_fail 1 3 y3) (fun r9 => mx_chk (mx_b01 r9.1) (some (r9.1, r9.2)))) (fun r7 => mx_chk (mx_b01 r7.1) (some (r7.1, r7.2)))) (Option.bind (Option.bind (FX12_bad 222 3 y4) (fun r => mx_chk (mx_b01 r.1) (some (r.1, r.2)))) (fun r => mx_chk (mx_b01 r.1) (some (r.1, r.2)))) (LQ n lim t p) := by
          obtain ⟨ca, da, m1, m2, q⟩ := PR_no s1' (x := 3) (fun q => by rw [u7] at q; exact absurd q (by decide))
          rw [m1, m2, ob_some, ob_some]
          exact hb_some (Or.inr ⟨rfl, rfl, q.1⟩)
        rw [if_neg nj, if_neg (show ¬ (1 : Int32) = 0 by decide), u3]
        obtain ⟨gR, liR⟩ := NP_li hn2' i j
        rw [eR4] at liR gR
        by_cases cij : i = j
        · subst cij
          rw [if_pos rfl, if_pos rfl]
          exact no
        · rw [if_neg (show ¬ i3 i = i3 j by rw [i3_eq (by omega) (by omega)]; exact cij), if_neg (show ¬ i3 j = i3 i by rw [i3_eq (by omega) (by omega)]; exact fun q => cij q.symm)]
          show hb (Option.bind (Option.bind (FX4_areLinked 27 (i3 i) (i3 j) y3) _) _) (Option.bind (Option.bind (FX12_linkIn 225 125 (i3 i) (i3 j) y4) _) _) _
          rw [M_linkIn gR eR4 (by omega) (by omega) (by omega) (by omega), C_areLinked_y hN2.1 hN2.2.2.1 hiN hj, ob_some, ob_some, liR]
          cases hk : lk (stN (d.1 225)) i j with
          | true =>
            obtain ⟨l, el⟩ := lk_someE hk
            have hll := (li_some el).1
            rw [el, if_neg (show ¬ oi (some l) = -1 from fun q => (i3_ne1 (a := l) (by omega)).mp q), if_neg (show ¬ b2 true = 0 by decide)]
            exact no
          | false =>
            rw [lk_none hk, if_pos (show oi none = -1 from rfl), if_pos (show b2 false = 0 from rfl), i3_Ladd, i3_Ladd, mx_inb_i3 (by omega) (by omega), mx_chkT, i3_toNat (by omega), mx_letI, mx_inb_i3 (by omega) (by omega), mx_chkT, i3_toNat (by omega), mx_letI]
            have e13 : mx_up y4.1 225 (3 + nL (stN (d.1 225))) (i3 i) 222 13 = i3 j := by rw [up_off _ (by omega)]; exact u3
            show hb _ (Option.bind (Option.bind (FX12_go 222 (mx_up (mx_up y4.1 225 (3 + nL (stN (d.1 225))) (i3 i)) 225 (33 + nL (stN (d.1 225))) (mx_up y4.1 225 (3 + nL (stN (d.1 225))) (i3 i) 222 13), y4.2)) _) _) _
            rw [e13]
            have z3d : mx_out (fun b _ => b = 225) y4 (mx_up (mx_up y4.1 225 (3 + nL (stN (d.1 225))) (i3 i)) 225 (33 + nL (stN (d.1 225))) (i3 j), y4.2) := mx_out_up (mx_out_up mx_out.rf rfl rfl) rfl rfl
            have s5 : PR y3 (mx_up (mx_up y4.1 225 (3 + nL (stN (d.1 225))) (i3 i)) 225 (33 + nL (stN (d.1 225))) (i3 j), y4.2) n lim t _ := PR_mv s1' (S := fun _ _ => False) mx_out.rf z3d (fun b j q => q.elim) (fun b j q => by omega)
            obtain ⟨c4, d4, m1, m2, v1, v2, v3, v4⟩ := PR_go s5 u6
            rw [m1, m2, ob_some, ob_some]
            obtain ⟨⟨x5, y5⟩, ⟨x6, y6⟩, o1, o2, hp3⟩ := PR_num v1 (a := 1) (b := 99) (by omega) (by omega)
            show hb (Option.bind (Option.bind (FX10_takeNumber 1 (i3 1) (i3 99) c4) _) _) (Option.bind (Option.bind (FX12_readNumber 222 (i3 1) (i3 99) d4) _) _) _
            rw [o1, o2, ob_some, ob_some]
            dsimp only
            unfold FX12_noted
            rcases hp3 with ⟨w, p', w1, w2, w3, w4, w5, w6, w7, w8, w9⟩ | ⟨k1, k2, k3⟩
            · dsimp only at w3 w4 w5 w6 w7 w8 w9
              subst w3 w4
              have nw : ¬ i3 w = -1 := fun q => (i3_ne1 (a := w) (by omega)).mp q
              have eR6 : y6.1 225 = ud (ud (d.1 225) (3 + nL (stN (d.1 225))) (i3 i)) (33 + nL (stN (d.1 225))) (i3 j) := by
                rw [w9.cell 225 (fun j => by unfold U2; omega), v4.cell 225 (fun j => by unfold U2; omega)]
                show mx_up (mx_up y4.1 225 (3 + nL (stN (d.1 225))) (i3 i)) 225 (33 + nL (stN (d.1 225))) (i3 j) 225 = _
                rw [up_ud, up_ud, eR4]
              rw [if_neg nw, if_neg (show ¬ (1 : Int32) = 0 by decide), i3_Ladd, mx_inb_i3 (by omega) (by omega), mx_chkT, i3_toNat (by omega), mx_letI, w5]
              have hNt : Nt y5 27 (stN (d.1 225)) := Nt_mem hN2 (fun b h1 h2 => by
                rw [w8.cell b (fun j => by unfold U1; omega), v3.cell b (fun j => by unfold U1; omega)])
              obtain ⟨c7, n1, n2, n3, n4⟩ := C_addLink hNt (by omega) hiN hj cij hk (w := w) (by omega) (by omega)
              show hb (Option.bind (Option.bind (FX4_addLink 27 (i3 i) (i3 j) (i3 w) y5) _) _) _ _
              rw [n1, ob_some]
              have z7 := ZX4_addLink n1
              show hb _ (Option.bind (Option.bind (some ((1 : Int32), (mx_up y6.1 225 (63 + nL (stN (d.1 225))) (i3 w), y6.2))) _) _) _
              rw [ob_some, ob_some]
              dsimp only
              rw [if_neg (show ¬ (1 : Int32) = 0 by decide), mx_letI]
              have e1L : mx_up y6.1 (222 + 3) (63 + nL (stN (d.1 225))) (i3 w) (222 + 3) 1 = i3 (nL (stN (d.1 225))) := by
                show mx_up y6.1 225 (63 + nL (stN (d.1 225))) (i3 w) 225 1 = _
                rw [up_at, if_neg (by omega), eR6, ud_ne _ _ (by omega), ud_ne _ _ (by omega)]
                exact dL
              rw [e1L, i3_succ]
              have z8d : mx_out (fun b _ => b = 225) y6 (mx_up (mx_up y6.1 225 (63 + nL (stN (d.1 225))) (i3 w)) 225 1 (i3 (nL (stN (d.1 225)) + 1)), y6.2) := mx_out_up (mx_out_up mx_out.rf rfl rfl) rfl rfl
              refine hb_some (Or.inl ⟨p', rfl, rfl, PR_mv w6 z7 z8d (fun b j q => by unfold WSX4_addLink at q; omega) (fun b j q => by omega), by omega, ?_⟩)
              have eR8 : (mx_up (mx_up y6.1 225 (63 + nL (stN (d.1 225))) (i3 w)) 225 1 (i3 (nL (stN (d.1 225)) + 1)), y6.2).1 225 = ud (ud (ud (ud (d.1 225) (3 + nL (stN (d.1 225))) (i3 i)) (33 + nL (stN (d.1 225))) (i3 j)) (63 + nL (stN (d.1 225))) (i3 w)) 1 (i3 (nL (stN (d.1 225)) + 1)) := by
                show mx_up (mx_up y6.1 225 (63 + nL (stN (d.1 225))) (i3 w)) 225 1 (i3 (nL (stN (d.1 225)) + 1)) 225 = _
                rw [up_ud, up_ud, eR6]
              have eA : ∀ x, x < 63 ∨ (125 ≤ x ∧ x < 190) → stN (ud (ud (ud (ud (d.1 225) (3 + nL (stN (d.1 225))) (i3 i)) (33 + nL (stN (d.1 225))) (i3 j)) (63 + nL (stN (d.1 225))) (i3 w)) 1 (i3 (nL (stN (d.1 225)) + 1))) x = aL (stN (d.1 225)) i j w x := by
                intro x hx
                rw [stN_k (by omega) (by omega)]
                unfold aL
                by_cases x1 : x = 1
                · rw [x1, ud_self, ud_self]
                · rw [ud_ne _ _ x1, ud_ne _ _ x1]
                  rcases hx with hx | hx
                  · rw [stN_h0 (by omega) _ hx, stN_k (by omega) (by omega), ud_ne _ _ (show x ≠ 128 + nL (stN (d.1 225)) by omega)]
                    show (if x = 33 + nL (stN (d.1 225)) then i3 j else stN (ud (d.1 225) (3 + nL (stN (d.1 225))) (i3 i)) x) = if x = 33 + nL (stN (d.1 225)) then i3 j else ud (stN (d.1 225)) (3 + nL (stN (d.1 225))) (i3 i) x
                    rw [stN_k (by omega) (by omega)]
                  · rw [stN_h (by omega) (by omega) _ hx.1, show 63 + nL (stN (d.1 225)) + 65 = 128 + nL (stN (d.1 225)) by omega]
                    show (if x = 128 + nL (stN (d.1 225)) then i3 w else stN (ud (ud (d.1 225) (3 + nL (stN (d.1 225))) (i3 i)) (33 + nL (stN (d.1 225))) (i3 j)) x) = if x = 128 + nL (stN (d.1 225)) then i3 w else ud (ud (stN (d.1 225)) (3 + nL (stN (d.1 225))) (i3 i)) (33 + nL (stN (d.1 225))) (i3 j) x
                    rw [stN_k (by omega) (by omega)]
                    show (if x = 128 + nL (stN (d.1 225)) then i3 w else if x = 33 + nL (stN (d.1 225)) then i3 j else stN (ud (d.1 225) (3 + nL (stN (d.1 225))) (i3 i)) x) = _
                    rw [stN_k (by omega) (by omega)]
                    rfl
              have ePn : nP (stN (ud (ud (ud (ud (d.1 225) (3 + nL (stN (d.1 225))) (i3 i)) (33 + nL (stN (d.1 225))) (i3 j)) (63 + nL (stN (d.1 225))) (i3 w)) 1 (i3 (nL (stN (d.1 225)) + 1)))) = nP (stN (d.1 225)) := by
                show (stN _ 0).toNatClampNeg = (stN (d.1 225) 0).toNatClampNeg
                rw [eA 0 (by omega), aL_at 0 (by omega) (by omega) (by omega) (by omega)]
              obtain ⟨-, p2, p3, p4, p5⟩ := hn2'
              rw [eR4] at p2 p4 p5
              show NP c7 (mx_up (mx_up y6.1 225 (63 + nL (stN (d.1 225))) (i3 w)) 225 1 (i3 (nL (stN (d.1 225)) + 1)), y6.2)
              unfold NP
              rw [eR8, ePn]
              refine ⟨Nt_congr n2 (fun x hx => eA x (by omega)) (fun x h1 h2 => eA x (by omega)), fun k hk2 => ?_, fun k hk2 => ?_, fun k h1 h2 => ?_, fun u v hu hv hor => ?_⟩
              · rw [n3, w8.cellL (27 + 1) (fun j => by unfold U1; omega), v3.cellL (27 + 1) (fun j => by unfold U1; omega), z8d.cellL 231 (fun j => by omega), w9.cellL 231 (fun j => by unfold U2; omega), v4.cellL 231 (fun j => by unfold U2; omega), z3d.cellL 231 (fun j => by omega)]
                exact p2 k hk2
              · rw [z7.fld 26 2 (by unfold WSX4_addLink; omega), w8.fld 26 2 (by unfold U1; omega), v3.fld 26 2 (by unfold U1; omega), z8d.cell 234 (fun j => by omega), w9.cell 234 (fun j => by unfold U2; omega), v4.cell 234 (fun j => by unfold U2; omega), z3d.cell 234 (fun j => by omega)]
                exact p3 k hk2
              · rw [ud_ne _ _ (by omega), ud_ne _ _ (by omega), ud_ne _ _ (by omega), ud_ne _ _ (by omega), ud_ne _ _ (by omega), ud_ne _ _ (by omega), ud_ne _ _ (by omega), ud_ne _ _ (by omega)]
                exact p4 k h1 h2
              · have := n4 u v hu hv hor
                show c7.1 (27 + 8) (u * 10 + v) = 0
                rw [this, w8.cell (27 + 8) (fun j => by unfold U1; omega), v3.cell (27 + 8) (fun j => by unfold U1; omega)]
                exact p5 u v hu hv hor
            · dsimp only at k1 k2 k3
              subst k1 k2
              rw [if_pos rfl, if_pos rfl]
              exact hb_some (Or.inr ⟨rfl, rfl, k3.1⟩)
      · dsimp only at u1 u2 u3
        subst u1 u2
        rw [if_pos rfl, if_pos rfl]
        exact hb_some (Or.inr ⟨rfl, rfl, u3.1⟩)
    · dsimp only at q1 q2 q3
      subst q1 q2
      rw [if_pos rfl, if_pos rfl]
      exact hb_some (Or.inr ⟨rfl, rfl, q3.1⟩)
end NPARC
