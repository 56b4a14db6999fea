/-! ===== a network's lines: pairs, prices, links ===== -/
section NPARB
variable {c c' d d' : mB} {n lim p : Nat} {t : Nat → Nat}
theorem NP_13 (h : NP c d) (z : mx_out (fun b j => b = 222 ∧ j = 13) d d') : NP c d' := NP_mv h (S := fun _ _ => False) mx_out.rf z (fun b j q => q.elim) (fun b j q => q.1)
theorem PR_13 (h : PR c d n lim t p) (z : mx_out (fun b j => b = 222 ∧ j = 13) d d') : PR c d' n lim t p := PR_mv h (S := fun _ _ => False) mx_out.rf z (fun b j q => q.elim) (fun b j q => by omega)
theorem NP_li (h : NP c d) (x y : Nat) : GI (d.1 225) ∧ li (d.1 225) x y = li (stN (d.1 225)) x y := by
  have hh : ∀ k, k < 63 → d.1 225 k = stN (d.1 225) k := fun k hk => (stN_lo _ (by omega)).symm
  exact ⟨hd_GI hh h.1.1, hd_li hh h.1.1 x y⟩
theorem lk_none {N : Rw} {x y : Nat} (h : lk N x y = false) : li N x y = none := by
  unfold lk at h
  cases e : li N x y with
  | none => rfl
  | some l => rw [e] at h; cases h
theorem lk_someE {N : Rw} {x y : Nat} (h : lk N x y = true) : ∃ l, li N x y = some l := by
  unfold lk at h
  cases e : li N x y with
  | none => rw [e] at h; cases h
  | some l => exact ⟨l, rfl⟩
theorem L_pair (h : PR c d n lim t p) (hnp : NP c d) (hl : tkp n lim t p < min n lim) : hb (FX5_readPair 26 1 c) (FX12_readPair 222 d) (LQ n lim t p) := by
  unfold FX5_readPair FX12_readPair FX10_takePoint
  obtain ⟨c1, d1, f1, f2, r1, r2, r3, r4⟩ := PR_go h hl
  have hn1 := NP_U hnp r3 r4
  rw [f1, f2, ob_some, ob_some]
  obtain ⟨e0, e1, h10⟩ := NP_P hn1
  obtain ⟨⟨x1, y1⟩, ⟨x2, y2⟩, g1, g2, hp⟩ := PR_here r1 h10 e0 e1 hn1.2.1
  show hb (Option.bind (Option.bind (FX10_pointHere 1 27 c1) _) _) _ _
  rw [g1, g2, ob_some, ob_some]
  dsimp only
  rcases hp with ⟨i, hi, q1, q2, q3, q4, q5, q6, -⟩ | ⟨q1, q2, q3⟩
  · dsimp only at q1 q2 q3 q4 q5
    subst q1 q2 q4
    have ni : ¬ i3 i = -1 := fun q => (i3_ne1 (a := i) (by omega)).mp q
    have r1' := PR_13 r1 q5
    have hn1' := NP_13 hn1 q5
    obtain ⟨c2, d2, a1, a2, s1, s2, s3, s4⟩ := PR_go r1' q6
    have hn2 := NP_U hn1' s3 s4
    rw [if_neg ni, if_neg (show ¬ (1 : Int32) = 0 by decide), a1, ob_some, ob_some]
    dsimp only
    rw [if_neg ni, mx_letI, q3, a2, ob_some]
    obtain ⟨k0, k1, k10⟩ := NP_P hn2
    obtain ⟨⟨x3, y3⟩, ⟨x4, y4⟩, b1, b2', hp2⟩ := PR_here s1 k10 k0 k1 hn2.2.1
    show hb (Option.bind (FX10_pointHere 1 27 c2) _) _ _
    rw [b1, b2', ob_some, ob_some]
    dsimp only
    have eR : d2.1 225 = d1.1 225 := by rw [s4.cell 225 (fun j => by unfold U2; omega), q5.cell 225 (fun j => by omega)]
    rw [eR] at k10
    rcases hp2 with ⟨j, hj, u1, u2, u3, u4, u5, u6, u7⟩ | ⟨u1, u2, u3⟩
    · dsimp only at u1 u2 u3 u4 u5 u7
      rw [eR] at hj
      subst u1 u2 u4
      have nj : ¬ i3 j = -1 := fun q => (i3_ne1 (a := j) (by omega)).mp q
      have s1' := PR_13 s1 u5
      have hn2' := NP_13 hn2 u5
      have eR4 : y4.1 225 = d1.1 225 := by rw [u5.cell 225 (fun j => by omega)]; exact eR
      have hN2 := hn2'.1
      rw [eR4] at hN2
      have h7 : y4.1 222 7 = 1 → (3 : Int32) = 1 := fun q => by rw [u7] at q; exact absurd q (by decide)
      have no : ∀ (cx : mB), cx = y3 → hb (Option.bind (FX10_fail 1 3 cx) (fun r9 => mx_chk (mx_b01 r9.1) (some (r9.1, r9.2)))) (Option.bind (FX12_bad 222 3 y4) (fun r => mx_chk (mx_b01 r.1) (some (r.1, r.2)))) (LQ n lim t p) := by
        intro cx hcx
        subst hcx
        obtain ⟨ca, da, m1, m2, q⟩ := PR_no s1' (x := 3) h7
        rw [m1, m2, ob_some, ob_some]
        exact hb_some (Or.inr ⟨rfl, rfl, q.1⟩)
      obtain ⟨c3, w1, w2, w3⟩ := C_pairUp hN2 hi hj
      rw [if_neg nj, if_neg (show ¬ (1 : Int32) = 0 by decide), u3]
      show hb (Option.bind (FX4_pairUp 27 (i3 i) (i3 j) y3) _) _ _
      rw [w1, ob_some]
      dsimp only
      obtain ⟨gR, liR⟩ := NP_li hn2' i j
      rw [eR4] at liR gR
      by_cases cij : j = i
      · subst cij
        have hr : rPair (stN (d1.1 225)) j j = 1 := by
          unfold rPair
          rw [if_neg (fun q => (lk_lt hN2.1 q).2.2 rfl)]
        rw [hr, if_neg (show ¬ (1 : Int32) = 0 by decide), if_pos rfl]
        exact no _ (w3 (by rw [hr]; decide))
      · rw [if_neg (show ¬ i3 j = i3 i by rw [i3_eq (by omega) (by omega)]; exact cij)]
        show hb _ (Option.bind (FX12_linkIn 225 125 (i3 i) (i3 j) y4) _) _
        rw [M_linkIn gR eR4 (by omega) (by omega) (by omega) (by omega), ob_some, liR]
        have N93 : ∀ x, x < 10 → stN (d1.1 225) (158 + x) = y4.1 (222 + 3) (93 + x) := fun x hx => by
          rw [stN_hi _ (by omega) (by omega), show 158 + x - 65 = 93 + x by omega]
          show _ = y4.1 225 (93 + x)
          rw [eR4]
        cases hk : lk (stN (d1.1 225)) i j with
        | false =>
          have hr : rPair (stN (d1.1 225)) i j = 1 := by unfold rPair; rw [hk]; rfl
          rw [lk_none hk, if_pos (show oi none = -1 from rfl), hr, if_neg (show ¬ (1 : Int32) = 0 by decide)]
          exact no _ (w3 (by rw [hr]; decide))
        | true =>
          obtain ⟨l, el⟩ := lk_someE hk
          have hll := (li_some el).1
          have h30 := hN2.1.2.1.2
          rw [el, if_neg (show ¬ oi (some l) = -1 from fun q => (i3_ne1 (a := l) (by omega)).mp q), i3_Ladd, i3_Ladd, mx_inb_i3 (by omega) (by omega), mx_chkT, i3_toNat (by omega), ← N93 i (by omega)]
          by_cases c1 : stN (d1.1 225) (158 + i) = -1
          · rw [if_pos c1, mx_inb_i3 (by omega) (by omega), mx_chkT, i3_toNat (by omega), ← N93 j (by omega)]
            by_cases c2' : stN (d1.1 225) (158 + j) = -1
            · have hr : rPair (stN (d1.1 225)) i j = 0 := by unfold rPair lone; rw [hk, if_pos rfl, decide_eq_true c1, decide_eq_true c2']; rfl
              rw [hr] at w2
              rw [if_pos rfl] at w2
              rw [hr, if_pos rfl, if_pos c2', mx_letI]
              have e13 : mx_up y4.1 225 (93 + i) (i3 j) 222 13 = i3 j := by rw [up_off _ (by omega)]; exact u3
              show hb _ (mx_chk (mx_inb (93 + mx_up y4.1 225 (93 + i) (i3 j) 222 13) 125) (mx_let (mx_up (mx_up y4.1 225 (93 + i) (i3 j)) 225 (Int32.toNatClampNeg (93 + mx_up y4.1 225 (93 + i) (i3 j) 222 13)) (i3 i), y4.2) _)) _
              rw [e13, i3_Ladd, mx_inb_i3 (by omega) (by omega), mx_chkT, i3_toNat (by omega), mx_letI]
              have z3c := ZX4_pairUp w1
              have z3d : mx_out (fun b _ => b = 225) y4 (mx_up (mx_up y4.1 225 (93 + i) (i3 j)) 225 (93 + j) (i3 i), y4.2) := mx_out_up (mx_out_up mx_out.rf rfl rfl) rfl rfl
              have s5 : PR c3 (mx_up (mx_up y4.1 225 (93 + i) (i3 j)) 225 (93 + j) (i3 i), y4.2) n lim t _ := PR_mv s1' z3c z3d (fun b j q => by unfold WSX4_pairUp at q; omega) (fun b j q => by omega)
              obtain ⟨c4, d4, m1, m2, v1, v2, v3, v4⟩ := PR_go s5 u6
              show hb (Option.bind (FX10_advance 1 c3) _) (Option.bind (FX12_go 222 (mx_up (mx_up y4.1 225 (93 + i) (i3 j)) 225 (93 + j) (i3 i), y4.2)) _) _
              rw [m1, m2, ob_some, ob_some]
              refine hb_some (Or.inl ⟨_, rfl, rfl, v1, by omega, NP_U ?_ v3 v4⟩)
              have eR5 : (mx_up (mx_up y4.1 225 (93 + i) (i3 j)) 225 (93 + j) (i3 i), y4.2).1 225 = ud (ud (d1.1 225) (93 + i) (i3 j)) (93 + j) (i3 i) := by
                show mx_up (mx_up y4.1 225 (93 + i) (i3 j)) 225 (93 + j) (i3 i) 225 = _
                rw [up_ud, up_ud, eR4]
              have eN : ∀ x, 125 ≤ x → stN (ud (ud (d1.1 225) (93 + i) (i3 j)) (93 + j) (i3 i)) x = nPair (stN (d1.1 225)) i j x := by
                intro x hx
                rw [stN_h (by omega) (by omega) _ hx]
                unfold nPair
                rw [show 93 + j + 65 = 158 + j by omega]
                show (if x = 158 + j then i3 i else stN (ud (d1.1 225) (93 + i) (i3 j)) x) = if x = 158 + j then i3 i else ud (stN (d1.1 225)) (158 + i) (i3 j) x
                rw [stN_h (by omega) (by omega) _ hx, show 93 + i + 65 = 158 + i by omega]
              have eN0 : ∀ x, x < 63 → stN (ud (ud (d1.1 225) (93 + i) (i3 j)) (93 + j) (i3 i)) x = nPair (stN (d1.1 225)) i j x := by
                intro x hx
                rw [stN_h0 (by omega) _ hx, stN_h0 (by omega) _ hx]
                unfold nPair
                rw [ud_ne _ _ (by omega), ud_ne _ _ (by omega)]
              have ePn : nP (stN (ud (ud (d1.1 225) (93 + i) (i3 j)) (93 + j) (i3 i))) = nP (stN (d1.1 225)) := by
                unfold nP
                rw [stN_h0 (by omega) _ (by omega), stN_h0 (by omega) _ (by omega)]
              obtain ⟨-, p2, p3, p4, p5⟩ := hn2'
              rw [eR4] at p2 p4 p5
              unfold NP
              rw [eR5, ePn]
              refine ⟨Nt_congr w2 eN0 (fun x h1 h2 => eN x h1), fun k hk2 => ?_, fun k hk2 => ?_, fun k h1 h2 => ?_, fun u v hu hv hor => ?_⟩
              · rw [z3c.cellL (27 + 1) (fun j => by unfold WSX4_pairUp; omega), z3d.cellL 231 (fun j => by omega)]
                exact p2 k hk2
              · rw [z3c.fld 26 2 (by unfold WSX4_pairUp; omega), z3d.cell 234 (fun j => by omega)]
                exact p3 k hk2
              · rw [ud_ne _ _ (by omega), ud_ne _ _ (by omega), ud_ne _ _ (by omega), ud_ne _ _ (by omega)]
                have := p4 k h1 h2
                exact this
              · rw [z3c.cell 35 (fun j => by unfold WSX4_pairUp; omega)]
                exact p5 u v hu hv hor
            · have hr : rPair (stN (d1.1 225)) i j = 2 := by unfold rPair lone; rw [hk, if_pos rfl, decide_eq_false c2', Bool.and_false]; rfl
              rw [hr, if_neg (show ¬ (2 : Int32) = 0 by decide), if_neg c2']
              exact no _ (w3 (by rw [hr]; decide))
          · have hr : rPair (stN (d1.1 225)) i j = 2 := by unfold rPair lone; rw [hk, if_pos rfl, decide_eq_false c1]; rfl
            rw [hr, if_neg (show ¬ (2 : Int32) = 0 by decide), if_neg c1]
            exact no _ (w3 (by rw [hr]; decide))
    · dsimp only at u1 u2 u3
      subst u1 u2
      rw [if_pos rfl, if_pos rfl]
      exact hb_some (Or.inr ⟨rfl, rfl, u3.1⟩)
  · dsimp only at q1 q2 q3
    subst q1 q2
    rw [if_pos rfl, if_pos rfl, ob_some]
    exact hb_some (Or.inr ⟨rfl, rfl, q3.1⟩)
end NPARB
