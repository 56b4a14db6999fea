/-! ===== a sentence is read: one, at any depth ===== -/
section SEND
variable {c c' d d' : mB} {n lim p L o w P : Nat} {t : Nat → Nat}
theorem OS_no (h : RF c d c' d') : OS c d n lim t L o w (0, c') (0, d') := Or.inr ⟨rfl, rfl, h.1, h.2.1.sub (fun b j q => Or.inl q), h.2.2.sub (fun b j q => Or.inl q)⟩
theorem S_fail (h : PR c d n lim t p) {x : Int32} (hx : d.1 222 7 = 1 → x = 1) : hb (Option.bind (FX10_fail 1 x c) (fun r6 => mx_chk (mx_b01 r6.1) ((some (r6.1, r6.2))))) (Option.bind (FX12_bad 222 x d) (fun r11 => mx_chk (mx_b01 r11.1) ((some (r11.1, r11.2))))) (OS c d n lim t L o w) := by
  obtain ⟨c1, d1, e1, e2, q⟩ := PR_no h hx
  rw [e1, e2, ob_some, ob_some, show mx_b01 0 = true from rfl, mx_chkT, mx_chkT]
  exact hb_some (OS_no q)
theorem S_beg (h : PR c d n lim t p) (hN : NmB P c d) (hS : SX c d L o w) (hw : w ≤ 8) (ht : tkp n lim t p < min n lim) (h7 : d.1 222 7 ≠ 1) {KC KM : mB → Option (Int32 × mB)}
    (hK : ∀ c1 d1 p1, w < 8 → PR c1 d1 n lim t p1 → NmB P c1 d1 → SX c1 d1 L (o + 1) (w + 1) → L + (stk (cdf (c1.1 180)) L).length ≤ 2 * o → mx_out (SB1 L) c c1 → mx_out (SB2 L) d d1 → hb (KC c1) (KM d1) (OS c d n lim t L o w)) :
    hb (if 20 ≤ (c.1 179 5) then Option.bind (FX10_fail 1 4 c) (fun r6 => mx_chk (mx_b01 r6.1) ((some (r6.1, r6.2)))) else (if i3 (w + 1) ≤ 8 then mx_let (mx_up c.1 179 5 ((c.1 179 5) + 1), c.2) (fun m9 => Option.bind (FX10_advance 1 m9) (fun r10 => KC r10)) else Option.bind (FX10_fail 1 4 c) (fun r51 => mx_chk (mx_b01 r51.1) ((some (r51.1, r51.2))))))
      (if (d.1 222 59) = 20 then Option.bind (FX12_bad 222 4 d) (fun r11 => mx_chk (mx_b01 r11.1) ((some (r11.1, r11.2)))) else (if (d.1 222 60) = 8 then Option.bind (FX12_bad 222 4 d) (fun r32 => mx_chk (mx_b01 r32.1) ((some (r32.1, r32.2)))) else mx_let (mx_up d.1 222 59 ((d.1 222 59) + 1), d.2) (fun m14 => mx_let (mx_up m14.1 222 60 ((m14.1 222 60) + 1), m14.2) (fun m15 => Option.bind (FX12_go 222 m15) (fun r16 => KM r16))))) (OS c d n lim t L o w) := by
  have hS0 := hS
  obtain ⟨h1, h2, h3, h4, h5, h6, hp, h8⟩ := hS
  rw [h2, h4, h5]
  by_cases ho : o = 20
  · subst ho
    rw [if_pos (show (20 : Int32) ≤ i3 20 by decide), if_pos (show i3 20 = 20 from rfl)]
    exact S_fail h (fun q => absurd q h7)
  · rw [if_neg (show ¬ (20 : Int32) ≤ i3 o by show ¬ i3 20 ≤ i3 o; rw [i3_le (by omega) (by omega)]; omega), if_neg (show ¬ i3 o = 20 by show ¬ i3 o = i3 20; rw [i3_eq (by omega) (by omega)]; omega)]
    by_cases hw8 : w = 8
    · subst hw8
      rw [if_neg (show ¬ i3 (8 + 1) ≤ 8 by decide), if_pos (show i3 8 = 8 from rfl)]
      exact S_fail h (fun q => absurd q h7)
    · rw [if_pos (show i3 (w + 1) ≤ 8 by show i3 (w + 1) ≤ i3 8; rw [i3_le (by omega) (by omega)]; omega), if_neg (show ¬ i3 w = 8 by show ¬ i3 w = i3 8; rw [i3_eq (by omega) (by omega)]; omega), mx_letI, mx_letI, mx_letI, i3_succ]
      have zc : mx_out (fun b j => b = 179 ∧ j = 5) c (mx_up c.1 179 5 (i3 (o + 1)), c.2) := mx_out_up mx_out.rf rfl ⟨rfl, rfl⟩
      have vc : (mx_up c.1 179 5 (i3 (o + 1)), c.2).1 179 5 = i3 (o + 1) := mx_up_self c.1 179 5 _
      have z1 : mx_out (fun b j => b = 222 ∧ (j = 59 ∨ j = 60)) d (mx_up d.1 222 59 (i3 (o + 1)), d.2) := mx_out_up mx_out.rf rfl ⟨rfl, Or.inl rfl⟩
      have v1 : (mx_up d.1 222 59 (i3 (o + 1)), d.2).1 222 59 = i3 (o + 1) := mx_up_self d.1 222 59 _
      have v2 : (mx_up d.1 222 59 (i3 (o + 1)), d.2).1 222 60 = i3 w := by
        show mx_up d.1 222 59 (i3 (o + 1)) 222 60 = _
        rw [up_at, if_neg (by omega), h5]
      show hb (Option.bind (FX10_advance 1 (mx_up c.1 179 5 (i3 (o + 1)), c.2)) _) (Option.bind (FX12_go 222 (mx_up (mx_up d.1 222 59 (i3 (o + 1)), d.2).1 222 60 ((mx_up d.1 222 59 (i3 (o + 1)), d.2).1 222 60 + 1), (mx_up d.1 222 59 (i3 (o + 1)), d.2).2)) _) _
      generalize (mx_up c.1 179 5 (i3 (o + 1)), c.2) = c1 at zc vc ⊢
      generalize (mx_up d.1 222 59 (i3 (o + 1)), d.2) = d1 at z1 v1 v2 ⊢
      rw [v2, i3_succ]
      have z2 : mx_out (fun b j => b = 222 ∧ (j = 59 ∨ j = 60)) d (mx_up d1.1 222 60 (i3 (w + 1)), d1.2) := mx_out_up z1 rfl ⟨rfl, Or.inr rfl⟩
      have v3 : (mx_up d1.1 222 60 (i3 (w + 1)), d1.2).1 222 60 = i3 (w + 1) := mx_up_self d1.1 222 60 _
      have v4 : (mx_up d1.1 222 60 (i3 (w + 1)), d1.2).1 222 59 = i3 (o + 1) := by
        show mx_up d1.1 222 60 (i3 (w + 1)) 222 59 = _
        rw [up_at, if_neg (by omega), v1]
      generalize (mx_up d1.1 222 60 (i3 (w + 1)), d1.2) = d2 at z2 v3 v4 ⊢
      have zcS : mx_out (SB1 L) c c1 := zc.sub (fun b j q => by unfold SB1; omega)
      have zdS : mx_out (SB2 L) d d2 := z2.sub (fun b j q => by unfold SB2; omega)
      have S2 : SX c1 d2 L (o + 1) (w + 1) := ⟨by rw [zc.fld 179 4 (by omega)]; exact h1, vc, by rw [z2.fld 222 58 (by omega)]; exact h3, v4, v3, by omega, by rw [stk_SB zcS]; omega, fun i hi => SYP_SB (h8 i hi) hi zcS zdS⟩
      have P2 : PR c1 d2 n lim t p := PR_mv h zc z2 (fun b j q => by omega) (fun b j q => by omega)
      refine hb_bind (PR_go P2 ht) (fun c3 d3 q => ?_)
      obtain ⟨q1, q2, q3, q4⟩ := q
      have y1 : mx_out (SB1 L) c1 c3 := q3.sub (fun b j q => Or.inl q)
      have y2 : mx_out (SB2 L) d2 d3 := q4.sub (fun b j q => Or.inl q)
      exact hK c3 d3 _ (by omega) q1 (NmB_SB (NmB_SB hN zcS zdS) y1 y2) (SX_U S2 q3 q4) (by rw [stk_SB y1, stk_SB zcS]; exact hp) (mx_out.tr zcS y1) (mx_out.tr zdS y2)
theorem OS_le {r s : Int32 × mB} (h : OS c d n lim t L (o + 1) w r s) : OS c d n lim t L o w r s := by
  rcases h with ⟨p', L', o', a1, a2, a3, a4, a5, a6, a7, a8, a9, a10, a11⟩ | h
  · exact Or.inl ⟨p', L', o', a1, a2, a3, a4, a5, by omega, a7, a8, by omega, a10, a11⟩
  · exact Or.inr h
/-- not -/
theorem S_not {F : mB → Option (Int32 × mB)} {rec : Nat → mB → Option (Int32 × mB)} (hpot : L + (stk (cdf (c.1 180)) L).length ≤ 2 * o) (hF : hb (F c) (rec 222 d) (OS c d n lim t L (o + 1) w)) :
    hb (Option.bind (F c) (fun r17 => (if r17.1 = 0 then (some (0, r17.2)) else Option.bind (FX8_put 179 112 0 0 r17.2) (fun r19 => (if r19.1 = 0 then (some (0, r19.2)) else (some (1, r19.2))))))) (FX12_readNot rec 222 d) (OS c d n lim t L o w) := by
  unfold FX12_readNot
  refine hb_bind hF (fun r s q => ?_)
  rcases q with ⟨p', L', o', a1, a2, a3, a4, a5, a6, a7, a8, a9, a10, a11⟩ | ⟨a1, a2, a3, a4, a5⟩
  · rw [if_neg (by rw [a1]; decide), if_neg (by rw [a2]; decide), a8]
    have ho' := a4.2.2.2.2.2.1
    have hp' := a4.2.2.2.2.2.2.1
    rw [a7, List.length_cons] at hp'
    obtain ⟨c2, d2, f1, f2, v1, v2, v3, v4, v5, v6, v7, v8, v9, z1, z2⟩ := S_put (L := L') a4.1 a4.2.2.1 (by omega) 112 0 0 1 (i3 (L' - 1)) 0 0
    have Z1' : mx_out (PZ1 L') r.2 c2 := z1
    have Z2' : mx_out (PZ2 L') s.2 d2 := z2
    have c0 : cdf (c2.1 180) L' = 1 := by unfold cdf; rw [v3, if_pos rfl]
    have st0 := stk_SB (PZ1_SB Z1')
    have st : stk (cdf (c2.1 180)) (L' + 1) = L' :: stk (cdf (c.1 180)) L := by
      show L' :: (if cdf (c2.1 180) L' = 0 then _ else if cdf (c2.1 180) L' = 1 then _ else _) = _
      rw [c0, if_neg (by omega), if_pos rfl, st0, a7, List.tail_cons]
    have S2 : SX c2 d2 (L' + 1) o' w := by
      refine SX_put a4 v1 v2 Z1' Z2' (Or.inl ⟨v3, by rw [Rn_hi, v6], L' - 1, stk (cdf (c.1 180)) L, by rw [st0, a7], ?_⟩) (by rw [st, List.length_cons]; omega)
      rw [show 193 + 4 * L' = 192 + (4 * L' + 1) by omega, Rn_hi, v7]
    rw [f1, f2, ob_some, ob_some]
    dsimp only
    rw [if_neg (show ¬ (1 : Int32) = 0 by decide), mx_letI]
    have zd : mx_out (fun b j => b = 222 ∧ j = 61) d2 (mx_up d2.1 222 61 (i3 L'), d2.2) := mx_out_up mx_out.rf rfl ⟨rfl, rfl⟩
    refine hb_some (Or.inl ⟨p', L' + 1, o', rfl, rfl, ?_, SX_61 S2 _, by omega, by omega, st, mx_up_self d2.1 222 61 _, by omega, mx_out.tr a10 (SB1_mono (by omega) (PZ1_SB Z1')), mx_out.tr a11 (SB2_mono (by omega) (mx_out_up (PZ2_SB Z2') rfl (by unfold SB2; omega)))⟩)
    exact PR_mv (PR_mv a3 z1 z2 (fun b j q => by omega) (fun b j q => by omega)) (S := fun _ _ => False) mx_out.rf zd (fun b j q => q.elim) (fun b j q => by omega)
  · rw [if_pos a1, if_pos a2]
    exact hb_some (Or.inr ⟨rfl, rfl, a3, a4, a5⟩)
/-- a bracket -/
theorem S_brk {F G : mB → Option (Int32 × mB)} (hF : hb (F c) (G d) (OS c d n lim t L (o + 1) w)) :
    hb (Option.bind (F c) (fun r12 => (if r12.1 = 0 then (some (0, r12.2)) else Option.bind (FX10_take 1 41 r12.2) (fun r14 => (if r14.1 = 0 then (some (0, r14.2)) else (some (1, r14.2))))))) (Option.bind (G d) (fun r1 => (if r1.1 = 0 then (some (0, r1.2)) else Option.bind (FX12_isSign 222 41 r1.2) (fun r3 => (if r3 = 0 then Option.bind (FX12_bad 222 1 r1.2) (fun r6 => mx_chk (mx_b01 r6.1) ((some (r6.1, r6.2)))) else Option.bind (FX12_go 222 r1.2) (fun r5 => (some (1, r5)))))))) (OS c d n lim t L o w) := by
  refine hb_bind hF (fun r s q => ?_)
  rcases q with ⟨p', L', o', a1, a2, a3, a4, a5, a6, a7, a8, a9, a10, a11⟩ | ⟨a1, a2, a3, a4, a5⟩
  · rw [if_neg (by rw [a1]; decide), if_neg (by rw [a2]; decide)]
    obtain ⟨r1, s1, e1, e2, q⟩ := PR_take a3 (x := 41) rfl
    show hb (Option.bind (FX10_take 1 (i3 41) r.2) _) (Option.bind (FX12_isSign 222 (i3 41) s.2) _) _
    rw [e1, e2, ob_some]
    rcases q with ⟨p2, b1, b2', b3, b4, b5, b6⟩ | ⟨b1, b2', b3, b4, b5⟩
    · rw [if_neg (by rw [b1]; decide)]
      refine hb_some (Or.inl ⟨p2, L', o', rfl, b2', b3, SX_U a4 b5 b6, a5, by omega, ?_, ?_, by omega, mx_out.tr a10 (b5.sub (fun b j q => Or.inl q)), mx_out.tr a11 (b6.sub (fun b j q => Or.inl q))⟩)
      · have zz : mx_out (SB1 L') r.2 r1.2 := b5.sub (fun b j q => Or.inl q)
        rw [stk_SB zz, a7]
      · rw [b6.fld 222 61 (by unfold U2; omega)]; exact a8
    · rw [if_pos b1]
      exact hb_some (Or.inr ⟨rfl, b2', b3, mx_out.tr a10 (b4.sub (fun b j q => Or.inl q)), mx_out.tr a11 (b5.sub (fun b j q => Or.inl q))⟩)
  · rw [if_pos a1, if_pos a2]
    exact hb_some (Or.inr ⟨rfl, rfl, a3, a4, a5⟩)
/-- a comparison -/
theorem S_cmp (h : PR c d n lim t p) (hN : NmB P c d) (hS : SX c d L (o + 1) (w + 1)) (hpot : L + (stk (cdf (c.1 180)) L).length ≤ 2 * o) {u : Nat} (h1 : 18 ≤ u) (h2 : u ≤ 21) :
    hb (Option.bind (FX10_kind 1 c) (fun r39 => mx_let (fun (m41 : mB) => Option.bind (FX10_advance 1 m41) (fun r43 => Option.bind (FX10_takeNumber 1 0 999 r43) (fun r44 => Option.bind (FX8_putIfRead 179 (i3 (100 + u)) r39 r44.1 r44.2) (fun r45 => mx_chk (mx_b01 r45.1) ((some (r45.1, r45.2))))))) (fun k42 => (if r39 = 60 then (k42 c) else (if r39 = 61 then (k42 c) else (if r39 = 62 then (k42 c) else Option.bind (FX10_fail 1 1 c) (fun r49 => mx_chk (mx_b01 r49.1) ((some (r49.1, r49.2))))))))))
      (FX12_readCompare 222 (i3 u) d) (OS c d n lim t L o (w + 1)) := by
  unfold FX12_readCompare FX10_kind
  rw [ob_some, mx_letI]
  have key : ∀ g : Nat, (g = 60 ∨ g = 61 ∨ g = 62) → tkp n lim t p < min n lim → d.1 222 9 = i3 g → hb (Option.bind (FX10_advance 1 c) (fun r43 => Option.bind (FX10_takeNumber 1 0 999 r43) (fun r44 => Option.bind (FX8_putIfRead 179 (i3 (100 + u)) (i3 g) r44.1 r44.2) (fun r45 => mx_chk (mx_b01 r45.1) ((some (r45.1, r45.2))))))) (mx_let (d.1 222 9) (fun v5 => Option.bind (FX12_go 222 d) (fun r6 => Option.bind (FX12_readNumber 222 0 999 r6) (fun r7 => (if r7.1 = 0 then (some (0, r7.2)) else Option.bind (FX12_saysOne 222 (50 + i3 u) 0 (r7.2.1 222 13) v5 r7.2) (fun r9 => mx_let (mx_up r9.2.1 222 61 r9.1, r9.2.2) (fun m10 => (some (1, m10))))))))) (OS c d n lim t L o (w + 1)) := by
    intro g hg ht h9
    rw [h9, mx_letI]
    refine hb_bind (PR_go h ht) (fun c1 d1 q => ?_)
    obtain ⟨q1, -, q3, q4⟩ := q
    refine hb_bind (PR_num q1 (a := 0) (b := 999) (by omega) (by omega)) (fun r s q => ?_)
    unfold FX8_putIfRead
    rcases q with ⟨v, p', v1, v2, b1, b2', b3, b4, b5, b6, b7⟩ | ⟨b1, b2', b3, b4, b5⟩
    · have y1 : mx_out U1 c r.2 := mx_out.tr q3 b6
      have y2 : mx_out U2 d s.2 := mx_out.tr q4 b7
      have zc : mx_out (SB1 L) c r.2 := y1.sub (fun b j q => Or.inl q)
      have zd : mx_out (SB2 L) d s.2 := y2.sub (fun b j q => Or.inl q)
      obtain ⟨c2, d2, f1, f2, f3⟩ := S_leaf b4 (NmB_SB hN zc zd) (SX_U hS y1 y2) (by rw [stk_SB zc]; exact hpot) (u := u) (v := v) (g := g) (by omega) (by omega) (i3 g) (i3 v) 0 (i3 v) (i3 g) (Or.inr (Or.inr (Or.inr ⟨h1, v2, hg, rfl, rfl, rfl, rfl⟩)))
      rw [b1, if_neg (fun q => (i3_ne1 (a := v) (by omega)).mp q), if_neg (by rw [b2']; decide), b3, i3_Ladd, f1, f2, ob_some, ob_some]
      dsimp only
      rw [if_neg (show ¬ (1 : Int32) = 0 by decide), ob_some, mx_letI]
      exact hb_some (OS_tr f3 zc zd)
    · rw [if_pos b1, if_pos b2', ob_some]
      exact hb_some (Or.inr ⟨rfl, rfl, b3, mx_out.tr (q3.sub (fun b j q => Or.inl q)) (b4.sub (fun b j q => Or.inl q)), mx_out.tr (q4.sub (fun b j q => Or.inl q)) (b5.sub (fun b j q => Or.inl q))⟩)
  show hb _ (Option.bind (FX12_isSign 222 (i3 60) d) _) _
  rcases PR_isSign h (x := 60) rfl with ⟨q1, q2, q3, q4, q5⟩ | ⟨q1, q2⟩
  · rw [q1, q2, ob_some, if_pos (show i3 60 = 60 from rfl), mx_letI, if_neg (show ¬ (1 : Int32) = 0 by decide)]
    exact key 60 (by omega) q3 q5
  · rw [if_neg (show ¬ c.1 1 6 = 60 from q1), q2, ob_some, mx_letI, if_pos rfl]
    show hb _ (Option.bind (FX12_isSign 222 (i3 61) d) _) _
    rcases PR_isSign h (x := 61) rfl with ⟨a1, a2, a3, a4, a5⟩ | ⟨a1, a2⟩
    · rw [a1, a2, ob_some, if_pos (show i3 61 = 61 from rfl), if_neg (show ¬ (1 : Int32) = 0 by decide)]
      exact key 61 (by omega) a3 a5
    · rw [if_neg (show ¬ c.1 1 6 = 61 from a1), a2, ob_some, if_pos rfl]
      show hb _ (Option.bind (FX12_isSign 222 (i3 62) d) _) _
      rcases PR_isSign h (x := 62) rfl with ⟨b1, b2', b3, b4, b5⟩ | ⟨b1, b2'⟩
      · rw [b1, b2', ob_some, if_pos (show i3 62 = 62 from rfl), if_neg (show ¬ (1 : Int32) = 0 by decide)]
        exact key 62 (by omega) b3 b5
      · rw [if_neg (show ¬ c.1 1 6 = 62 from b1), b2', ob_some, if_pos rfl]
        exact S_fail h (fun _ => rfl)
end SEND
