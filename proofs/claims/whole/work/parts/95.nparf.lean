/-! ===== the text of a network ===== -/
section NPARF
variable {c c' d d' : mB} {n lim p : Nat} {t : Nat → Nat}
theorem LQ_X {r s : Int32 × mB} (h : LQ n lim t p r s) : LX n lim t p r s := Or.inl h
theorem L_line (h : PR c d n lim t p) (hnp : NP c d) (hc : c.1 1 6 ≠ 0) : hb (FX5_readLine 26 1 c) (FX12_readLine 222 d) (LX n lim t p) := by
  unfold FX5_readLine FX12_readLine FX10_kind FX4_points FX4_links FX4_sets
  simp only [ob_some]
  rcases PR_isWord h (k := 0) (by omega) with ⟨q1, q2, hl, h7⟩ | ⟨q1, q2⟩
  · have q1' : c.1 1 6 = 100 := q1
    have q2' : FX12_isWord 222 0 d = some 1 := q2
    rw [if_pos q1', q2', ob_some, if_neg (show ¬ (1 : Int32) = 0 by decide)]
    exact hb_mono (L_point h hnp hl h7) (fun _ _ q => LQ_X q)
  · have q1' : ¬ c.1 1 6 = 100 := q1
    have q2' : FX12_isWord 222 0 d = some 0 := q2
    rw [if_neg q1', q2', ob_some, if_pos rfl]
    rcases PR_isWord h (k := 1) (by omega) with ⟨q1, q2, hl, h7⟩ | ⟨q1, q2⟩
    · have q1' : c.1 1 6 = 101 := q1
      have q2' : FX12_isWord 222 1 d = some 1 := q2
      rw [if_pos q1', q2', ob_some, if_neg (show ¬ (1 : Int32) = 0 by decide)]
      exact hb_mono (L_link h hnp hl h7) (fun _ _ q => LQ_X q)
    · have q1' : ¬ c.1 1 6 = 101 := q1
      have q2' : FX12_isWord 222 1 d = some 0 := q2
      rw [if_neg q1', q2', ob_some, if_pos rfl]
      rcases PR_isWord h (k := 3) (by omega) with ⟨q1, q2, hl, h7⟩ | ⟨q1, q2⟩
      · have q1' : c.1 1 6 = 102 := q1
        have q2' : FX12_isWord 222 3 d = some 1 := q2
        rw [if_pos q1', q2', ob_some, if_neg (show ¬ (1 : Int32) = 0 by decide)]
        obtain ⟨⟨r1, r2⟩, ⟨s1, s2⟩, e1, e2, q⟩ := L_pair h hnp hl
        rw [e1, e2, ob_some, ob_some]
        rcases q with ⟨p', w1, w2, w3⟩ | ⟨w1, w2, w3⟩
        · dsimp only at w1 w2
          subst w1 w2
          exact hb_some (Or.inl (Or.inl ⟨p', rfl, rfl, w3⟩))
        · dsimp only at w1 w2
          subst w1 w2
          exact hb_some (Or.inl (Or.inr ⟨rfl, rfl, w3⟩))
      · have q1' : ¬ c.1 1 6 = 102 := q1
        have q2' : FX12_isWord 222 3 d = some 0 := q2
        rw [if_neg q1', q2', ob_some, if_pos rfl]
        rcases PR_isWord h (k := 6) (by omega) with ⟨q1, q2, hl, h7⟩ | ⟨q1, q2⟩
        · have q1' : c.1 1 6 = 103 := q1
          have q2' : FX12_isWord 222 6 d = some 1 := q2
          rw [if_pos q1', q2', ob_some, if_neg (show ¬ (1 : Int32) = 0 by decide)]
          obtain ⟨⟨r1, r2⟩, ⟨s1, s2⟩, e1, e2, q⟩ := L_price h hnp hl
          rw [e1, e2, ob_some, ob_some]
          rcases q with ⟨p', w1, w2, w3⟩ | ⟨w1, w2, w3⟩
          · dsimp only at w1 w2
            subst w1 w2
            exact hb_some (Or.inl (Or.inl ⟨p', rfl, rfl, w3⟩))
          · dsimp only at w1 w2
            subst w1 w2
            exact hb_some (Or.inl (Or.inr ⟨rfl, rfl, w3⟩))
        · have q1' : ¬ c.1 1 6 = 103 := q1
          have q2' : FX12_isWord 222 6 d = some 0 := q2
          rw [if_neg q1', q2', ob_some, if_pos rfl]
          rcases PR_isWord h (k := 2) (by omega) with ⟨q1, q2, hl, h7⟩ | ⟨q1, q2⟩
          · have q1' : c.1 1 6 = 104 := q1
            have q2' : FX12_isWord 222 2 d = some 1 := q2
            rw [if_pos q1', q2', ob_some, if_neg (show ¬ (1 : Int32) = 0 by decide)]
            exact L_odd h hnp hl h7
          · have q1' : ¬ c.1 1 6 = 104 := q1
            have q2' : FX12_isWord 222 2 d = some 0 := q2
            rw [if_neg q1', q2', ob_some, if_pos rfl]
            obtain ⟨ca, da, m1, m2, q⟩ := PR_no h (x := 1) (fun _ => rfl)
            rw [m1, m2, ob_some, ob_some]
            exact hb_some (Or.inl (Or.inr ⟨rfl, rfl, q.1⟩))
/-- the reference finds no line at the end of an overlong text -/
theorem M_noLine (h7 : d.1 222 7 = 1) {d2 : mB} (hb' : FX12_bad 222 1 d = some (0, d2)) : FX12_readLine 222 d = some (0, d2) := by
  have hw0 : ∀ k, FX12_isWord 222 (i3 k) d = some 0 := fun k => M_isWord_n k (by rw [h7]; decide)
  have w0 : FX12_isWord 222 0 d = some 0 := hw0 0
  have w1 : FX12_isWord 222 1 d = some 0 := hw0 1
  have w3 : FX12_isWord 222 3 d = some 0 := hw0 3
  have w6 : FX12_isWord 222 6 d = some 0 := hw0 6
  have w2 : FX12_isWord 222 2 d = some 0 := hw0 2
  unfold FX12_readLine
  rw [w0, ob_some, if_pos rfl, w1, ob_some, if_pos rfl, w3, ob_some, if_pos rfl, w6, ob_some, if_pos rfl, w2, ob_some, if_pos rfl, hb', ob_some]
  rfl
theorem L_lines : ∀ (fu : Nat) {c d : mB} {p ln : Nat}, PR c d n lim t p → NP c d → n - p < fu → c.1 26 1 = i3 ln → ln ≤ p → n ≤ 900 ∨ lim ≤ 900 → hb (FX5_read_L24 26 1 fu c) (FX12_network_L61 222 fu (i3 ln) d) (fun r s => (∃ c' d' ln', r = .inr c' ∧ s = .inr (i3 ln', d') ∧ c'.1 26 1 = i3 ln' ∧ NP c' d' ∧ FX10_endsHere 1 c' = some (1, c') ∧ c'.1 1 10 = 0 ∧ d'.1 222 10 = 0) ∨ (∃ c' d', r = .inl (0, c') ∧ s = .inl ((-1) - d'.1 222 11, d') ∧ FL c' d') ∨ (∃ c' d' c2, r = .inr c' ∧ s = .inl ((-1) - d'.1 222 11, d') ∧ FX10_endsHere 1 c' = some (0, c2) ∧ FL c2 d')) := by
  intro fu
  induction fu with
  | zero => intro c d p ln _ _ hf; omega
  | succ fu ih =>
    intro c d p ln h hnp hf hln hlp hlim
    have hn := h.1.1
    have hp := h.2.2.1
    rw [FX5_read_L24, FX12_network_L61, hln]
    unfold FX10_kind
    rw [ob_some]
    by_cases c0 : c.1 1 6 = 0
    · have hend : 940 ≤ i3 ln ∨ ¬ 940 ≤ i3 ln := Classical.em _
      have cls : (if (940 : Int32) ≤ i3 ln then some (Sum.inr c : (Int32 × mB) ⊕ mB) else (if c.1 1 6 = 0 then some (Sum.inr c) else Option.bind (FX5_readLine 26 1 c) (fun r8 => (if r8.1 = 0 then (some (.inl (0, r8.2))) else Option.bind (FX10_take 1 59 r8.2) (fun r10 => (if r10.1 = 0 then (some (.inl (0, r10.2))) else mx_let (mx_up r10.2.1 26 1 ((r10.2.1 26 1) + 1), r10.2.2) (fun m12 => (FX5_read_L24 26 1 fu m12)))))))) = some (Sum.inr c) := by
        by_cases q : (940 : Int32) ≤ i3 ln
        · rw [if_pos q]
        · rw [if_neg q, if_pos c0]
      rw [cls]
      rcases PR_ends h c0 with ⟨q1, q2⟩ | ⟨q2, c2, d2, q3, q4, q5⟩
      · rw [if_pos q2]
        exact hb_some (Or.inl ⟨c, d, ln, rfl, rfl, hln, hnp, q1, h.2.2.2.2.2.2.2.2.2.1, h.2.2.2.2.2.2.2.2.2.2⟩)
      · rw [if_neg (show ¬ d.1 222 7 = 0 by rw [q2]; decide), M_noLine q2 q4, ob_some]
        dsimp only
        rw [if_pos rfl]
        exact hb_some (Or.inr (Or.inr ⟨c, d2, c2, rfl, rfl, q3, q5.1⟩))
    · have hlt : tkp n lim t p < min n lim := by
        rcases PR_view h with ⟨⟨q1, -⟩, -⟩ | ⟨hl, -⟩
        · exact absurd q1 c0
        · exact hl
      have hp2 : p ≤ tkp n lim t p := by unfold tkp; omega
      have d7 : d.1 222 7 ≠ 0 := by
        rcases PR_view h with ⟨⟨q1, -⟩, -⟩ | ⟨-, ⟨-, q⟩ | ⟨i, -, -, q, -⟩ | ⟨w, -, -, -, -, q, -⟩ | ⟨v, -, -, -, q, -⟩ | ⟨v, -, -, q, -⟩⟩
        · exact absurd q1 c0
        all_goals rw [q]; decide
      rw [if_neg (by show ¬ i3 940 ≤ i3 ln; rw [i3_le (by omega) (by omega)]; omega), if_neg c0, if_neg d7]
      obtain ⟨⟨r1, r2⟩, ⟨s1, s2⟩, e1, e2, q⟩ := L_line h hnp c0
      have zl := ZX5_readLine e1
      rw [e1, e2, ob_some, ob_some]
      dsimp only
      dsimp only at zl
      rcases q with q | ⟨q1, q2, c2, q3, q4⟩
      · rcases q with ⟨p', w1, w2, w3, w4, w5⟩ | ⟨w1, w2, w3⟩
        · dsimp only at w1 w2 w3 w5
          subst w1 w2
          rw [if_neg (show ¬ (1 : Int32) = 0 by decide), if_neg (show ¬ (1 : Int32) = 0 by decide)]
          obtain ⟨⟨r3, r4⟩, ⟨s3, s4⟩, f1, f2, g⟩ := PR_readEnd w3
          rw [f1, f2, ob_some, ob_some]
          dsimp only
          rcases g with ⟨p2, g1, g2, g3, g4, g5, g6⟩ | ⟨g1, g2, g3⟩
          · dsimp only at g1 g2 g3 g5 g6
            subst g1 g2
            rw [if_neg (show ¬ (1 : Int32) = 0 by decide), if_neg (show ¬ (1 : Int32) = 0 by decide), mx_letI, mx_letI, i3_succ]
            have e26 : r4.1 26 1 = i3 ln := by
              rw [g5.fld 26 1 (by unfold U1; omega), zl.fld 26 1 (by unfold WSX5_readLine; omega)]; exact hln
            rw [e26, i3_succ]
            have z2 : mx_out (fun b j => b = 26 ∧ j = 1) r4 (mx_up r4.1 26 1 (i3 (ln + 1)), r4.2) := mx_out_up mx_out.rf rfl ⟨rfl, rfl⟩
            have PR2 : PR (mx_up r4.1 26 1 (i3 (ln + 1)), r4.2) s4 n lim t p2 := PR_mv g3 z2 (T := fun _ _ => False) mx_out.rf (fun b j q => by omega) (fun b j q => q.elim)
            have NP2 : NP (mx_up r4.1 26 1 (i3 (ln + 1)), r4.2) s4 := by
              obtain ⟨p1, p2', p3, p4, p5⟩ := NP_U w5 g5 g6
              refine ⟨Nt_mem p1 (fun b h1 h2 => z2.cell b (fun j => by omega)), fun i hi => ?_, fun i hi => ?_, p4, fun u v hu hv hor => ?_⟩
              · rw [z2.cellL (27 + 1) (fun j => by omega)]; exact p2' i hi
              · rw [z2.fld 26 2 (by omega)]; exact p3 i hi
              · rw [z2.cell 35 (fun j => by omega)]; exact p5 u v hu hv hor
            exact ih PR2 NP2 (by omega) (mx_up_self r4.1 26 1 _) (by omega) hlim
          · dsimp only at g1 g2 g3
            subst g1 g2
            rw [if_pos rfl, if_pos rfl]
            exact hb_some (Or.inr (Or.inl ⟨_, _, rfl, rfl, g3.1⟩))
        · dsimp only at w1 w2 w3
          subst w1 w2
          rw [if_pos rfl, if_pos rfl]
          exact hb_some (Or.inr (Or.inl ⟨_, _, rfl, rfl, w3⟩))
      · dsimp only at q1 q2 q3 q4
        subst q1 q2
        rw [if_neg (show ¬ (1 : Int32) = 0 by decide), if_pos rfl, q3, ob_some]
        dsimp only
        rw [if_pos rfl]
        exact hb_some (Or.inr (Or.inl ⟨_, _, rfl, rfl, q4⟩))
end NPARF
