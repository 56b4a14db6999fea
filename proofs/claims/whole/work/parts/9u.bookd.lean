/-! ===== a book is read ===== -/
section BOOKD
variable {c c' d d' : mB} {n lim p l P : Nat} {t : Nat → Nat}
def Z3 (l : Nat) : Nat → Nat → Prop := fun b j => U1 b j ∨ (170 ≤ b ∧ b ≤ 173 ∧ j = l)
def Z4 (l : Nat) : Nat → Nat → Prop := fun b j => U2 b j ∨ (b = 246 ∧ 4 * l ≤ j ∧ j ≤ 4 * l + 3)
def OL (c d : mB) (n lim : Nat) (t : Nat → Nat) (l : Nat) (K : mB → mB → Prop) (r s : Int32 × mB) : Prop :=
  (∃ p', r.1 = 1 ∧ s.1 = 1 ∧ PR r.2 s.2 n lim t p' ∧ K r.2 s.2 ∧ mx_out (Z3 l) c r.2 ∧ mx_out (Z4 l) d s.2) ∨ (r.1 = 0 ∧ s.1 = 0 ∧ FL r.2 s.2 ∧ mx_out (Z3 l) c r.2 ∧ mx_out (Z4 l) d s.2)
theorem BLk_mv {k : Nat} {S T : Nat → Nat → Prop} (h : BLk P k c d l) (zc : mx_out S c c') (zd : mx_out T d d') (hS : ∀ b j, S b j → ¬ (171 ≤ b ∧ b ≤ 173 ∧ j = l)) (hT : ∀ b j, T b j → ¬ (b = 246 ∧ 4 * l + 1 ≤ j ∧ j ≤ 4 * l + 3)) : BLk P k c' d' l := by
  unfold BLk
  rw [zc.fld 171 l (fun q => hS _ _ q (by omega)), zc.fld 172 l (fun q => hS _ _ q (by omega)), zc.fld 173 l (fun q => hS _ _ q (by omega)), zd.fld 246 (4 * l + 1) (fun q => hT _ _ q (by omega)), zd.fld 246 (4 * l + 2) (fun q => hT _ _ q (by omega)), zd.fld 246 (4 * l + 3) (fun q => hT _ _ q (by omega))]
  exact h
theorem BL_mv {S T : Nat → Nat → Prop} (h : BL P c d l) (zc : mx_out S c c') (zd : mx_out T d d') (hS : ∀ b j, S b j → ¬ (170 ≤ b ∧ b ≤ 173 ∧ j = l)) (hT : ∀ b j, T b j → ¬ (b = 246 ∧ 4 * l ≤ j ∧ j ≤ 4 * l + 3)) : BL P c' d' l := by
  obtain ⟨k, h1, h2, h3, h4⟩ := h
  exact ⟨k, h1, by rw [zc.fld 170 l (fun q => hS _ _ q (by omega))]; exact h2, by rw [zd.fld 246 (4 * l) (fun q => hT _ _ q (by omega))]; exact h3, BLk_mv h4 zc zd (fun b j q w => hS b j q (by omega)) (fun b j q w => hT b j q (by omega))⟩
theorem B_line (h : PR c d n lim t p) (hN : NmB P c d) (hl : c.1 169 4 = i3 l) (hl' : d.1 222 55 = i3 l) (h40 : l ≤ 40) : hb (Option.bind (FX0_readLine 169 1 4 c) eC) (FX12_readBookLine 222 d) (OL c d n lim t l (fun c d => l < 40 ∧ BL P c d l)) := by
  rcases M_what h with ⟨k, hk, h6, hL, htk, h7⟩ | ⟨h6, hL⟩
  · by_cases q40 : l < 40
    · rw [RLc hk h6 hl q40, RBm hk hL hl' q40]
      have zc : mx_out (fun b j => b = 170 ∧ j = l) c (mx_up c.1 170 l (i3 (100 + mi (3 + k))), c.2) := mx_out_up mx_out.rf rfl ⟨rfl, rfl⟩
      have zd : mx_out (fun b j => b = 246 ∧ 4 * l ≤ j ∧ j ≤ 4 * l + 3) d (m14 d l k) := mx_out_up (mx_out_up (mx_out_up mx_out.rf rfl ⟨rfl, by omega⟩) rfl ⟨rfl, by omega⟩) rfl ⟨rfl, by omega⟩
      have vc : (mx_up c.1 170 l (i3 (100 + mi (3 + k))), c.2).1 170 l = i3 (100 + mi (3 + k)) := mx_up_self c.1 170 l _
      have vd : (m14 d l k).1 246 (4 * l) = i3 k := by
        show mx_up (mx_up (mx_up d.1 246 (4 * l) (i3 k)) 246 (4 * l + 2) 0) 246 (4 * l + 3) 0 246 (4 * l) = _
        rw [up_at, if_neg (by omega), up_at, if_neg (by omega), up_at, if_pos rfl]
      generalize (mx_up c.1 170 l (i3 (100 + mi (3 + k))), c.2) = c8 at zc vc ⊢
      generalize m14 d l k = d8 at zd vd ⊢
      have h8 : PR c8 d8 n lim t p := PR_mv h zc zd (fun b j q => by omega) (fun b j q => by omega)
      obtain ⟨c9, d9, e1, e2, r1, r2, r3, r4⟩ := PR_go h8 htk
      rw [e1, e2, ob_some, ob_some]
      have N9 : NmB P c9 d9 := NmB_mv (NmB_mv hN zc zd (fun b j q => by omega) (fun b j q => by omega)) r3 r4 (fun b j q => by unfold U1 at q; omega) (fun b j q => by unfold U2 at q; omega)
      have l9 : c9.1 169 4 = i3 l := by rw [r3.fld 169 4 (by unfold U1; omega), zc.fld 169 4 (by omega)]; exact hl
      have zcA : mx_out (Z3 l) c c9 := mx_out.tr (zc.sub (fun b j q => Or.inr (by omega))) (r3.sub (fun b j q => Or.inl q))
      have zdA : mx_out (Z4 l) d d9 := mx_out.tr (zd.sub (fun b j q => Or.inr q)) (r4.sub (fun b j q => Or.inl q))
      have e170 : c9.1 170 l = i3 (100 + mi (3 + k)) := by rw [r3.fld 170 l (by unfold U1; omega)]; exact vc
      have e246 : d9.1 246 (4 * l) = i3 k := by rw [r4.fld 246 _ (by unfold U2; omega)]; exact vd
      refine hb_bind (B_k r1 N9 l9 q40 hk) (fun r s q => ?_)
      have s1 : ∀ {c1 c2 : mB}, mx_out (Z1 l) c1 c2 → mx_out (Z3 l) c1 c2 := fun z => z.sub (fun b j q => by
        rcases q with q | q
        · exact Or.inl q
        · exact Or.inr (by omega))
      have s2 : ∀ {c1 c2 : mB}, mx_out (Z2 l) c1 c2 → mx_out (Z4 l) c1 c2 := fun z => z.sub (fun b j q => by
        rcases q with q | q
        · exact Or.inl q
        · exact Or.inr (by omega))
      unfold eC eE
      rcases q with ⟨p', q1, q2, q3, q4, q5, q6⟩ | ⟨q1, q2, q3, q4, q5⟩
      · rw [if_neg (by rw [q1]; decide), if_neg (by rw [q2]; decide)]
        obtain ⟨⟨r5, c5⟩, ⟨s5, d5⟩, f1, f2, w⟩ := PR_readEnd q3
        rw [f1, f2, ob_some]
        rcases w with ⟨p2, w1, w2, w3, w4, w5, w6⟩ | ⟨w1, w2, w3, w4, w5⟩
        · dsimp only at w1 w2
          subst w1 w2
          dsimp only
          rw [if_neg (show ¬ (1 : Int32) = 0 by decide)]
          refine hb_some (Or.inl ⟨p2, rfl, rfl, w3, ⟨q40, k, hk, ?_, ?_, BLk_mv q4 w5 w6 (fun b j q => by unfold U1 at q; omega) (fun b j q => by unfold U2 at q; omega)⟩, mx_out.tr zcA (mx_out.tr (s1 q5) (w5.sub (fun b j q => Or.inl q))), mx_out.tr zdA (mx_out.tr (s2 q6) (w6.sub (fun b j q => Or.inl q)))⟩)
          · show c5.1 170 l = _
            rw [w5.fld 170 l (by unfold U1; omega), q5.fld 170 l (by unfold Z1 U1; omega)]; exact e170
          · show d5.1 246 (4 * l) = _
            rw [w6.fld 246 _ (by unfold U2; omega), q6.fld 246 _ (by unfold Z2 U2; omega)]; exact e246
        · dsimp only at w1 w2
          subst w1 w2
          dsimp only
          rw [if_pos rfl]
          exact hb_some (Or.inr ⟨rfl, rfl, w3, mx_out.tr zcA (mx_out.tr (s1 q5) (w4.sub (fun b j q => Or.inl q))), mx_out.tr zdA (mx_out.tr (s2 q6) (w5.sub (fun b j q => Or.inl q)))⟩)
      · rw [if_pos q1, if_pos q2]
        exact hb_some (Or.inr ⟨rfl, rfl, q3, mx_out.tr zcA (s1 q4), mx_out.tr zdA (s2 q5)⟩)
    · have e40 : l = 40 := by omega
      subst e40
      obtain ⟨c1, d1, f1, f2, r1, r2, r3⟩ := PR_no h (x := 4) (fun q => by rw [h7] at q; exact absurd q (by decide))
      unfold FX0_readLine FX10_kind FX12_readBookLine
      rw [hL, h6, ob_some, C_deedY hk, ob_some, ob_some, if_neg (show ¬ (1 : Int32) = 0 by decide), hl, if_neg (show ¬ i3 40 < 0 by decide), if_neg (show ¬ i3 40 < 40 by decide), if_neg (fun q => (i3_ne1 (a := k) (by omega)).mp q), hl', if_pos (show i3 40 = 40 from rfl), f1, f2, ob_some, ob_some]
      exact hb_some (Or.inr ⟨rfl, rfl, r1, r2.sub (fun b j q => Or.inl q), r3.sub (fun b j q => Or.inl q)⟩)
  · obtain ⟨c1, d1, f1, f2, r1, r2, r3⟩ := PR_no h (x := 1) (fun _ => rfl)
    unfold FX0_readLine FX10_kind FX12_readBookLine
    rw [hL, ob_some, C_deedN h6, ob_some, ob_some, if_pos rfl, if_pos rfl, f1, f2, ob_some, ob_some]
    exact hb_some (Or.inr ⟨rfl, rfl, r1, r2.sub (fun b j q => Or.inl q), r3.sub (fun b j q => Or.inl q)⟩)
theorem L14_step {c : mB} {f : mB → Option ((Int32 × mB) ⊕ mB)} : Option.bind (FX0_readLine 169 1 4 c) (fun r6 => if r6.1 = 0 then some (.inl (0, r6.2)) else Option.bind (FX10_take 1 59 r6.2) (fun r8 => if r8.1 = 0 then some (.inl (0, r8.2)) else f r8.2)) = Option.bind (Option.bind (FX0_readLine 169 1 4 c) eC) (fun r8 => if r8.1 = 0 then some (.inl (0, r8.2)) else f r8.2) := by
  cases FX0_readLine 169 1 4 c with
  | none => rfl
  | some r6 =>
    rw [ob_some, ob_some]
    unfold eC
    by_cases q : r6.1 = 0
    · rw [if_pos q, if_pos q, ob_some, if_pos rfl]
    · rw [if_neg q, if_neg q]
def BI (P l : Nat) (c d : mB) : Prop := c.1 169 4 = i3 l ∧ d.1 222 55 = i3 l ∧ l ≤ 40 ∧ ∀ i, i < l → BL P c d i
def WB1 : Nat → Nat → Prop := fun b j => U1 b j ∨ (170 ≤ b ∧ b ≤ 173) ∨ (b = 169 ∧ j = 4)
def WB2 : Nat → Nat → Prop := fun b j => U2 b j ∨ b = 246 ∨ (b = 222 ∧ j = 55)
theorem Z3_W (z : mx_out (Z3 l) c c') : mx_out WB1 c c' := z.sub (fun b j q => by
  rcases q with q | q
  · exact Or.inl q
  · exact Or.inr (Or.inl (by omega)))
theorem Z4_W (z : mx_out (Z4 l) d d') : mx_out WB2 d d' := z.sub (fun b j q => by
  rcases q with q | q
  · exact Or.inl q
  · exact Or.inr (Or.inl (by omega)))
theorem B_loop (x : Int32) : ∀ (f f' : Nat) {c d : mB} {p l : Nat}, PR c d n lim t p → NmB P c d → BI P l c d → 41 - l < f → 41 - l < f' → hb (FX0_read_L14 169 1 4 f (i3 l) c) (FX12_book_L30 222 x f' d) (fun r s => (∃ c' d' l', r = .inr c' ∧ s = .inr d' ∧ BI P l' c' d' ∧ FX10_endsHere 1 c' = some (1, c') ∧ c'.1 1 10 = 0 ∧ d'.1 222 10 = 0 ∧ mx_out WB1 c c' ∧ mx_out WB2 d d') ∨ (∃ c' d', r = .inl (0, c') ∧ s = .inl ((-2) - d'.1 222 11, d') ∧ FL c' d' ∧ mx_out WB1 c c' ∧ mx_out WB2 d d') ∨ (∃ c' d' c2, r = .inr c' ∧ s = .inl ((-2) - d'.1 222 11, d') ∧ FX10_endsHere 1 c' = some (0, c2) ∧ FL c2 d' ∧ mx_out WB1 c c2 ∧ mx_out WB2 d d')) := by
  intro f
  induction f with
  | zero => intro f' c d p l _ _ _ hf; omega
  | succ f ih =>
    intro f' c d p l h hN hB hf hf'
    obtain ⟨f', rfl⟩ : ∃ g, f' = g + 1 := ⟨f' - 1, by omega⟩
    have hB' := hB
    obtain ⟨b1, b2', b3, b4⟩ := hB'
    rw [FX0_read_L14, FX12_book_L30, if_neg (by show ¬ i3 40 < i3 l; rw [i3_lt (by omega) (by omega)]; omega)]
    unfold FX10_kind
    rw [ob_some, L14_step (f := fun r8 => mx_let (mx_up r8.1 169 4 ((r8.1 169 4) + 1), r8.2) (fun m10 => mx_let (i3 l + 1) (fun v11 => (FX0_read_L14 169 1 4 f v11 m10))))]
    by_cases c0 : c.1 1 6 = 0
    · rw [if_pos c0]
      rcases PR_ends h c0 with ⟨q1, q2⟩ | ⟨q2, c2, d2, q3, q4, q5⟩
      · rw [if_pos q2]
        exact hb_some (Or.inl ⟨c, d, l, rfl, rfl, hB, q1, h.2.2.2.2.2.2.2.2.2.1, h.2.2.2.2.2.2.2.2.2.2, mx_out.rf, mx_out.rf⟩)
      · have eL : FX12_readBookLine 222 d = some (0, d2) := by
          rcases M_what h with ⟨k, hk, h6, -⟩ | ⟨h6, hL⟩
          · rw [c0] at h6
            have h6' : i3 0 = i3 (100 + mi (3 + k)) := h6
            have := mi_lt (3 + k) (by omega)
            rw [i3_eq (by omega) (by omega)] at h6'
            omega
          · unfold FX12_readBookLine
            rw [hL, ob_some, if_pos rfl, q4, ob_some]
            rfl
        rw [if_neg (show ¬ d.1 222 7 = 0 by rw [q2]; decide), eL, ob_some]
        dsimp only
        rw [if_pos rfl]
        exact hb_some (Or.inr (Or.inr ⟨c, d2, c2, rfl, rfl, q3, q5.1, q5.2.1.sub (fun b j q => Or.inl q), q5.2.2.sub (fun b j q => Or.inl q)⟩))
    · have d7 : d.1 222 7 ≠ 0 := by
        rcases PR_view h with ⟨⟨q1, -⟩, -⟩ | ⟨-, ⟨-, q⟩ | ⟨i, -, -, q, -⟩ | ⟨w, -, -, -, -, q, -⟩ | ⟨v, -, -, -, q, -⟩ | ⟨v, -, -, q, -⟩⟩
        · exact absurd q1 c0
        all_goals rw [q]; decide
      rw [if_neg c0, if_neg d7]
      obtain ⟨⟨r1, r2⟩, ⟨s1, s2⟩, e1, e2, q⟩ := B_line h hN b1 b2' b3
      rw [e1, e2, ob_some, ob_some]
      dsimp only
      rcases q with ⟨p', q1, q2, q3, ⟨q4, q5⟩, q6, q7⟩ | ⟨q1, q2, q3, q4, q5⟩
      · dsimp only at q1 q2 q3 q5 q6 q7
        subst q1 q2
        have k1 : r2.1 169 4 = i3 l := by rw [q6.fld 169 4 (by unfold Z3 U1; omega)]; exact b1
        have k2 : s2.1 222 55 = i3 l := by rw [q7.fld 222 55 (by unfold Z4 U2; omega)]; exact b2'
        rw [if_neg (show ¬ (1 : Int32) = 0 by decide), if_neg (show ¬ (1 : Int32) = 0 by decide), k1, k2, i3_succ, mx_letI, mx_letI, mx_letI]
        have zc : mx_out (fun b j => b = 169 ∧ j = 4) r2 (mx_up r2.1 169 4 (i3 (l + 1)), r2.2) := mx_out_up mx_out.rf rfl ⟨rfl, rfl⟩
        have zd : mx_out (fun b j => b = 222 ∧ j = 55) s2 (mx_up s2.1 222 55 (i3 (l + 1)), s2.2) := mx_out_up mx_out.rf rfl ⟨rfl, rfl⟩
        have vc : (mx_up r2.1 169 4 (i3 (l + 1)), r2.2).1 169 4 = i3 (l + 1) := mx_up_self r2.1 169 4 _
        have vd : (mx_up s2.1 222 55 (i3 (l + 1)), s2.2).1 222 55 = i3 (l + 1) := mx_up_self s2.1 222 55 _
        generalize (mx_up r2.1 169 4 (i3 (l + 1)), r2.2) = c3 at zc vc ⊢
        generalize (mx_up s2.1 222 55 (i3 (l + 1)), s2.2) = d3 at zd vd ⊢
        have ZC : mx_out WB1 c c3 := mx_out.tr (Z3_W q6) (zc.sub (fun b j q => Or.inr (Or.inr q)))
        have ZD : mx_out WB2 d d3 := mx_out.tr (Z4_W q7) (zd.sub (fun b j q => Or.inr (Or.inr q)))
        have N3 : NmB P c3 d3 := NmB_mv hN ZC ZD (fun b j q => by unfold WB1 U1 at q; omega) (fun b j q => by unfold WB2 U2 at q; omega)
        refine hb_mono (ih f' (PR_mv q3 zc zd (fun b j q => by omega) (fun b j q => by omega)) N3 (l := l + 1) ⟨vc, vd, by omega, fun i hi => ?_⟩ (by omega) (by omega)) (fun r s w => ?_)
        · by_cases ei : i = l
          · subst ei
            exact BL_mv q5 zc zd (fun b j q => by omega) (fun b j q => by omega)
          · exact BL_mv (BL_mv (b4 i (by omega)) q6 q7 (fun b j q => by unfold Z3 U1 at q; omega) (fun b j q => by unfold Z4 U2 at q; omega)) zc zd (fun b j q => by omega) (fun b j q => by omega)
        · rcases w with ⟨c', d', l', w1, w2, w3, w4, w5, w6, w7, w8⟩ | ⟨c', d', w1, w2, w3, w4, w5⟩ | ⟨c', d', c2, w1, w2, w3, w4, w5, w6⟩
          · exact Or.inl ⟨c', d', l', w1, w2, w3, w4, w5, w6, mx_out.tr ZC w7, mx_out.tr ZD w8⟩
          · exact Or.inr (Or.inl ⟨c', d', w1, w2, w3, mx_out.tr ZC w4, mx_out.tr ZD w5⟩)
          · exact Or.inr (Or.inr ⟨c', d', c2, w1, w2, w3, w4, mx_out.tr ZC w5, mx_out.tr ZD w6⟩)
      · dsimp only at q1 q2 q3 q4 q5
        subst q1 q2
        rw [if_pos rfl, if_pos rfl]
        exact hb_some (Or.inr (Or.inl ⟨r2, s2, rfl, rfl, q3, Z3_W q4, Z4_W q5⟩))
end BOOKD
