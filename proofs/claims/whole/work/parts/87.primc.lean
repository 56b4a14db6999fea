/-! ===== points by their names; the begin ===== -/
section PRIMC
variable {c c' d d' : mB} {n lim p a k : Nat} {t : Nat → Nat}
theorem oi_m1 (o : Option Nat) (h : ∀ i, o = some i → i < 2147483648) : oi o = -1 ↔ o = none := by
  cases o with
  | none => exact ⟨fun _ => rfl, fun _ => rfl⟩
  | some i => exact ⟨fun q => absurd q (fun q => (i3_ne1 (h i rfl)).mp q), fun q => by cases q⟩
theorem M_nix {q : Nat} (hk : k ≤ 10) (w : List Nat) : FX12_findIn q 10 0 (i3 k) (Int64.ofNat (p27 w)) d = some (oi (nix d q k w)) := M_findIn hk _
/-- both look a name up -/
theorem PR_here (h : PR c d n lim t p) (hk : k ≤ 10) (h0 : c.1 a 0 = i3 k) (g0 : d.1 225 0 = i3 k) (hn : Nms c d a 231 k) : hb (FX10_pointHere 1 a c) (FX12_isHere 222 d) (fun r s => (∃ i, i < k ∧ r.1 = i3 i ∧ s.1 = 1 ∧ s.2.1 222 13 = i3 i ∧ r.2 = c ∧ mx_out (fun b j => b = 222 ∧ j = 13) d s.2 ∧ tkp n lim t p < min n lim ∧ s.2.1 222 7 = 2) ∨ (r.1 = -1 ∧ s.1 = 0 ∧ RF c d r.2 s.2)) := by
  unfold FX10_pointHere FX12_isHere
  rcases PR_isName h with ⟨w, ⟨w1, w2, w3, w4, w5, w6⟩, hl, e1⟩ | ⟨q1, e1⟩
  · have g0' : d.1 (222 + 3) 0 = i3 k := g0
    rw [if_pos w3, e1, ob_some, if_neg (by decide), w4, C_named hk h0 hn w1, ob_some, g0', w6]
    show hb _ (Option.bind (FX12_findIn 231 10 0 (i3 k) (Int64.ofNat (p27 w)) d) _) _
    rw [M_nix hk, ob_some, mx_letI]
    have hlt : ∀ i, nix d 231 k w = some i → i < k := fun i e => (ff_some.mp e).1
    have z : mx_out (fun b j => b = 222 ∧ j = 13) d (mx_up d.1 222 13 (oi (nix d 231 k w)), d.2) := mx_out_up mx_out.rf rfl ⟨rfl, rfl⟩
    have e13 : (mx_up d.1 222 13 (oi (nix d 231 k w)), d.2).1 222 13 = oi (nix d 231 k w) := mx_up_self d.1 222 13 _
    show hb _ (if (mx_up d.1 222 13 (oi (nix d 231 k w)), d.2).1 222 13 = -1 then _ else _) _
    rw [e13]
    have h' : PR c (mx_up d.1 222 13 (oi (nix d 231 k w)), d.2) n lim t p := PR_mv h (S := fun _ _ => False) mx_out.rf z (fun b j q => q.elim) (fun b j q => by omega)
    cases e : nix d 231 k w with
    | none =>
      rw [e] at h' z
      rw [if_pos (show oi none = -1 from rfl), if_pos (show oi none = -1 from rfl)]
      obtain ⟨c1, d1, f1, f2, r1, r2, r3⟩ := PR_no h' (x := 3) (fun q => by rw [z.fld 222 7 (by omega), w5] at q; exact absurd q (by decide))
      show hb (Option.bind (FX10_fail 1 3 c) _) (Option.bind (FX12_bad 222 3 (mx_up d.1 222 13 (oi none), d.2)) _) _
      rw [f1, f2, ob_some, ob_some]
      exact hb_some (Or.inr ⟨rfl, rfl, r1, r2, mx_out.tr (z.sub (fun b j q => by unfold U2; omega)) r3⟩)
    | some i =>
      have hi := hlt i e
      rw [e] at z e13
      rw [if_neg (show ¬ oi (some i) = -1 from fun q => (i3_ne1 (a := i) (by omega)).mp q), if_neg (show ¬ oi (some i) = -1 from fun q => (i3_ne1 (a := i) (by omega)).mp q)]
      exact hb_some (Or.inl ⟨i, hi, rfl, rfl, e13, rfl, z, hl, by
        show (mx_up d.1 222 13 (oi (some i)), d.2).1 222 7 = 2
        rw [z.fld 222 7 (by omega)]; exact w5⟩)
  · rw [if_neg q1, e1, ob_some, if_pos rfl]
    obtain ⟨c1, d1, f1, f2, q⟩ := PR_no h (x := 1) (fun _ => rfl)
    rw [f1, f2, ob_some, ob_some]
    exact hb_some (Or.inr ⟨rfl, rfl, q⟩)
theorem PR_point (h : PR c d n lim t p) (hk : k ≤ 10) (h0 : c.1 a 0 = i3 k) (g0 : d.1 224 0 = i3 k) (hn : Nms c d a 230 k) : hb (FX10_takePoint 1 a c) (FX12_readPointName 222 d) (fun r s => (∃ i p', i < k ∧ r.1 = i3 i ∧ s.1 = 1 ∧ s.2.1 222 13 = i3 i ∧ RS c d n lim t p r.2 s.2 p') ∨ (r.1 = -1 ∧ s.1 = 0 ∧ RF c d r.2 s.2)) := by
  unfold FX10_takePoint FX10_pointHere FX12_readPointName
  rcases PR_isName h with ⟨w, ⟨w1, w2, w3, w4, w5, w6⟩, hl, e1⟩ | ⟨q1, e1⟩
  · have g0' : d.1 (222 + 2) 0 = i3 k := g0
    rw [if_pos w3, e1, ob_some, if_neg (by decide), w4, C_named hk h0 hn w1, ob_some, g0', w6]
    show hb _ (Option.bind (FX12_findIn 230 10 0 (i3 k) (Int64.ofNat (p27 w)) d) _) _
    rw [M_nix hk, ob_some, mx_letI]
    have hlt : ∀ i, nix d 230 k w = some i → i < k := fun i e => (ff_some.mp e).1
    have z : mx_out (fun b j => b = 222 ∧ j = 13) d (mx_up d.1 222 13 (oi (nix d 230 k w)), d.2) := mx_out_up mx_out.rf rfl ⟨rfl, rfl⟩
    have e13 : (mx_up d.1 222 13 (oi (nix d 230 k w)), d.2).1 222 13 = oi (nix d 230 k w) := mx_up_self d.1 222 13 _
    show hb _ (if (mx_up d.1 222 13 (oi (nix d 230 k w)), d.2).1 222 13 = -1 then _ else _) _
    rw [e13]
    have h' : PR c (mx_up d.1 222 13 (oi (nix d 230 k w)), d.2) n lim t p := PR_mv h (S := fun _ _ => False) mx_out.rf z (fun b j q => q.elim) (fun b j q => by omega)
    cases e : nix d 230 k w with
    | none =>
      rw [e] at h' z
      rw [if_pos (show oi none = -1 from rfl), if_pos (show oi none = -1 from rfl)]
      obtain ⟨c1, d1, f1, f2, r1, r2, r3⟩ := PR_no h' (x := 3) (fun q => by rw [z.fld 222 7 (by omega), w5] at q; exact absurd q (by decide))
      show hb (Option.bind (Option.bind (FX10_fail 1 3 c) _) _) (Option.bind (FX12_bad 222 3 (mx_up d.1 222 13 (oi none), d.2)) _) _
      rw [f1, f2, ob_some, ob_some, ob_some]
      exact hb_some (Or.inr ⟨rfl, rfl, r1, r2, mx_out.tr (z.sub (fun b j q => by unfold U2; omega)) r3⟩)
    | some i =>
      have hi := hlt i e
      rw [e] at z e13 h'
      have hni : ¬ oi (some i) = -1 := fun q => (i3_ne1 (a := i) (by omega)).mp q
      rw [if_neg hni, if_neg hni, ob_some]
      dsimp only
      rw [if_neg hni]
      obtain ⟨c1, d1, f1, f2, r1, r2, r3⟩ := PR_adv h' hl
      show hb (Option.bind (FX10_advance 1 c) _) (Option.bind (FX12_go 222 (mx_up d.1 222 13 (oi (some i)), d.2)) _) _
      rw [f1, f2, ob_some, ob_some]
      refine hb_some (Or.inl ⟨i, tnx n lim t p, hi, rfl, rfl, ?_, r1, (tnx_lt hl).1, W1_U r2, mx_out.tr (z.sub (fun b j q => by unfold U2; omega)) (W2_U r3)⟩)
      show d1.1 222 13 = _
      rw [r3.fld 222 13 (by unfold W2; omega)]
      exact e13
  · rw [if_neg q1, e1, ob_some, if_pos rfl]
    obtain ⟨c1, d1, f1, f2, q⟩ := PR_no h (x := 1) (fun _ => rfl)
    rw [f1, f2, ob_some, ob_some, ob_some]
    exact hb_some (Or.inr ⟨rfl, rfl, q⟩)
/-- a text that both have -/
def Txt (c d : mB) (n : Nat) (t : Nat → Nat) : Prop := n ≤ 940 ∧ c.1 1 2 = i3 n ∧ d.1 222 2 = i3 n ∧ (∀ j, j < n → t j < 256 ∧ c.1 2 j = i3 (t j) ∧ d.1 223 j = i3 (t j)) ∧ ∀ i, i < 22 → c.2 3 i = Int64.ofNat (p32 (wd i))
def V1 : Nat → Nat → Prop := fun b j => b = 1 ∧ 3 ≤ j
def V2 : Nat → Nat → Prop := fun b j => b = 222 ∧ (j = 0 ∨ (2 ≤ j ∧ j ≤ 13))
theorem PR_begin (h : Txt c d n t) (hl : lim ≤ 900) : hb (FX10_begin 1 (i3 lim) c) (FX12_begin 222 (i3 lim) d) (fun c' d' => PR c' d' n lim t 0 ∧ mx_out V1 c c' ∧ mx_out V2 d d' ∧ d'.1 222 2 = 0) := by
  obtain ⟨h1, h2, h3, h4, h5⟩ := h
  have key : ∀ x : Bool, x = decide (lim < n) → hb (Option.bind (FJ9_min_7cf53 ((mx_up c.1 1 5 (b2 x), c.2).1 1 2) (i3 lim) (mx_up c.1 1 5 (b2 x), c.2)) (fun r3 => mx_let (mx_up (mx_up c.1 1 5 (b2 x)) 1 3 r3, c.2) (fun m4 => mx_let (mx_up m4.1 1 4 0, m4.2) (fun m5 => mx_let (mx_up m5.1 1 10 0, m5.2) (fun m6 => mx_let (mx_up m6.1 1 11 0, m6.2) (fun m7 => Option.bind (FX10_advance 1 m7) (fun r8 => (some r8)))))))) (FX12_begin 222 (i3 lim) d) (fun c' d' => PR c' d' n lim t 0 ∧ mx_out V1 c c' ∧ mx_out V2 d d' ∧ d'.1 222 2 = 0) := by
    intro x hx
    have e2 : (mx_up c.1 1 5 (b2 x), c.2).1 1 2 = i3 n := by
      show mx_up c.1 1 5 (b2 x) 1 2 = _
      rw [up_at, if_neg (by omega)]; exact h2
    have em : FJ9_min_7cf53 (i3 n) (i3 lim) (mx_up c.1 1 5 (b2 x), c.2) = some (i3 (min n lim)) := by
      unfold FJ9_min_7cf53
      by_cases q : lim < n
      · rw [if_pos (by rw [i3_lt (by omega) (by omega)]; exact q), Nat.min_eq_right (by omega)]
      · rw [if_neg (by rw [i3_lt (by omega) (by omega)]; exact q), Nat.min_eq_left (by omega)]
    rw [e2, em, ob_some, mx_letI, mx_letI, mx_letI, mx_letI]
    have zc : mx_out V1 c (mx_up (mx_up (mx_up (mx_up (mx_up c.1 1 5 (b2 x)) 1 3 (i3 (min n lim))) 1 4 0) 1 10 0) 1 11 0, c.2) := mx_out_up (mx_out_up (mx_out_up (mx_out_up (mx_out_up mx_out.rf rfl ⟨rfl, by omega⟩) rfl ⟨rfl, by omega⟩) rfl ⟨rfl, by omega⟩) rfl ⟨rfl, by omega⟩) rfl ⟨rfl, by omega⟩
    have hX : Tx (mx_up (mx_up (mx_up (mx_up (mx_up c.1 1 5 (b2 x)) 1 3 (i3 (min n lim))) 1 4 0) 1 10 0) 1 11 0, c.2) n lim t := by
      refine ⟨h1, hl, ?_, ?_, ?_, fun j hj => ?_, h5⟩
      · rw [zc.fld 1 2 (by unfold V1; omega)]; exact h2
      · show mx_up (mx_up (mx_up (mx_up (mx_up c.1 1 5 (b2 x)) 1 3 (i3 (min n lim))) 1 4 0) 1 10 0) 1 11 0 1 3 = _
        rw [up_at, if_neg (by omega), up_at, if_neg (by omega), up_at, if_neg (by omega), up_at, if_pos rfl]
      · show mx_up (mx_up (mx_up (mx_up (mx_up c.1 1 5 (b2 x)) 1 3 (i3 (min n lim))) 1 4 0) 1 10 0) 1 11 0 1 5 = _
        rw [up_at, if_neg (by omega), up_at, if_neg (by omega), up_at, if_neg (by omega), up_at, if_neg (by omega), up_at, if_pos rfl, hx]
      · rw [zc.fld 2 j (by unfold V1; omega)]; exact ⟨(h4 j hj).1, (h4 j hj).2.1⟩
    obtain ⟨c1, e1, a1, a2, a3, a4⟩ := C_adv (p := 0) hX (by omega) (by
      show mx_up (mx_up (mx_up (mx_up (mx_up c.1 1 5 (b2 x)) 1 3 (i3 (min n lim))) 1 4 0) 1 10 0) 1 11 0 1 4 = _
      rw [up_at, if_neg (by omega), up_at, if_neg (by omega), up_at, if_pos rfl]
      rfl)
    have t1 : mx_up d.1 222 0 0 222 2 = i3 n := by rw [up_at, if_neg (by omega)]; exact h3
    have zd : mx_out V2 d (mx_up (mx_up (mx_up (mx_up (mx_up (mx_up d.1 222 0 0) 222 2 0) 222 3 (i3 n)) 222 4 (i3 lim)) 222 10 0) 222 5 0, d.2) := mx_out_up (mx_out_up (mx_out_up (mx_out_up (mx_out_up (mx_out_up mx_out.rf rfl ⟨rfl, by omega⟩) rfl ⟨rfl, by omega⟩) rfl ⟨rfl, by omega⟩) rfl ⟨rfl, by omega⟩) rfl ⟨rfl, by omega⟩) rfl ⟨rfl, by omega⟩
    have hY : Ty (mx_up (mx_up (mx_up (mx_up (mx_up (mx_up d.1 222 0 0) 222 2 0) 222 3 (i3 n)) 222 4 (i3 lim)) 222 10 0) 222 5 0, d.2) n lim t := by
      refine ⟨h1, hl, ?_, ?_, fun j hj => ?_⟩
      · show mx_up (mx_up (mx_up (mx_up (mx_up (mx_up d.1 222 0 0) 222 2 0) 222 3 (i3 n)) 222 4 (i3 lim)) 222 10 0) 222 5 0 222 3 = _
        rw [up_at, if_neg (by omega), up_at, if_neg (by omega), up_at, if_neg (by omega), up_at, if_pos rfl]
      · show mx_up (mx_up (mx_up (mx_up (mx_up (mx_up d.1 222 0 0) 222 2 0) 222 3 (i3 n)) 222 4 (i3 lim)) 222 10 0) 222 5 0 222 4 = _
        rw [up_at, if_neg (by omega), up_at, if_neg (by omega), up_at, if_pos rfl]
      · rw [zd.fld 223 j (by unfold V2; omega)]; exact ⟨(h4 j hj).1, (h4 j hj).2.2⟩
    obtain ⟨d1, f1, b1, b2', b3, b4⟩ := M_go (p := 0) hY (by omega) (mx_up_self (mx_up (mx_up (mx_up (mx_up (mx_up d.1 222 0 0) 222 2 0) 222 3 (i3 n)) 222 4 (i3 lim)) 222 10 0) 222 5 0)
    have eb : FX12_begin 222 (i3 lim) d = some d1 := by
      unfold FX12_begin FX12_take
      rw [mx_letI, mx_letI, mx_letI, ob_some]
      dsimp only
      rw [t1, mx_letI, mx_letI, mx_letI, mx_letI]
      show Option.bind (FX12_go 222 (mx_up (mx_up (mx_up (mx_up (mx_up (mx_up d.1 222 0 0) 222 2 0) 222 3 (i3 n)) 222 4 (i3 lim)) 222 10 0) 222 5 0, d.2)) _ = _
      rw [f1]
      rfl
    rw [eb]
    show hb (Option.bind (FX10_advance 1 (mx_up (mx_up (mx_up (mx_up (mx_up c.1 1 5 (b2 x)) 1 3 (i3 (min n lim))) 1 4 0) 1 10 0) 1 11 0, c.2)) _) _ _
    rw [e1, ob_some]
    refine hb_some ⟨⟨Tx_mv hX a4 (fun b j q => by unfold W1 at q; omega), Ty_mv hY b4 (fun b j q => by unfold W2 at q; omega), by omega, a1, b1, a2, b2', a3, b3, ?_, ?_⟩, mx_out.tr zc (a4.sub (fun b j q => by unfold W1 at q; unfold V1; omega)), mx_out.tr zd (b4.sub (fun b j q => by unfold W2 at q; unfold V2; omega)), ?_⟩
    · rw [a4.fld 1 10 (by unfold W1; omega)]
      show mx_up (mx_up (mx_up (mx_up (mx_up c.1 1 5 (b2 x)) 1 3 (i3 (min n lim))) 1 4 0) 1 10 0) 1 11 0 1 10 = _
      rw [up_at, if_neg (by omega), up_at, if_pos rfl]
    · rw [b4.fld 222 10 (by unfold W2; omega)]
      show mx_up (mx_up (mx_up (mx_up (mx_up (mx_up d.1 222 0 0) 222 2 0) 222 3 (i3 n)) 222 4 (i3 lim)) 222 10 0) 222 5 0 222 10 = _
      rw [up_at, if_neg (by omega), up_at, if_pos rfl]
    · rw [b4.fld 222 2 (by unfold W2; omega)]
      show mx_up (mx_up (mx_up (mx_up (mx_up (mx_up d.1 222 0 0) 222 2 0) 222 3 (i3 n)) 222 4 (i3 lim)) 222 10 0) 222 5 0 222 2 = _
      rw [up_at, if_neg (by omega), up_at, if_neg (by omega), up_at, if_neg (by omega), up_at, if_neg (by omega), up_at, if_pos rfl]
  unfold FX10_begin
  rw [h2]
  by_cases q : n ≤ lim
  · rw [if_pos (by rw [i3_le (by omega) (by omega)]; exact q)]
    exact key false (by rw [decide_eq_false (by omega)])
  · rw [if_neg (by rw [i3_le (by omega) (by omega)]; exact q)]
    exact key true (by rw [decide_eq_true (by omega)])
/-- the end, or an overlong text -/
theorem PR_ends (h : PR c d n lim t p) (h6 : c.1 1 6 = 0) : (FX10_endsHere 1 c = some (1, c) ∧ d.1 222 7 = 0) ∨ (d.1 222 7 = 1 ∧ ∃ c' d', FX10_endsHere 1 c = some (0, c') ∧ FX12_bad 222 1 d = some (0, d') ∧ RF c d c' d') := by
  have hv : vEnd c d := by
    rcases PR_view h with ⟨q, -⟩ | ⟨-, ⟨q1, q2⟩ | ⟨i, q0, q1, q2, -⟩ | ⟨w, -, -, q1, -, q2, -⟩ | ⟨v, -, q1, -, q2, -⟩ | ⟨v, q0, q1, q2, q3⟩⟩
    · exact q
    · rw [h6] at q1; exact absurd q1 (by decide)
    · rw [h6] at q1
      have : i3 0 = i3 (100 + i) := q1
      rw [i3_eq (by omega) (by omega)] at this; omega
    · rw [h6] at q1; exact absurd q1 (by decide)
    · rw [h6] at q1; exact absurd q1 (by decide)
    · have := isG_lt q0
      rw [h6] at q1
      have q : i3 0 = i3 v := q1
      rw [i3_eq (by omega) (by omega)] at q; omega
  unfold FX10_endsHere
  rw [mx_letI, if_pos h6]
  rcases hv.2 with ⟨q1, q2⟩ | ⟨q1, q2⟩
  · rw [if_pos q1]
    exact Or.inl ⟨rfl, q2⟩
  · rw [if_neg (by rw [q1]; decide)]
    obtain ⟨c1, d1, e1, e2, q⟩ := PR_no h (x := 1) (fun _ => rfl)
    refine Or.inr ⟨q2, c1, d1, ?_, e2, q⟩
    rw [e1, ob_some]
    rfl
end PRIMC
