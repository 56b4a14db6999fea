/-! ===== operations: proof, image, restore ===== -/
section OPI
variable {c c' d d' : mB}
theorem pstep {N : Rw} {k : Nat} {fk : Option Nat} (hbr : ∀ m : mB, m.1 224 = N → FX12_breaks 222 (i3 k) m = some (oi fk)) (h1 : 1 ≤ k) (h4 : k ≤ 4) {m : mB} (hN : m.1 224 = N) (h31 : m.1 222 31 = 0) (f : Nat) :
    (fk = none → FX12_proof_L17 222 (f + 1) (i3 k) m = FX12_proof_L17 222 f (i3 (k + 1)) (mx_up m.1 222 32 (-1), m.2)) ∧ (∀ i, fk = some i → i < 1000 → FX12_proof_L17 222 (f + 2) (i3 k) m = some (mx_up (mx_up m.1 222 32 (i3 i)) 222 31 (i3 k), m.2)) := by
  have n4 : ¬ 4 < i3 k := by show ¬ i3 4 < i3 k; rw [i3_lt (by omega) (by omega)]; omega
  refine ⟨fun e => ?_, fun i e hi => ?_⟩
  · rw [FX12_proof_L17, if_neg n4, if_pos h31, hbr m hN, e, ob_some, mx_letI]
    show (if mx_up m.1 222 32 (oi none) 222 32 = -1 then _ else _) = _
    rw [mx_up_self, if_pos (show oi none = -1 from rfl), mx_letI, i3_succ]
    rfl
  · rw [FX12_proof_L17, if_neg n4, if_pos h31, hbr m hN, e, ob_some, mx_letI]
    show (if mx_up m.1 222 32 (oi (some i)) 222 32 = -1 then _ else _) = _
    rw [mx_up_self, if_neg (show ¬ oi (some i) = -1 from fun q => (i3_ne1 (a := i) (by omega)).mp q), mx_letI, mx_letI]
    show FX12_proof_L17 222 (f + 1) (i3 k + 1) (mx_up (mx_up m.1 222 32 (i3 i)) 222 31 (i3 k), m.2) = _
    rw [FX12_proof_L17]
    by_cases q : 4 < i3 k + 1
    · rw [if_pos q]
    · rw [if_neg q]
      show (if mx_up (mx_up m.1 222 32 (i3 i)) 222 31 (i3 k) 222 31 = 0 then _ else _) = _
      rw [mx_up_self, if_neg (by show ¬ i3 k = i3 0; rw [i3_eq (by omega) (by omega)]; omega)]
theorem O_proof (h : RR c d) : Sm (FX11_proof 0 c) (FX12_proof 222 d) := by
  have h0 := th0 h 0
  unfold FX12_proof
  rw [mx_letI]
  generalize (mx_up d.1 222 0 0, d.2) = d0 at h0 ⊢
  rw [mx_letI, mx_letI]
  obtain ⟨g, s, hg, hs⟩ := h0.2.2.1.1
  have hn := g.1.2
  have hL := g.2.1.2
  have hK := s.1.2
  have zA : mx_out (fun b j => b = 222 ∧ (j = 31 ∨ j = 32)) d0 (mx_up (mx_up d0.1 222 31 0) 222 32 (-1), d0.2) := mx_out_up (mx_out_up mx_out.rf rfl ⟨rfl, Or.inl rfl⟩) rfl ⟨rfl, Or.inr rfl⟩
  have N1 : (mx_up (mx_up d0.1 222 31 0) 222 32 (-1), d0.2).1 224 = d0.1 224 := zA.cell 224 (fun j => by omega)
  have z31 : (mx_up (mx_up d0.1 222 31 0) 222 32 (-1), d0.2).1 222 31 = 0 := by
    show mx_up (mx_up d0.1 222 31 0) 222 32 (-1) 222 31 = 0
    rw [up_at, if_neg (by omega), up_at, if_pos rfl]
  have p1 := fun f => pstep (k := 1) (fun m e => M_breaks1 g s e) (by omega) (by omega) N1 z31 f
  dsimp only
  generalize hd3 : (mx_up (mx_up d0.1 222 31 0) 222 32 (-1), d0.2) = d3 at zA N1 z31 p1
  have st : ∀ m : mB, mx_out (fun b j => b = 222 ∧ (j = 31 ∨ j = 32)) d0 m → m.1 222 31 = 0 → mx_out (fun b j => b = 222 ∧ (j = 31 ∨ j = 32)) d0 (mx_up m.1 222 32 (-1), m.2) ∧ (mx_up m.1 222 32 (-1), m.2).1 224 = d0.1 224 ∧ (mx_up m.1 222 32 (-1), m.2).1 222 31 = 0 := fun m z q => by
    have z' : mx_out (fun b j => b = 222 ∧ (j = 31 ∨ j = 32)) d0 (mx_up m.1 222 32 (-1), m.2) := mx_out_up z rfl ⟨rfl, Or.inr rfl⟩
    refine ⟨z', z'.cell 224 (fun j => by omega), ?_⟩
    show mx_up m.1 222 32 (-1) 222 31 = 0
    rw [up_at, if_neg (by omega)]; exact q
  -- what is noted
  have fin : ∀ (k i : Nat) (v : Int32) (m : mB), 1 ≤ k → k ≤ 4 → i < 1000 → mx_out (fun b j => b = 222 ∧ (j = 31 ∨ j = 32)) d0 m → ((k = 1 ∨ k = 2) ∧ i < nL (d0.1 224) ∧ v = slk (d0.1 224) i ∨ k = 3 ∧ i < nP (d0.1 224) ∧ v = d0.1 224 (168 + i) ∨ k = 4 ∧ i < nK (d0.1 224) ∧ v = d0.1 224 (184 + i)) → Sm (Option.bind (FX11_noteFlaw 0 (i3 k) (i3 i) v c) (fun r => some (r.1, r.2))) (if (mx_up (mx_up m.1 222 32 (i3 i)) 222 31 (i3 k)) 222 31 = 0 then some (0, (mx_up (mx_up m.1 222 32 (i3 i)) 222 31 (i3 k), m.2)) else if 3 ≤ (mx_up (mx_up m.1 222 32 (i3 i)) 222 31 (i3 k)) 222 31 then (if (mx_up (mx_up m.1 222 32 (i3 i)) 222 31 (i3 k)) 222 31 = 3 then mx_chk (mx_inb (168 + (mx_up (mx_up m.1 222 32 (i3 i)) 222 31 (i3 k)) 222 32) 432) (mx_let (mx_up (mx_up (mx_up m.1 222 32 (i3 i)) 222 31 (i3 k)) 222 33 ((mx_up (mx_up m.1 222 32 (i3 i)) 222 31 (i3 k)) (222 + 2) (Int32.toNatClampNeg (168 + (mx_up (mx_up m.1 222 32 (i3 i)) 222 31 (i3 k)) 222 32))), m.2) (fun m19 => some (m19.1 222 31, m19))) else mx_chk (mx_inb (184 + (mx_up (mx_up m.1 222 32 (i3 i)) 222 31 (i3 k)) 222 32) 432) (mx_let (mx_up (mx_up (mx_up m.1 222 32 (i3 i)) 222 31 (i3 k)) 222 33 ((mx_up (mx_up m.1 222 32 (i3 i)) 222 31 (i3 k)) (222 + 2) (Int32.toNatClampNeg (184 + (mx_up (mx_up m.1 222 32 (i3 i)) 222 31 (i3 k)) 222 32))), m.2) (fun m17 => some (m17.1 222 31, m17)))) else Option.bind (FX12_slackOf 222 ((mx_up (mx_up m.1 222 32 (i3 i)) 222 31 (i3 k)) 222 32) (mx_up (mx_up m.1 222 32 (i3 i)) 222 31 (i3 k), m.2)) (fun r20 => mx_let (mx_up (mx_up (mx_up m.1 222 32 (i3 i)) 222 31 (i3 k)) 222 33 r20, m.2) (fun m21 => some (m21.1 222 31, m21)))) := by
    intro k i v m k1 k4 hi z hv
    have u31 : mx_up (mx_up m.1 222 32 (i3 i)) 222 31 (i3 k) 222 31 = i3 k := mx_up_self _ _ _ _
    have u32 : mx_up (mx_up m.1 222 32 (i3 i)) 222 31 (i3 k) 222 32 = i3 i := by rw [up_at, if_neg (by omega), up_at, if_pos rfl]
    have u224 : mx_up (mx_up m.1 222 32 (i3 i)) 222 31 (i3 k) (222 + 2) = d0.1 224 := by
      show mx_up (mx_up m.1 222 32 (i3 i)) 222 31 (i3 k) 224 = _
      rw [up_off _ (by omega), up_off _ (by omega)]; exact z.cell 224 (fun j => by omega)
    rw [u31, u32, u224, if_neg (by show ¬ i3 k = i3 0; rw [i3_eq (by omega) (by omega)]; omega)]
    have out : Sm (Option.bind (FX11_noteFlaw 0 (i3 k) (i3 i) v c) (fun r => some (r.1, r.2))) (some (mx_up (mx_up (mx_up m.1 222 32 (i3 i)) 222 31 (i3 k)) 222 33 v 222 31, (mx_up (mx_up (mx_up m.1 222 32 (i3 i)) 222 31 (i3 k)) 222 33 v, m.2))) := by
      have zz : mx_out (fun b j => b = 222 ∧ (j = 31 ∨ j = 32 ∨ j = 33)) d0 (mx_up (mx_up (mx_up m.1 222 32 (i3 i)) 222 31 (i3 k)) 222 33 v, m.2) := mx_out_up (mx_out_up (mx_out_up (z.sub (fun b j q => by omega)) rfl (by omega)) rfl (by omega)) rfl (by omega)
      have zc : mx_out (fun b j => b = 0 ∧ (j = 16 ∨ j = 17)) c (mx_up (mx_up c.1 0 16 (i3 i)) 0 17 v, c.2) := mx_out_up (mx_out_up mx_out.rf rfl (by omega)) rfl (by omega)
      refine hb_some ⟨?_, RR_0 h0 (ag_of zc (fun b j q => by omega)) (ag_of zz (fun b j q => by unfold SD at q; omega)) ⟨?_, fun _ => ?_⟩ (AD_mv h0.2.2.2.2.2.2.2.1 (ag_of zc (fun b j q => by omega)) (ag_of zz (fun b j q => by omega)))⟩
      · show i3 k = mx_up (mx_up (mx_up m.1 222 32 (i3 i)) 222 31 (i3 k)) 222 33 v 222 31
        rw [up_at, if_neg (by omega), u31]
      · show mx_up (mx_up c.1 0 16 (i3 i)) 0 17 v 0 16 = mx_up (mx_up (mx_up m.1 222 32 (i3 i)) 222 31 (i3 k)) 222 33 v 222 32
        rw [up_at, if_neg (by omega), up_at, if_pos rfl, up_at, if_neg (by omega), u32]
      · show mx_up (mx_up c.1 0 16 (i3 i)) 0 17 v 0 17 = mx_up (mx_up (mx_up m.1 222 32 (i3 i)) 222 31 (i3 k)) 222 33 v 222 33
        rw [mx_up_self, mx_up_self]
    rcases hv with ⟨hk, hi2, rfl⟩ | ⟨hk, hi2, rfl⟩ | ⟨hk, hi2, rfl⟩
    · rw [if_neg (by show ¬ i3 3 ≤ i3 k; rw [i3_le (by omega) (by omega)]; omega), M_slackOf_y g s (d := (mx_up (mx_up m.1 222 32 (i3 i)) 222 31 (i3 k), m.2)) u224 hi2, ob_some, mx_letI]
      exact out
    · rw [if_pos (by show i3 3 ≤ i3 k; rw [i3_le (by omega) (by omega)]; omega), if_pos (by rw [hk]; rfl), i3_Ladd, mx_inb_i3 (by omega) (by omega), mx_chkT, i3_toNat (by omega), mx_letI]
      exact out
    · rw [if_pos (by show i3 3 ≤ i3 k; rw [i3_le (by omega) (by omega)]; omega), if_neg (by rw [hk]; decide), i3_Ladd, mx_inb_i3 (by omega) (by omega), mx_chkT, i3_toNat (by omega), mx_letI]
      exact out
  unfold FX11_proof
  show Sm (Option.bind (FX4_firstLinkBelow 4 c) _) (Option.bind (FX12_proof_L17 222 (99998 + 2) (i3 1) d3) _)
  rw [C_first1 g s hg hs, ob_some]
  cases e1 : f1 (d0.1 224) with
  | some i =>
    have hi := (ff_some.mp e1).1
    rw [if_neg (show ¬ oi (some i) = -1 from fun q => (i3_ne1 (a := i) (by omega)).mp q), (p1 99998).2 i e1 (by omega), ob_some]
    show Sm (Option.bind (FX4_slackOf 4 (i3 i) c) _) _
    rw [C_slackOf_y g s hg hs hi, ob_some]
    exact fin 1 i _ d3 (by omega) (by omega) (by omega) zA (Or.inl ⟨Or.inl rfl, hi, rfl⟩)
  | none =>
    obtain ⟨z4, N4, y4⟩ := st d3 zA z31
    rw [if_pos (show oi none = -1 from rfl)]
    show Sm (Option.bind (FX4_firstLoosePair 4 c) _) (Option.bind (FX12_proof_L17 222 (99999 + 1) (i3 1) d3) _)
    rw [(p1 99999).1 e1, C_first2 g s hg hs, ob_some]
    have p2 := fun f => pstep (k := 2) (fun m e => M_breaks2 g s e) (by omega) (by omega) N4 y4 f
    generalize (mx_up d3.1 222 32 (-1), d3.2) = d4 at z4 N4 y4 p2 ⊢
    show Sm _ (Option.bind (FX12_proof_L17 222 (99997 + 2) (i3 2) d4) _)
    cases e2 : f2 (d0.1 224) with
    | some i =>
      have hi := (ff_some.mp e2).1
      rw [if_neg (show ¬ oi (some i) = -1 from fun q => (i3_ne1 (a := i) (by omega)).mp q), (p2 99997).2 i e2 (by omega), ob_some]
      show Sm (Option.bind (FX4_slackOf 4 (i3 i) c) _) _
      rw [C_slackOf_y g s hg hs hi, ob_some]
      exact fin 2 i _ d4 (by omega) (by omega) (by omega) z4 (Or.inl ⟨Or.inr rfl, hi, rfl⟩)
    | none =>
      obtain ⟨z5, N5, y5⟩ := st d4 z4 y4
      rw [if_pos (show oi none = -1 from rfl)]
      show Sm (Option.bind (FX4_firstPricedLone 4 c) _) (Option.bind (FX12_proof_L17 222 (99998 + 1) (i3 2) d4) _)
      rw [(p2 99998).1 e2, C_first3 g s hg hs, ob_some]
      have p3 := fun f => pstep (k := 3) (fun m e => M_breaks3 g s e) (by omega) (by omega) N5 y5 f
      generalize (mx_up d4.1 222 32 (-1), d4.2) = d5 at z5 N5 y5 p3 ⊢
      show Sm _ (Option.bind (FX12_proof_L17 222 (99996 + 2) (i3 3) d5) _)
      cases e3 : f3 (d0.1 224) with
      | some i =>
        have hi := (ff_some.mp e3).1
        rw [if_neg (show ¬ oi (some i) = -1 from fun q => (i3_ne1 (a := i) (by omega)).mp q), (p3 99996).2 i e3 (by omega), ob_some]
        show Sm (Option.bind (FX4_priceOf 4 (i3 i) c) _) _
        rw [C_priceOf_y g hg hs hi, ob_some]
        exact fin 3 i _ d5 (by omega) (by omega) (by omega) z5 (Or.inr (Or.inl ⟨rfl, hi, rfl⟩))
      | none =>
        obtain ⟨z6, N6, y6⟩ := st d5 z5 y5
        rw [if_pos (show oi none = -1 from rfl)]
        show Sm (Option.bind (FX4_firstCrownedUnfilled 4 c) _) (Option.bind (FX12_proof_L17 222 (99997 + 1) (i3 3) d5) _)
        rw [(p3 99997).1 e3, C_first4 g s hg hs, ob_some]
        have p4 := fun f => pstep (k := 4) (fun m e => M_breaks4 g s e) (by omega) (by omega) N6 y6 f
        generalize (mx_up d5.1 222 32 (-1), d5.2) = d6 at z6 N6 y6 p4 ⊢
        show Sm _ (Option.bind (FX12_proof_L17 222 (99995 + 2) (i3 4) d6) _)
        cases e4 : f4 (d0.1 224) with
        | some i =>
          have hi := (ff_some.mp e4).1
          rw [if_neg (show ¬ oi (some i) = -1 from fun q => (i3_ne1 (a := i) (by omega)).mp q), (p4 99995).2 i e4 (by omega), ob_some]
          show Sm (Option.bind (FX4_crownOf 4 (i3 i) c) _) _
          rw [C_crownOf_y s hs hi, ob_some]
          exact fin 4 i _ d6 (by omega) (by omega) (by omega) z6 (Or.inr (Or.inr ⟨rfl, hi, rfl⟩))
        | none =>
          obtain ⟨z7, N7, y7⟩ := st d6 z6 y6
          rw [if_pos (show oi none = -1 from rfl)]
          show Sm _ (Option.bind (FX12_proof_L17 222 (99996 + 1) (i3 4) d6) _)
          rw [(p4 99996).1 e4]
          have e32 : (mx_up d6.1 222 32 (-1), d6.2).1 222 32 = -1 := mx_up_self d6.1 222 32 (-1)
          generalize (mx_up d6.1 222 32 (-1), d6.2) = d7 at z7 N7 y7 e32 ⊢
          show Sm _ (Option.bind (FX12_proof_L17 222 (99995 + 1) (i3 5) d7) _)
          rw [FX12_proof_L17, if_pos (by decide), ob_some, if_pos y7]
          have zc : mx_out (fun b j => b = 0 ∧ (j = 16 ∨ j = 17)) c (mx_up (mx_up c.1 0 16 (-1)) 0 17 0, c.2) := mx_out_up (mx_out_up mx_out.rf rfl (by omega)) rfl (by omega)
          refine hb_some ⟨rfl, RR_0 h0 (ag_of zc (fun b j q => by omega)) (ag_of z7 (fun b j q => by unfold SD at q; omega)) ⟨?_, fun q => absurd e32 q⟩ (AD_mv h0.2.2.2.2.2.2.2.1 (ag_of zc (fun b j q => by omega)) (ag_of z7 (fun b j q => by omega)))⟩
          show mx_up (mx_up c.1 0 16 (-1)) 0 17 0 0 16 = d7.1 222 32
          rw [up_at, if_neg (by omega), up_at, if_pos rfl, e32]
end OPI
