/-! ===== operations: turn, shrink, undo; the tape ===== -/
section OPC
variable {c c' d d' : mB}
theorem Ri_mv {r k : Nat} {g : Nat → Nat} (h : Ri c r k g) (hc : ag (fun b j => (b = r ∧ j = 1) ∨ b = r + 1) c c') : Ri c' r k g := by
  obtain ⟨⟨h1, h2⟩, h3⟩ := h
  refine ⟨⟨by rw [(hc r 1 (by omega)).1]; exact h1, h2⟩, fun i hi => ?_⟩
  rw [(hc (r + 1) i (by omega)).1]; exact h3 i hi
theorem nTurn_off {N : Rw} {k : Nat} {f : Nat → Nat} (hp : ∀ i, i < k → f i < 10) {j : Nat} (hj : j < 125 ∨ 190 ≤ j) : nTurn N k f j = N j := by
  unfold nTurn
  rw [ud_ne _ _ (by omega), tn_off]
  intro i hi
  have := hp i (by omega)
  omega
theorem O_turn (h : RR c d) : Sm (FX11_turn 0 c) (FX12_turn 222 d) := by
  have h0 := th0 h 0
  unfold FX11_turn FX12_turn
  rw [mx_letI]
  generalize (mx_up d.1 222 0 0, d.2) = d0 at h0 ⊢
  obtain ⟨g, s, hg, hs⟩ := h0.2.2.1.1
  obtain ⟨k, f, hr, hf, hv, hk2, hdis⟩ := h0.2.2.2.2.1
  obtain ⟨a, kk, hH, hkk⟩ := h0.2.2.2.1
  obtain ⟨c1, e1, H1, M1, N1', z1⟩ := C_mark hH h0.2.2.1
  have hr1 : Ri c1 41 k f := Ri_mv hr (ag_of z1 (fun b j q => by omega))
  have hrow : ∀ i, i < k → d0.1 236 i = i3 (f i) ∧ f i < 10 := fun i hi => ⟨hv i hi, (hr.2 i hi).2⟩
  have h10 := hr.1.2.1
  obtain ⟨b, eb, hbi⟩ := M_isPath (q1 := 236) g s rfl h10 hk2 hrow hdis
  show Sm (Option.bind (FX3_mark 68 4 c) _) (Option.bind (FX12_isPath 222 236 10 (d0.1 222 29) d0) _)
  rw [e1, ob_some, hf, eb, ob_some]
  rcases C_turnAlong N1'.1 hr1 hk2 (by omega) hdis with ⟨hp, c2, e2, n2⟩ | ⟨hp, e2⟩
  · have hb1 : b = true := hbi.mpr hp
    subst hb1
    rw [if_neg (show ¬ b2 true = 0 by decide)]
    have pt := isP_pt g hp
    have hn := g.1.2
    obtain ⟨c3, d1, e3, e4, f4, R⟩ := RR_done h0 hkk H1 M1 z1 n2 (WN_of (ZX4_turnAlong e2) (fun b j q => by unfold WSX4_turnAlong at q; omega)) (fun j hj => nTurn_off (fun i hi => by have := pt i hi; omega) hj)
    have zs := ZX12_snap e4
    have f29 : d1.1 222 29 = i3 k := by rw [zs.fld 222 29 (by unfold WSX12_snap; omega)]; exact hf
    show Sm (Option.bind (FX4_turnAlong 4 41 c1) _) _
    rw [e2, ob_some]
    unfold FX11_keepIfDone
    dsimp only
    rw [if_pos rfl]
    show Sm (Option.bind (Option.bind (FX3_keep 68 c2) _) _) _
    rw [e3, e4, ob_some, ob_some, ob_some, f29]
    show Sm _ (Option.bind (FX12_turnPath 222 236 10 (i3 k) d1) _)
    rcases M_turnPath (q1 := 236) g f4 h10 hk2 (by omega) (fun i hi => by rw [zs.cell 236 (fun j => by unfold WSX12_snap; omega)]; exact hrow i hi) with q | ⟨i, hi, q⟩
    · rw [q, ob_some]
      exact hb_some ⟨rfl, R⟩
    · have := pt i hi; omega
  · have hb1 : b = false := by
      cases b with
      | false => rfl
      | true => exact absurd (hbi.mp rfl) hp
    subst hb1
    rw [if_pos (show b2 false = 0 from rfl)]
    show Sm (Option.bind (FX4_turnAlong 4 41 c1) _) _
    rw [e2, ob_some]
    unfold FX11_keepIfDone
    dsimp only
    rw [if_neg (show ¬ (1 : Int32) = 0 by decide), ob_some]
    exact hb_some ⟨rfl, RR_ref h0 H1 hkk N1' z1⟩
theorem O_shrink (h : RR c d) : Sm (FX11_shrink 0 c) (FX12_shrink 222 d) := by
  have h0 := th0 h 0
  unfold FX11_shrink FX12_shrink
  rw [mx_letI]
  generalize (mx_up d.1 222 0 0, d.2) = d0 at h0 ⊢
  obtain ⟨g, s, hg, hs⟩ := h0.2.2.1.1
  obtain ⟨k, f, hr, hf, hv, hk2, hdis⟩ := h0.2.2.2.2.2.1
  obtain ⟨a, kk, hH, hkk⟩ := h0.2.2.2.1
  obtain ⟨c1, e1, H1, M1, N1', z1⟩ := C_mark hH h0.2.2.1
  have hr1 : Ri c1 43 k f := Ri_mv hr (ag_of z1 (fun b j q => by omega))
  have hrow : ∀ i, i < k → d0.1 237 i = i3 (f i) ∧ f i < 10 := fun i hi => ⟨hv i hi, (hr.2 i hi).2⟩
  have h10 := hr.1.2.1
  have hn := g.1.2
  have h6 := s.1.2
  obtain ⟨b, eb, hbi⟩ := M_isFlower g rfl hf h10 hk2 hrow
  show Sm (Option.bind (FX3_mark 68 4 c) _) _
  rw [e1, ob_some, eb, ob_some]
  show Sm (Option.bind (FX4_shrinkAlong 4 43 c1) _) _
  unfold FX11_keepIfDone
  rcases C_shrinkAlong N1'.1 hr1 hk2 hdis with ⟨hp, c2, e2, n2, i2⟩ | ⟨hp, e2⟩
  · have hb1 : b = true := hbi.mpr hp
    subst hb1
    have e125 : d0.1 224 125 = i3 (nK (d0.1 224)) := s.1.1
    rw [if_neg (show ¬ b2 true = 0 by decide), e2, ob_some]
    show Sm _ (Option.bind (FX12_shrink_L18 222 d0 mx_FU (i3 0) (i3 0)) _)
    rw [M_shr_L hf h10 hrow, ob_some]
    show Sm _ (Option.bind (FX12_isOddIn 222 224 432 (i3 178) (d0.1 224 125) (i3 (sN f k)) d0) _)
    rw [e125, M_isOddIn rfl (by omega) (by omega), ob_some]
    have eff : (ff (fun j => decide (d0.1 224 (178 + j) = i3 (sN f k))) (nK (d0.1 224))) = fset (d0.1 224) (i3 (sN f k)) := rfl
    rw [eff]
    unfold rShr at e2 n2 i2 ⊢
    cases ef : fset (d0.1 224) (i3 (sN f k)) with
    | some j =>
      rw [ef] at e2 n2 i2
      dsimp only at e2 n2 i2 ⊢
      rw [if_neg (show ¬ b2 (some j).isSome = 0 by show ¬ b2 true = 0; decide), if_neg (show ¬ (2 : Int32) = 0 by decide), ob_some, i2 (by decide)]
      exact hb_some ⟨rfl, RR_ref h0 H1 hkk N1' z1⟩
    | none =>
      rw [ef] at e2 n2 i2
      dsimp only at e2 n2 i2 ⊢
      rw [if_pos (show b2 (none : Option Nat).isSome = 0 from rfl)]
      by_cases q6 : nK (d0.1 224) < 6
      · rw [if_pos q6] at e2 n2 i2 ⊢
        rw [if_pos rfl] at n2
        obtain ⟨c3, d1, e3, e4, f4, R⟩ := RR_done h0 hkk H1 M1 z1 n2 (WN_of (ZX4_shrinkAlong e2) (fun b j q => by unfold WSX4_shrinkAlong at q; omega)) (fun j hj => nShr_at j (by omega) (by omega) (by omega) (by omega))
        rw [if_pos rfl]
        show Sm (Option.bind (Option.bind (FX3_keep 68 c2) _) _) _
        rw [e3, ob_some, ob_some]
        have d125 : d1.1 (222 + 2) 125 = i3 (nK (d0.1 224)) := by show d1.1 224 125 = _; rw [f4]; exact e125
        have hd125 : d0.1 (222 + 2) 125 = i3 (nK (d0.1 224)) := e125
        rw [if_neg (show ¬ i3 (nK (d0.1 224)) = 6 by show ¬ _ = i3 6; rw [i3_eq (by omega) (by omega)]; omega), e4, ob_some, d125, i3_Ladd, mx_inb_i3 (by omega) (by omega), mx_chkT, i3_toNat (by omega), mx_letI]
        have u1 : (mx_up d1.1 (222 + 2) (178 + nK (d0.1 224)) (i3 (sN f k))) (222 + 2) 125 = i3 (nK (d0.1 224)) := by rw [up_at, if_neg (by omega)]; exact d125
        dsimp only
        rw [u1, i3_Ladd, mx_inb_i3 (by omega) (by omega), mx_chkT, i3_toNat (by omega), mx_letI, mx_letI, mx_letI]
        have u2 : (mx_up (mx_up d1.1 (222 + 2) (178 + nK (d0.1 224)) (i3 (sN f k))) (222 + 2) (184 + nK (d0.1 224)) 0) (222 + 2) 125 = i3 (nK (d0.1 224)) := by rw [up_at, if_neg (by omega)]; exact u1
        refine hb_some ⟨rfl, ?_⟩
        have key : (mx_up (mx_up (mx_up (mx_up d1.1 (222 + 2) (178 + nK (d0.1 224)) (i3 (sN f k))) (222 + 2) (184 + nK (d0.1 224)) 0) (222 + 2) 125 ((mx_up (mx_up d1.1 (222 + 2) (178 + nK (d0.1 224)) (i3 (sN f k))) (222 + 2) (184 + nK (d0.1 224)) 0) (222 + 2) 125 + 1)) (222 + 2) 127 ((mx_up (mx_up (mx_up d1.1 (222 + 2) (178 + nK (d0.1 224)) (i3 (sN f k))) (222 + 2) (184 + nK (d0.1 224)) 0) (222 + 2) 125 ((mx_up (mx_up d1.1 (222 + 2) (178 + nK (d0.1 224)) (i3 (sN f k))) (222 + 2) (184 + nK (d0.1 224)) 0) (222 + 2) 125 + 1)) (222 + 2) 127 + 1), d1.2) = sr d1 (nShr (d0.1 224) (i3 (sN f k))) := by
          rw [u2, i3_succ]
          refine Prod.ext ?_ rfl
          funext b j
          unfold sr nShr
          dsimp only
          by_cases hb2 : b = 224
          · subst hb2
            rw [if_pos rfl, ← f4]
            show mx_up _ 224 127 _ 224 j = _
            rw [up_ud, up_ud, up_ud, up_ud]
            congr 1
            show ud (ud (ud (d1.1 224) (178 + nK (d1.1 224)) (i3 (sN f k))) (184 + nK (d1.1 224)) 0) 125 (i3 (nK (d1.1 224) + 1)) 127 + 1 = d1.1 224 127 + 1
            rw [ud_ne _ _ (by omega), ud_ne _ _ (by omega), ud_ne _ _ (by omega)]
          · rw [if_neg hb2]
            show mx_up _ 224 127 _ b j = _
            rw [up_off _ hb2, up_off _ hb2, up_off _ hb2, up_off _ hb2]
        show RR c3 (mx_up (mx_up (mx_up (mx_up d1.1 (222 + 2) (178 + nK (d0.1 224)) (i3 (sN f k))) (222 + 2) (184 + nK (d0.1 224)) 0) (222 + 2) 125 ((mx_up (mx_up d1.1 (222 + 2) (178 + nK (d0.1 224)) (i3 (sN f k))) (222 + 2) (184 + nK (d0.1 224)) 0) (222 + 2) 125 + 1)) (222 + 2) 127 ((mx_up (mx_up (mx_up d1.1 (222 + 2) (178 + nK (d0.1 224)) (i3 (sN f k))) (222 + 2) (184 + nK (d0.1 224)) 0) (222 + 2) 125 ((mx_up (mx_up d1.1 (222 + 2) (178 + nK (d0.1 224)) (i3 (sN f k))) (222 + 2) (184 + nK (d0.1 224)) 0) (222 + 2) 125 + 1)) (222 + 2) 127 + 1), d1.2)
        rw [key]
        exact R
      · rw [if_neg q6] at e2 n2 i2 ⊢
        rw [if_pos (show i3 (nK (d0.1 224)) = 6 by rw [show nK (d0.1 224) = 6 by omega]; rfl), if_neg (show ¬ (3 : Int32) = 0 by decide), ob_some, i2 (by decide)]
        exact hb_some ⟨rfl, RR_ref h0 H1 hkk N1' z1⟩
  · have hb1 : b = false := by
      cases b with
      | false => rfl
      | true => exact absurd (hbi.mp rfl) hp
    subst hb1
    rw [if_pos (show b2 false = 0 from rfl), e2, ob_some]
    dsimp only
    rw [if_neg (show ¬ (1 : Int32) = 0 by decide), ob_some]
    exact hb_some ⟨rfl, RR_ref h0 H1 hkk N1' z1⟩
theorem O_undo (h : RR c d) : Sm (FX11_undo 0 c) (FX12_undo 222 d) := by
  have h0 := th0 h 0
  unfold FX12_undo
  rw [mx_letI]
  generalize (mx_up d.1 222 0 0, d.2) = d0 at h0 ⊢
  unfold FX11_undo FX3_takeBack
  obtain ⟨a, k, hH, hkk⟩ := h0.2.2.2.1
  obtain ⟨a9, k8, ha, hk, hrows⟩ := hH
  show Sm (Option.bind (if 0 < c.1 68 2 then _ else _) _) _
  rw [hk, hkk]
  by_cases k0 : k = 0
  · rw [if_neg (by rw [k0]; decide), if_pos (by rw [k0]; rfl), ob_some]
    exact hb_some ⟨rfl, h0⟩
  · rw [if_pos (by show i3 0 < i3 k; rw [i3_lt (by omega) (by omega)]; omega), if_neg (by show ¬ i3 k = i3 0; rw [i3_eq (by omega) (by omega)]; exact k0), mx_letI, mx_letI]
    have ek : i3 k - 1 = i3 (k - 1) := i3_subL (by omega)
    have f1 : (mx_up c.1 (0 + 68) 2 (i3 k - 1)) (0 + 68) 1 = i3 a := by
      show mx_up c.1 68 2 (i3 k - 1) 68 1 = _
      rw [up_at, if_neg (by omega)]; exact ha
    dsimp only
    rw [f1, fmod9' a9, ob_some, mx_letI]
    dsimp only
    rw [mx_up_self, mx_inb_i3 (Nat.mod_lt _ (by omega)) (by omega), mx_chkT, i3_toNat (by have := Nat.mod_lt (a + 8) (show 0 < 9 by omega); omega)]
    have hm := Nat.mod_lt (a + 8) (show 0 < 9 by omega)
    have hrow := hrows (k - 1) (by omega)
    rw [show (a + 9 - k + (k - 1)) % 9 = (a + 8) % 9 by omega] at hrow
    have z1 : mx_out (fun b j => b = 68 ∧ (j = 1 ∨ j = 2)) c (mx_up (mx_up c.1 68 2 (i3 k - 1)) 68 1 (i3 ((a + 8) % 9)), c.2) := mx_out_up (mx_out_up mx_out.rf rfl ⟨rfl, Or.inr rfl⟩) rfl ⟨rfl, Or.inl rfl⟩
    have mv : ∀ {b : Nat} {M : Rw}, 70 ≤ b → NR c b M (d0.2 230) → NR (mx_up (mx_up c.1 68 2 (i3 k - 1)) 68 1 (i3 ((a + 8) % 9)), c.2) b M (d0.2 230) := fun {b M} hb q => NR_mem q (fun x q1 q2 => z1.cell x (fun j => by omega)) (z1.cellL _ (fun j => by omega))
    have hr2 := mv (by omega) hrow
    obtain ⟨c2, e2, n2, l2⟩ := C_copyFrom (a := 4) hr2.1 (by omega)
    have z2 := ZX4_copyFrom e2
    have mv2 : ∀ {b : Nat} {M : Rw}, 70 ≤ b → NR (mx_up (mx_up c.1 68 2 (i3 k - 1)) 68 1 (i3 ((a + 8) % 9)), c.2) b M (d0.2 230) → NR c2 b M (d0.2 230) := fun {b M} hb q => NR_mem q (fun x q1 q2 => z2.cell x (fun j => by unfold WSX4_copyFrom; omega)) (z2.cellL _ (fun j => by unfold WSX4_copyFrom; omega))
    show Sm (Option.bind (Option.bind (FX4_copyFrom 4 (70 + 11 * ((a + 8) % 9)) (mx_up (mx_up c.1 68 2 (i3 k - 1)) 68 1 (i3 ((a + 8) % 9)), c.2)) _) _) _
    rw [e2, ob_some, ob_some]
    dsimp only
    have u25 : mx_up d0.1 222 25 (i3 k - 1) 222 25 = i3 (k - 1) := by rw [mx_up_self, ek]
    rw [u25, i3_Lmul]
    have hN3 : (mx_up d0.1 222 25 (i3 k - 1), d0.2).1 224 = d0.1 224 := up_off d0.1 (b := 222) (b' := 224) (by omega) 25 (i3 k - 1)
    show Sm _ (Option.bind (FX12_comeBack 222 227 520 (i3 (65 * (k - 1))) (mx_up d0.1 222 25 (i3 k - 1), d0.2)) _)
    rw [M_comeBack hN3 (by omega) (by omega) (by omega), ob_some]
    have e27 : (mx_up d0.1 222 25 (i3 k - 1), d0.2).1 227 = d0.1 227 := up_off d0.1 (b := 222) (b' := 227) (by omega) 25 (i3 k - 1)
    have eN : cb (d0.1 224) (fun x => (mx_up d0.1 222 25 (i3 k - 1), d0.2).1 227 (65 * (k - 1) + x)) = kr d0 (k - 1) := by
      rw [e27]
      rfl
    rw [eN]
    have hN' : ∀ j, j < 125 ∨ 190 ≤ j → kr d0 (k - 1) j = (mx_up d0.1 222 25 (i3 k - 1), d0.2).1 224 j := fun j hj => by
      rw [hN3]
      unfold kr cb
      rw [if_neg (by omega)]
    have zr := sr_ag (mx_up d0.1 222 25 (i3 k - 1), d0.2) hN'
    have z25 : mx_out (fun b j => b = 222 ∧ j = 25) d0 (mx_up d0.1 222 25 (i3 k - 1), d0.2) := mx_out_up mx_out.rf rfl ⟨rfl, rfl⟩
    have c68 : c2.1 68 2 = i3 (k - 1) := by
      rw [z2.fld 68 2 (by unfold WSX4_copyFrom; omega)]
      show mx_up (mx_up c.1 68 2 (i3 k - 1)) 68 1 (i3 ((a + 8) % 9)) 68 2 = _
      rw [up_at, if_neg (by omega), up_at, if_pos rfl, ek]
    have c681 : c2.1 68 1 = i3 ((a + 8) % 9) := by
      rw [z2.fld 68 1 (by unfold WSX4_copyFrom; omega)]
      exact mx_up_self (mx_up c.1 68 2 (i3 k - 1)) 68 1 _
    refine hb_some ⟨?_, RR_net h0 (ag_tr (ag_of z1 (fun b j q => by unfold SCn at q; omega)) (ag_of z2 (fun b j q => by unfold SCn SC at q; unfold WSX4_copyFrom; omega))) (ag_tr (ag_of z25 (fun b j q => by unfold SDn at q; omega)) (ag_sub zr (fun b j q => by unfold SDn at q; exact q.2.1))) ?_ ⟨(a + 8) % 9, k - 1, ⟨hm, by omega, c681, c68, fun j hj => ?_⟩, ?_⟩⟩
    · show c2.1 68 2 = (sr (mx_up d0.1 222 25 (i3 k - 1), d0.2) (kr d0 (k - 1))).1 222 25
      rw [c68, sr_ne _ _ (by omega)]; exact u25.symm
    · unfold NE
      rw [sr_row]
      refine ⟨n2, fun p hp => ?_⟩
      rw [l2 p (by have := n2.1.1.2; omega)]
      exact hr2.2 p hp
    · have old := hrows j (by omega)
      rw [show (a + 9 - k + j) % 9 = ((a + 8) % 9 + 9 - (k - 1) + j) % 9 by omega] at old
      refine NR_congr (mv2 (by omega) (mv (by omega) old)) (fun x hx => ?_) (fun x x1 x2 => ?_)
      · rw [kr_lo _ _ (by omega), kr_lo _ _ (by omega), sr_row, kr_lo _ _ (by omega)]
      · rw [kr_hi _ _ x1 x2, kr_hi _ _ x1 x2, sr_ne _ _ (by omega), e27]
    · rw [sr_ne _ _ (by omega)]; exact u25
end OPC
