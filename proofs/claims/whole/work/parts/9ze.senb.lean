/-! ===== a sentence is read: and, or ===== -/
section SENB
variable {c c' d d' : mB} {n lim p L o w P : Nat} {t : Nat → Nat}
theorem SX_61 (h : SX c d L o w) (x : Int32) : SX c (mx_up d.1 222 61 x, d.2) L o w := by
  have zd : mx_out (fun b j => b = 222 ∧ j = 61) d (mx_up d.1 222 61 x, d.2) := mx_out_up mx_out.rf rfl ⟨rfl, rfl⟩
  obtain ⟨h1, h2, h3, h4, h5, h6, h7, h8⟩ := h
  exact ⟨h1, h2, by rw [zd.fld 222 58 (by omega)]; exact h3, by rw [zd.fld 222 59 (by omega)]; exact h4, by rw [zd.fld 222 60 (by omega)]; exact h5, h6, h7, fun i hi => SYP_SB (h8 i hi) hi mx_out.rf (zd.sub (fun b j q => by unfold SB2; omega))⟩
theorem mi_kw {kw : Nat} (h : kw = 10 ∨ kw = 11) : mi kw = kw := by rcases h with h | h <;> subst h <;> rfl
theorem S_loop {F G : mB → Option (Int32 × mB)} {kw : Nat} (hkw : kw = 10 ∨ kw = 11) {cd : Int32} (hcd : kw = 10 ∧ cd = 3 ∨ kw = 11 ∧ cd = 2)
    (hFG : ∀ {c d : mB} {p L o : Nat}, PR c d n lim t p → NmB P c d → SX c d L o w → hb (F c) (G d) (OS c d n lim t L o w))
    {Lc : Nat → Int32 → mB → Option ((Int32 × mB) ⊕ mB)} {Lm : Nat → Int32 → mB → Option ((Int32 × mB) ⊕ (Int32 × mB))}
    (hLc : ∀ f y m, Lc (f + 1) y m = (if 40 ≤ y then (some (.inr m)) else Option.bind (FX10_kind 1 m) (fun r4 => (if r4 = i3 (100 + kw) then Option.bind (FX10_advance 1 m) (fun r6 => Option.bind (F r6) (fun r7 => (if r7.1 = 0 then (some (.inl (0, r7.2))) else Option.bind (FX8_put 179 (i3 (100 + kw)) 0 0 r7.2) (fun r9 => mx_let (y + 1) (fun v10 => (Lc f v10 r9.2)))))) else (some (.inr m))))))
    (hLm : ∀ f y m, Lm (f + 1) y m = Option.bind (FX12_isWord 222 (i3 kw) m) (fun r4 => (if r4 = 0 then (some (.inr (y, m))) else Option.bind (FX12_go 222 m) (fun r6 => Option.bind (G r6) (fun r7 => (if r7.1 = 0 then (some (.inl (0, r7.2))) else Option.bind (FX12_saysOne 222 cd y (r7.2.1 222 61) 0 r7.2) (fun r9 => (Lm f r9.1 r9.2)))))))) :
    ∀ (f f' i : Nat) {c d : mB} {p L o : Nat} {base : List Nat}, PR c d n lim t p → NmB P c d → SX c d L o w → 1 ≤ L → stk (cdf (c.1 180)) L = (L - 1) :: base → i < o → 20 - o < f → 20 - o < f' →
      hb (Lc f (i3 i) c) (Lm f' (i3 (L - 1)) d) (fun r s => (∃ c' d' p' L' o', r = .inr c' ∧ s = .inr (i3 (L' - 1), d') ∧ PR c' d' n lim t p' ∧ SX c' d' L' o' w ∧ L ≤ L' ∧ o ≤ o' ∧ stk (cdf (c'.1 180)) L' = (L' - 1) :: base ∧ L' + 2 * o ≤ L + 2 * o' ∧ mx_out (SB1 L) c c' ∧ mx_out (SB2 L) d d') ∨ (∃ c' d', r = .inl (0, c') ∧ s = .inl (0, d') ∧ FL c' d' ∧ mx_out (SB1 L) c c' ∧ mx_out (SB2 L) d d')) := by
  intro f
  induction f with
  | zero => intro f' i c d p L o base _ _ _ _ _ _ hf; omega
  | succ f ih =>
    intro f' i c d p L o base h hN hS hL hst hi hf hf'
    obtain ⟨f', rfl⟩ : ∃ g, f' = g + 1 := ⟨f' - 1, by omega⟩
    have ho : o ≤ 20 := hS.2.2.2.2.2.1
    rw [hLc, hLm, if_neg (by show ¬ i3 40 ≤ i3 i; rw [i3_le (by omega) (by omega)]; omega)]
    unfold FX10_kind
    rw [ob_some]
    rcases PR_isWord h (k := kw) (by omega) with ⟨q1, q2, q3, q4⟩ | ⟨q1, q2⟩
    · rw [mi_kw hkw] at q1
      rw [if_pos q1, q2, ob_some, if_neg (show ¬ (1 : Int32) = 0 by decide)]
      obtain ⟨c1, d1, e1, e2, r1, r2, r3, r4⟩ := PR_go h q3
      rw [e1, e2, ob_some, ob_some]
      have S1 := SX_U hS r3 r4
      have zc1 : mx_out (SB1 L) c c1 := r3.sub (fun b j q => Or.inl q)
      have zd1 : mx_out (SB2 L) d d1 := r4.sub (fun b j q => Or.inl q)
      have N1 := NmB_SB hN zc1 zd1
      have st1 := stk_SB zc1
      refine hb_bind (hFG r1 N1 S1) (fun r s q => ?_)
      rcases q with ⟨p', L', o', a1, a2, a3, a4, a5, a6, a7, a8, a9, a10, a11⟩ | ⟨a1, a2, a3, a4, a5⟩
      · rw [if_neg (by rw [a1]; decide), if_neg (by rw [a2]; decide)]
        rw [st1, hst] at a7
        have hlen := a4.2.2.2.2.2.2.1
        have ho' := a4.2.2.2.2.2.1
        rw [a7, List.length_cons, List.length_cons] at hlen
        obtain ⟨c2, d2, f1, f2, v1, v2, v3, v4, v5, v6, v7, v8, v9, z1, z2⟩ := S_put (L := L') a4.1 a4.2.2.1 (by omega) (i3 (100 + kw)) 0 0 cd (i3 (L - 1)) (s.2.1 222 61) 0
        rw [f1, f2, ob_some, ob_some, mx_letI, i3_succ]
        have Z1' : mx_out (PZ1 L') r.2 c2 := z1
        have Z2' : mx_out (PZ2 L') s.2 d2 := z2
        have stL : stk (cdf (c2.1 180)) L' = (L' - 1) :: (L - 1) :: base := by rw [stk_SB (PZ1_SB Z1')]; exact a7
        have hA : c2.1 180 L' = 110 ∨ c2.1 180 L' = 111 := by
          rw [v3]
          rcases hkw with e | e <;> subst e
          · exact Or.inl rfl
          · exact Or.inr rfl
        have stL2 : stk (cdf (c2.1 180)) (L' + 1) = L' :: base := by
          show L' :: (if cdf (c2.1 180) L' = 0 then _ else if cdf (c2.1 180) L' = 1 then _ else _) = _
          rw [cdf_2 hA, if_neg (by omega), if_neg (by omega), stL]
          rfl
        have S2 : SX c2 d2 (L' + 1) o' w := by
          refine SX_put a4 v1 v2 Z1' Z2' (Or.inr (Or.inl ⟨?_, L' - 1, L - 1, base, stL, ?_, ?_⟩)) (by rw [stL2, List.length_cons]; omega)
          · rw [v3, Rn_hi, v6]
            rcases hcd with ⟨e1, e2⟩ | ⟨e1, e2⟩ <;> subst e1 e2
            · exact Or.inl ⟨rfl, rfl⟩
            · exact Or.inr ⟨rfl, rfl⟩
          · rw [show 193 + 4 * L' = 192 + (4 * L' + 1) by omega, Rn_hi, v7]
          · rw [show 194 + 4 * L' = 192 + (4 * L' + 2) by omega, Rn_hi, v8, a8]
        have ZC : mx_out (SB1 L) c c2 := mx_out.tr zc1 (mx_out.tr a10 (SB1_mono (by omega) (PZ1_SB Z1')))
        have ZD : mx_out (SB2 L) d d2 := mx_out.tr zd1 (mx_out.tr a11 (SB2_mono (by omega) (PZ2_SB Z2')))
        refine hb_mono (ih f' (i + 1) (L := L' + 1) (PR_mv a3 z1 z2 (fun b j q => by omega) (fun b j q => by omega)) (NmB_SB hN ZC ZD) S2 (by omega) stL2 (by omega) (by omega) (by omega)) (fun x y q => ?_)
        rcases q with ⟨c', d', p2, L2, o2, b1, b2', b3, b4, b5, b6, b7, b8, b9, b10⟩ | ⟨c', d', b1, b2', b3, b4, b5⟩
        · exact Or.inl ⟨c', d', p2, L2, o2, b1, b2', b3, b4, by omega, by omega, b7, by omega, mx_out.tr ZC (SB1_mono (by omega) b9), mx_out.tr ZD (SB2_mono (by omega) b10)⟩
        · exact Or.inr ⟨c', d', b1, b2', b3, mx_out.tr ZC (SB1_mono (by omega) b4), mx_out.tr ZD (SB2_mono (by omega) b5)⟩
      · rw [if_pos a1, if_pos a2]
        exact hb_some (Or.inr ⟨r.2, s.2, rfl, rfl, a3, mx_out.tr zc1 a4, mx_out.tr zd1 a5⟩)
    · rw [mi_kw hkw] at q1
      rw [if_neg q1, q2, ob_some, if_pos rfl]
      exact hb_some (Or.inl ⟨c, d, p, L, o, rfl, rfl, h, hS, by omega, by omega, hst, by omega, mx_out.rf, mx_out.rf⟩)
/-- what comes first, then a loop -/
theorem S_seq {F G : mB → Option (Int32 × mB)} {Lc : Nat → Int32 → mB → Option ((Int32 × mB) ⊕ mB)} {Lm : Nat → Int32 → mB → Option ((Int32 × mB) ⊕ (Int32 × mB))}
    (hF : hb (F c) (G d) (OS c d n lim t L o w)) (hN : NmB P c d)
    (hL : ∀ (f f' i : Nat) {c d : mB} {p L o : Nat} {base : List Nat}, PR c d n lim t p → NmB P c d → SX c d L o w → 1 ≤ L → stk (cdf (c.1 180)) L = (L - 1) :: base → i < o → 20 - o < f → 20 - o < f' →
      hb (Lc f (i3 i) c) (Lm f' (i3 (L - 1)) d) (fun r s => (∃ c' d' p' L' o', r = .inr c' ∧ s = .inr (i3 (L' - 1), d') ∧ PR c' d' n lim t p' ∧ SX c' d' L' o' w ∧ L ≤ L' ∧ o ≤ o' ∧ stk (cdf (c'.1 180)) L' = (L' - 1) :: base ∧ L' + 2 * o ≤ L + 2 * o' ∧ mx_out (SB1 L) c c' ∧ mx_out (SB2 L) d d') ∨ (∃ c' d', r = .inl (0, c') ∧ s = .inl (0, d') ∧ FL c' d' ∧ mx_out (SB1 L) c c' ∧ mx_out (SB2 L) d d'))) :
    hb (Option.bind (F c) (fun r1 => (if r1.1 = 0 then (some (0, r1.2)) else Option.bind (Lc mx_FU 0 r1.2) (fun q11 => Sum.elim (fun rr => some rr) (fun u12 => (some (1, u12))) q11)))) (Option.bind (G d) (fun r1 => (if r1.1 = 0 then (some (0, r1.2)) else mx_let (r1.2.1 222 61) (fun v3 => Option.bind (Lm mx_FU v3 r1.2) (fun q10 => Sum.elim (fun rr => some rr) (fun u11 => mx_let (mx_up u11.2.1 222 61 u11.1, u11.2.2) (fun m13 => (some (1, m13)))) q10))))) (OS c d n lim t L o w) := by
  refine hb_bind hF (fun r s q => ?_)
  rcases q with ⟨p', L', o', a1, a2, a3, a4, a5, a6, a7, a8, a9, a10, a11⟩ | ⟨a1, a2, a3, a4, a5⟩
  · rw [if_neg (by rw [a1]; decide), if_neg (by rw [a2]; decide), mx_letI, a8]
    have ho' := a4.2.2.2.2.2.1
    obtain ⟨x, y, e1, e2, q⟩ := hL mx_FU mx_FU 0 a3 (NmB_SB hN a10 a11) a4 (by omega) a7 (by omega) (FU_lt (by omega)) (FU_lt (by omega))
    have e1' : Lc mx_FU 0 r.2 = some x := e1
    rw [e1', e2, ob_some, ob_some]
    rcases q with ⟨c', d', p2, L2, o2, b1, b2', b3, b4, b5, b6, b7, b8, b9, b10⟩ | ⟨c', d', b1, b2', b3, b4, b5⟩
    · rw [b1, b2', se_inr, se_inr, mx_letI]
      have zd : mx_out (fun b j => b = 222 ∧ j = 61) d' (mx_up d'.1 222 61 (i3 (L2 - 1)), d'.2) := mx_out_up mx_out.rf rfl ⟨rfl, rfl⟩
      exact hb_some (Or.inl ⟨p2, L2, o2, rfl, rfl, PR_mv b3 (S := fun _ _ => False) mx_out.rf zd (fun b j q => q.elim) (fun b j q => by omega), SX_61 b4 _, by omega, by omega, b7, mx_up_self d'.1 222 61 _, by omega, mx_out.tr a10 (SB1_mono (by omega) b9), mx_out.tr a11 (mx_out.tr (SB2_mono (by omega) b10) (zd.sub (fun b j q => by unfold SB2; omega)))⟩)
    · rw [b1, b2', se_inl, se_inl]
      exact hb_some (Or.inr ⟨rfl, rfl, b3, mx_out.tr a10 (SB1_mono (by omega) b4), mx_out.tr a11 (SB2_mono (by omega) b5)⟩)
  · rw [if_pos a1, if_pos a2]
    exact hb_some (Or.inr ⟨rfl, rfl, a3, a4, a5⟩)
theorem S_all {D : Nat} {x : Int32} (hr : ∀ {c d : mB} {p L o : Nat}, PR c d n lim t p → NmB P c d → SX c d L o w → hb (FX8_readOne D 179 1 4 x c) (FX12_readSaid D 222 d) (OS c d n lim t L o w)) (h : PR c d n lim t p) (hN : NmB P c d) (hS : SX c d L o w) : hb (FX8_readAll (FX8_readOne D) 179 1 4 x c) (FX12_readAnd (FX12_readSaid D) 222 d) (OS c d n lim t L o w) :=
  S_seq (F := fun m => FX8_readOne D 179 1 4 x m) (G := fun m => FX12_readSaid D 222 m) (Lc := fun f y m => FX8_readAll_L15 (FX8_readOne D) 179 1 4 x f y m) (Lm := fun f y m => FX12_readAnd_L14 (FX12_readSaid D) 222 f y m) (hr h hN hS) hN (S_loop (kw := 11) (cd := 2) (Or.inr rfl) (Or.inr ⟨rfl, rfl⟩) hr (fun f y m => by rw [FX8_readAll_L15]; rfl) (fun f y m => by rw [FX12_readAnd_L14]; rfl))
theorem S_cond {D : Nat} {x : Int32} (hr : ∀ {c d : mB} {p L o : Nat}, PR c d n lim t p → NmB P c d → SX c d L o w → hb (FX8_readOne D 179 1 4 x c) (FX12_readSaid D 222 d) (OS c d n lim t L o w)) (h : PR c d n lim t p) (hN : NmB P c d) (hS : SX c d L o w) : hb (FX8_readCond (FX8_readOne D) 179 1 4 x c) (FX12_readOr (FX12_readSaid D) 222 d) (OS c d n lim t L o w) :=
  S_seq (F := fun m => FX8_readAll (FX8_readOne D) 179 1 4 x m) (G := fun m => FX12_readAnd (FX12_readSaid D) 222 m) (Lc := fun f y m => FX8_readCond_L15 (FX8_readOne D) 179 1 4 x f y m) (Lm := fun f y m => FX12_readOr_L14 (FX12_readSaid D) 222 f y m) (S_all hr h hN hS) hN (S_loop (kw := 10) (cd := 3) (Or.inl rfl) (Or.inl ⟨rfl, rfl⟩) (fun h hN hS => S_all hr h hN hS) (fun f y m => by rw [FX8_readCond_L15]; rfl) (fun f y m => by rw [FX12_readOr_L14]; rfl))
end SENB
