/-! ===== a sentence is read: one ===== -/
section SENC
variable {c c' d d' : mB} {n lim p L o w P : Nat} {t : Nat → Nat}
theorem M_said1 (h : PR c d n lim t p) (rec : Nat → mB → Option (Int32 × mB)) (y : Int32) : (∃ u, 12 ≤ u ∧ u ≤ 21 ∧ c.1 1 6 = i3 (100 + u) ∧ FX12_readSaid_L10 rec 222 y d mx_FU 12 = some (i3 u) ∧ tkp n lim t p < min n lim ∧ d.1 222 7 = 2) ∨ ((∀ u, 12 ≤ u → u ≤ 21 → c.1 1 6 ≠ i3 (100 + u)) ∧ FX12_readSaid_L10 rec 222 y d mx_FU 12 = some 22) := by
  have hmi : ∀ u, 12 ≤ u → u ≤ 21 → mi u = u := fun u h1 h2 => by
    unfold mi
    rw [if_neg (by omega), if_neg (by omega), if_neg (by omega), if_neg (by omega), if_neg (by omega)]
  have st : ∀ (f v : Nat), 12 ≤ v → v ≤ 21 → FX12_readSaid_L10 rec 222 y d (f + 1) (i3 v) = (if c.1 1 6 = i3 (100 + v) then some (i3 v) else FX12_readSaid_L10 rec 222 y d f (i3 (v + 1))) := by
    intro f v h1 h2
    rw [FX12_readSaid_L10, if_neg (by show ¬ i3 21 < i3 v; rw [i3_lt (by omega) (by omega)]; omega)]
    rcases PR_isWord h (k := v) (by omega) with ⟨q1, q2, -⟩ | ⟨q1, q2⟩
    · rw [hmi v h1 h2] at q1
      rw [q2, ob_some, if_neg (show ¬ (1 : Int32) = 0 by decide), if_pos q1]
    · rw [hmi v h1 h2] at q1
      rw [q2, ob_some, if_pos rfl, if_neg q1, mx_letI, i3_succ]
  by_cases hx : ∃ u, 12 ≤ u ∧ u ≤ 21 ∧ c.1 1 6 = i3 (100 + u)
  · left
    obtain ⟨u, h1, h2, e⟩ := hx
    refine ⟨u, h1, h2, e, ?_, ?_⟩
    · have key : ∀ (f v : Nat), 12 ≤ v → v ≤ u → u - v < f → FX12_readSaid_L10 rec 222 y d f (i3 v) = some (i3 u) := by
        intro f
        induction f with
        | zero => intro v _ _ hf; omega
        | succ f ih =>
          intro v v1 v2 hf
          rw [st f v v1 (by omega)]
          by_cases q : v = u
          · subst q
            rw [if_pos e]
          · rw [if_neg (by rw [e, i3_eq (by omega) (by omega)]; omega)]
            exact ih (v + 1) (by omega) (by omega) (by omega)
      exact key mx_FU 12 (by omega) h1 (FU_lt (by omega))
    · rcases PR_isWord h (k := u) (by omega) with ⟨q1, q2, q3, q4⟩ | ⟨q1, q2⟩
      · exact ⟨q3, q4⟩
      · rw [hmi u h1 h2] at q1
        exact absurd e q1
  · right
    have hx' : ∀ u, 12 ≤ u → u ≤ 21 → c.1 1 6 ≠ i3 (100 + u) := fun u h1 h2 e => hx ⟨u, h1, h2, e⟩
    refine ⟨hx', ?_⟩
    have key : ∀ (f v : Nat), 12 ≤ v → v ≤ 22 → 22 - v < f → FX12_readSaid_L10 rec 222 y d f (i3 v) = some 22 := by
      intro f
      induction f with
      | zero => intro v _ _ hf; omega
      | succ f ih =>
        intro v v1 v2 hf
        by_cases q : v = 22
        · subst q
          rw [FX12_readSaid_L10, if_pos (show 21 < i3 22 by decide)]
          rfl
        · rw [st f v v1 (by omega), if_neg (hx' v v1 (by omega))]
          exact ih (v + 1) (by omega) (by omega) (by omega)
    exact key mx_FU 12 (by omega) (by omega) (FU_lt (by omega))
def k20 (s : Int32 × mB) : Option (Int32 × mB) := mx_let (mx_up s.2.1 222 60 (s.2.1 222 60 - 1), s.2.2) (fun m21 => mx_chk (mx_b01 s.1) (some (s.1, m21)))
theorem S_fin {c1 d1 : mB} {X Y : Option (Int32 × mB)} (h : hb X Y (OS c1 d1 n lim t L o (w + 1))) (zc : mx_out (SB1 L) c c1) (zd : mx_out (SB2 L) d d1) : hb X (Option.bind Y k20) (OS c d n lim t L o w) := by
  obtain ⟨r, s, e1, e2, q⟩ := h
  have zk : mx_out (fun b j => b = 222 ∧ j = 60) s.2 (mx_up s.2.1 222 60 (s.2.1 222 60 - 1), s.2.2) := mx_out_up mx_out.rf rfl ⟨rfl, rfl⟩
  have vk : (mx_up s.2.1 222 60 (s.2.1 222 60 - 1), s.2.2).1 222 60 = s.2.1 222 60 - 1 := mx_up_self s.2.1 222 60 _
  rw [e1, e2, ob_some]
  unfold k20
  rw [mx_letI]
  generalize (mx_up s.2.1 222 60 (s.2.1 222 60 - 1), s.2.2) = d3 at zk vk ⊢
  have zS : mx_out (SB2 L) s.2 d3 := zk.sub (fun b j q => by unfold SB2; omega)
  rcases q with ⟨p', L', o', a1, a2, a3, a4, a5, a6, a7, a8, a9, a10, a11⟩ | ⟨a1, a2, a3, a4, a5⟩
  · rw [a2, show mx_b01 1 = true from rfl, mx_chkT]
    obtain ⟨h1, h2, h3, h4, h5, h6, h7, h8⟩ := a4
    refine hb_some (Or.inl ⟨p', L', o', a1, rfl, PR_mv a3 (S := fun _ _ => False) mx_out.rf zk (fun b j q => q.elim) (fun b j q => by omega), ⟨h1, h2, ?_, ?_, ?_, h6, h7, fun i hi => SYP_SB (h8 i hi) hi mx_out.rf (zk.sub (fun b j q => by unfold SB2; omega))⟩, a5, a6, ?_, ?_, a9, mx_out.tr zc a10, mx_out.tr zd (mx_out.tr a11 zS)⟩)
    · show d3.1 222 58 = _
      rw [zk.fld 222 58 (by omega)]; exact h3
    · show d3.1 222 59 = _
      rw [zk.fld 222 59 (by omega)]; exact h4
    · show d3.1 222 60 = _
      rw [vk, h5, i3_m1]
    · rw [a7, stk_SB zc]
    · show d3.1 222 61 = _
      rw [zk.fld 222 61 (by omega)]; exact a8
  · rw [a2, show mx_b01 0 = true from rfl, mx_chkT]
    refine hb_some (Or.inr ⟨a1, rfl, ⟨?_, ?_⟩, mx_out.tr zc a4, mx_out.tr zd (mx_out.tr a5 zS)⟩)
    · show r.2.1 1 10 = d3.1 222 10
      rw [zk.fld 222 10 (by omega)]; exact a3.1
    · show r.2.1 1 11 = d3.1 222 11
      rw [zk.fld 222 11 (by omega)]; exact a3.2
/-- a part that stands for itself is put -/
theorem S_leaf (h : PR c d n lim t p) (hN : NmB P c d) (hS : SX c d L (o + 1) (w + 1)) (hpot : L + (stk (cdf (c.1 180)) L).length ≤ 2 * o) {u v g : Nat} (h1 : 13 ≤ u) (h2 : u ≤ 21) (x1 x2 y1 y2 y3 : Int32) (hv : u ≤ 14 ∨ (u = 15 ∨ u = 16) ∧ v < P ∧ x2 = i3 v ∧ y1 = i3 v ∨ u = 17 ∧ v ≤ 5 ∧ x2 = i3 v ∧ y1 = i3 v ∨ 18 ≤ u ∧ v ≤ 999 ∧ (g = 60 ∨ g = 61 ∨ g = 62) ∧ x1 = i3 g ∧ y3 = i3 g ∧ x2 = i3 v ∧ y2 = i3 v) :
    ∃ c2 d2, FX8_put 179 (i3 (100 + u)) x1 x2 c = some (1, c2) ∧ FX12_saysOne 222 (i3 (50 + u)) y1 y2 y3 d = some (i3 L, d2) ∧ OS c d n lim t L o (w + 1) (1, c2) (1, (mx_up d2.1 222 61 (i3 L), d2.2)) := by
  have ho := hS.2.2.2.2.2.1
  obtain ⟨c2, d2, f1, f2, v1, v2, v3, v4, v5, v6, v7, v8, v9, z1, z2⟩ := S_put (L := L) hS.1 hS.2.2.1 (by omega) (i3 (100 + u)) x1 x2 (i3 (50 + u)) y1 y2 y3
  have Z1' : mx_out (PZ1 L) c c2 := z1
  have Z2' : mx_out (PZ2 L) d d2 := z2
  have c0 := cdf_0 (A := c2.1 180) (i := L) v3 h1 h2
  have st0 := stk_SB (PZ1_SB Z1')
  have st : stk (cdf (c2.1 180)) (L + 1) = L :: stk (cdf (c.1 180)) L := by
    show L :: (if cdf (c2.1 180) L = 0 then _ else if cdf (c2.1 180) L = 1 then _ else _) = _
    rw [c0, if_pos rfl, st0]
  have hP2 : nP (Rn d2) = P := nP_Rn (NmB_SB hN (PZ1_SB Z1') (PZ2_SB Z2'))
  have S2 : SX c2 d2 (L + 1) (o + 1) (w + 1) := by
    refine SX_put hS v1 v2 Z1' Z2' (Or.inr (Or.inr ⟨u, v, g, h1, h2, v3, by rw [Rn_hi, v6], ?_⟩)) (by rw [st, List.length_cons]; omega)
    rw [hP2, v4, v5, show 193 + 4 * L = 192 + (4 * L + 1) by omega, show 194 + 4 * L = 192 + (4 * L + 2) by omega, show 195 + 4 * L = 192 + (4 * L + 3) by omega, Rn_hi, Rn_hi, Rn_hi, v7, v8, v9]
    exact hv
  refine ⟨c2, d2, f1, f2, Or.inl ⟨p, L + 1, o + 1, rfl, rfl, ?_, SX_61 S2 _, by omega, by omega, st, mx_up_self d2.1 222 61 _, by omega, PZ1_SB Z1', mx_out_up (PZ2_SB Z2') rfl (by unfold SB2; omega)⟩⟩
  have zd : mx_out (fun b j => b = 222 ∧ j = 61) d2 (mx_up d2.1 222 61 (i3 L), d2.2) := mx_out_up mx_out.rf rfl ⟨rfl, rfl⟩
  exact PR_mv (PR_mv h z1 z2 (fun b j q => by omega) (fun b j q => by omega)) (S := fun _ _ => False) mx_out.rf zd (fun b j q => q.elim) (fun b j q => by omega)
theorem OS_tr {c1 d1 : mB} {r s : Int32 × mB} (h : OS c1 d1 n lim t L o w r s) (zc : mx_out (SB1 L) c c1) (zd : mx_out (SB2 L) d d1) : OS c d n lim t L o w r s := by
  rcases h with ⟨p', L', o', a1, a2, a3, a4, a5, a6, a7, a8, a9, a10, a11⟩ | ⟨a1, a2, a3, a4, a5⟩
  · exact Or.inl ⟨p', L', o', a1, a2, a3, a4, a5, a6, by rw [a7, stk_SB zc], a8, a9, mx_out.tr zc a10, mx_out.tr zd a11⟩
  · exact Or.inr ⟨a1, a2, a3, mx_out.tr zc a4, mx_out.tr zd a5⟩
/-- a value is read, then a part is put -/
theorem S_of (hS : SX c d L (o + 1) (w + 1)) (hN : NmB P c d) (hpot : L + (stk (cdf (c.1 180)) L).length ≤ 2 * o) {u : Nat} (h1 : 15 ≤ u) (h2 : u ≤ 17) {T R : Option (Int32 × mB)} {A : Nat → Prop} (hA : ∀ v, A v → (u = 15 ∨ u = 16) ∧ v < P ∨ u = 17 ∧ v ≤ 5)
    (h : hb T R (fun r s => (∃ v p', A v ∧ v < 1000 ∧ r.1 = i3 v ∧ s.1 = 1 ∧ s.2.1 222 13 = i3 v ∧ RS c d n lim t p r.2 s.2 p') ∨ (r.1 = -1 ∧ s.1 = 0 ∧ RF c d r.2 s.2))) :
    hb (Option.bind T (fun r36 => Option.bind (FX8_putIfRead 179 (i3 (100 + u)) 0 r36.1 r36.2) (fun r37 => mx_chk (mx_b01 r37.1) ((some (r37.1, r37.2)))))) (Option.bind R (fun r1 => (if r1.1 = 0 then (some (0, r1.2)) else Option.bind (FX12_saysOne 222 (i3 (50 + u)) (r1.2.1 222 13) 0 0 r1.2) (fun r3 => mx_let (mx_up r3.2.1 222 61 r3.1, r3.2.2) (fun m4 => (some (1, m4))))))) (OS c d n lim t L o (w + 1)) := by
  refine hb_bind h (fun r s q => ?_)
  unfold FX8_putIfRead
  rcases q with ⟨v, p', q0, q00, q1, q2, q3, q4, q5, q6, q7⟩ | ⟨q1, q2, q3, q4, q5⟩
  · have zc : mx_out (SB1 L) c r.2 := q6.sub (fun b j q => Or.inl q)
    have zd : mx_out (SB2 L) d s.2 := q7.sub (fun b j q => Or.inl q)
    obtain ⟨c2, d2, f1, f2, f3⟩ := S_leaf q4 (NmB_SB hN zc zd) (SX_U hS q6 q7) (by rw [stk_SB zc]; exact hpot) (u := u) (v := v) (g := 0) (by omega) (by omega) 0 (i3 v) (i3 v) 0 0 (by
      rcases hA v q0 with w | w
      · exact Or.inr (Or.inl ⟨w.1, w.2, rfl, rfl⟩)
      · exact Or.inr (Or.inr (Or.inl ⟨w.1, w.2, rfl, rfl⟩)))
    rw [q1, if_neg (fun q => (i3_ne1 (a := v) (by omega)).mp q), if_neg (by rw [q2]; decide), q3, f1, f2, ob_some, ob_some]
    dsimp only
    rw [if_neg (show ¬ (1 : Int32) = 0 by decide), ob_some, mx_letI]
    exact hb_some (OS_tr f3 zc zd)
  · rw [if_pos q1, if_pos q2, ob_some]
    exact hb_some (Or.inr ⟨rfl, rfl, q3, q4.sub (fun b j q => Or.inl q), q5.sub (fun b j q => Or.inl q)⟩)
end SENC
