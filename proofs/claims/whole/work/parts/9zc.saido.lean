/-! ===== operation: said ===== -/
section SAIDO
variable {c c' d : mB} {N : Rw}
theorem cnt_more {Q : Nat → Bool} {n : Nat} : ∀ {m : Nat}, n ≤ m → (∀ p, n ≤ p → p < m → Q p = false) → cnt Q m = cnt Q n := by
  intro m
  induction m with
  | zero => intro h _; have : n = 0 := by omega
            subst this; rfl
  | succ m ih =>
    intro h hq
    by_cases e : n = m + 1
    · rw [e]
    · show cnt Q m + (if Q m then 1 else 0) = _
      rw [hq m (by omega) (by omega), ih (by omega) (fun p h1 h2 => hq p h1 (by omega))]
      rfl
theorem cnt_le' {Q : Nat → Bool} : ∀ {n : Nat}, cnt Q n ≤ n := by
  intro n
  induction n with
  | zero => exact Nat.le_refl _
  | succ n ih =>
    show cnt Q n + (if Q n then 1 else 0) ≤ _
    split <;> omega
theorem cnt_congr' {Q Q' : Nat → Bool} : ∀ {n : Nat}, (∀ p, p < n → Q p = Q' p) → cnt Q n = cnt Q' n := by
  intro n
  induction n with
  | zero => intro _; rfl
  | succ n ih =>
    intro h
    show cnt Q n + (if Q n then 1 else 0) = cnt Q' n + (if Q' n then 1 else 0)
    rw [ih (fun p hp => h p (by omega)), h n (by omega)]
/-- how many -/
theorem M_saidN {X : Int32} (g : GI N) (hd : d.1 224 = N) {tp : Nat} (ht : N 191 = i3 tp) (hH : ∀ p, p < nP N → FX12_holds 64 222 (i3 tp) (i3 p) d = some (b2 (bt X p))) : FX12_said_L22 222 (-1) d mx_FU 0 0 = some (.inr (i3 (cnt (fun p => bt X p) (nP N)))) := by
  have hn := g.1.2
  have e0 : d.1 (222 + 2) 0 = i3 (nP N) := by show d.1 224 0 = _; rw [hd]; exact g.1.1
  have e1 : d.1 (222 + 2) 191 = i3 tp := by show d.1 224 191 = _; rw [hd]; exact ht
  have key : hw (FX12_said_L22 222 (-1) d mx_FU (i3 0) (i3 0)) (fun r => r = .inr (i3 (cnt (fun p => bt X p) (nP N)))) := by
    refine lp_inv (L := fun fu y (s : Nat) => FX12_said_L22 222 (-1) d fu (i3 s) y) (n := nP N) (fun k s => s = cnt (fun p => bt X p) k) ?_ ?_ 0 mx_FU 0 (by omega) (FU_lt (by omega)) rfl
    · intro fu s hs
      show hw (FX12_said_L22 222 (-1) d (fu + 1) (i3 s) (i3 (nP N))) _
      rw [FX12_said_L22, e0, if_pos (by rw [i3_le (by omega) (by omega)]; omega), hs]
      exact hw_some rfl
    · intro fu k s hk hs hstep
      show hw (FX12_said_L22 222 (-1) d (fu + 1) (i3 s) (i3 k)) _
      have hc : cnt (fun p => bt X p) k ≤ k := cnt_le'
      rw [FX12_said_L22, e0, if_neg (by rw [i3_le (by omega) (by omega)]; omega), e1, hH k hk, ob_some]
      have e : cnt (fun p => bt X p) (k + 1) = cnt (fun p => bt X p) k + (if bt X k then 1 else 0) := rfl
      cases q : bt X k with
      | false =>
        rw [if_pos (show b2 false = 0 from rfl), mx_letI, i3_succ]
        refine hstep s ?_
        rw [e, q, hs]; rfl
      | true =>
        rw [if_neg (show ¬ b2 true = 0 by decide), if_neg (fun w => (i3_ne1 (a := s) (by omega)).mp w), mx_letI, mx_letI, i3_succ, i3_succ]
        refine hstep (s + 1) ?_
        rw [e, q, hs]; rfl
  exact hw_eq.mp key
theorem C_noBit (X : Int32) (m : mB) {p0 : Nat} (h : ∀ p, p0 ≤ p → p < 10 → bt X p = false) (y : Int32) : ∀ (f p : Nat), p0 ≤ p → p ≤ 10 → 10 - p < f → FX11_bitNumbered_L4 X m f y (i3 p) = some (.inr ()) := by
  intro f
  induction f with
  | zero => intro p _ _ hf; omega
  | succ f ih =>
    intro p h1 h2 hf
    rw [FX11_bitNumbered_L4]
    by_cases q : 10 ≤ p
    · rw [if_pos (by show i3 10 ≤ i3 p; rw [i3_le (by omega) (by omega)]; exact q)]
    · rw [if_neg (by show ¬ i3 10 ≤ i3 p; rw [i3_le (by omega) (by omega)]; exact q), if_pos ((bt_sh X (by omega)).mpr (h p h1 (by omega))), mx_letI, i3_succ]
      exact ih (p + 1) (by omega) (by omega) (by omega)
theorem MC_said {X : Int32} (g : GI N) (hd : d.1 224 = N) {tp : Nat} (ht : N 191 = i3 tp) (hH : ∀ p, p < nP N → FX12_holds 64 222 (i3 tp) (i3 p) d = some (b2 (bt X p))) (hX : ∀ p, nP N ≤ p → p < 10 → bt X p = false) (x : Int32) (m : mB) :
    ∀ (f f' p n : Nat), p ≤ nP N → n ≤ p → 10 - p < f → nP N - p < f' → hb (FX11_bitNumbered_L4 X m f (x - i3 n) (i3 p)) (FX12_said_L22 222 x d f' (i3 n) (i3 p)) (fun r s => (∃ q, r = .inl q ∧ s = .inl (q, d)) ∨ (r = .inr () ∧ ∃ q, s = .inr q)) := by
  have hn := g.1.2
  have e0 : d.1 (222 + 2) 0 = i3 (nP N) := by show d.1 224 0 = _; rw [hd]; exact g.1.1
  have e1 : d.1 (222 + 2) 191 = i3 tp := by show d.1 224 191 = _; rw [hd]; exact ht
  intro f
  induction f with
  | zero => intro f' p n _ _ hf; omega
  | succ f ih =>
    intro f' p n hp hnp hf hf'
    obtain ⟨f', rfl⟩ : ∃ e, f' = e + 1 := ⟨f' - 1, by omega⟩
    by_cases q : nP N ≤ p
    · rw [C_noBit X m (p0 := p) (fun k h1 h2 => hX k (by omega) h2) _ (f + 1) p (by omega) (by omega) hf, FX12_said_L22, e0, if_pos (by rw [i3_le (by omega) (by omega)]; exact q)]
      exact hb_some (Or.inr ⟨rfl, _, rfl⟩)
    · rw [FX11_bitNumbered_L4, FX12_said_L22, e0, if_neg (by show ¬ i3 10 ≤ i3 p; rw [i3_le (by omega) (by omega)]; omega), if_neg (show ¬ i3 (nP N) ≤ i3 p by rw [i3_le (by omega) (by omega)]; exact q), e1, hH p (by omega), ob_some]
      cases w : bt X p with
      | false =>
        rw [if_pos ((bt_sh X (by omega)).mpr w), if_pos (show b2 false = 0 from rfl), mx_letI, mx_letI, i3_succ]
        exact ih f' (p + 1) n (by omega) (by omega) (by omega) (by omega)
      | true =>
        rw [if_neg (show ¬ X >>> (i3 p &&& 31) &&& 1 = 0 from fun e => by rw [(bt_sh X (by omega)).mp e] at w; cases w), if_neg (show ¬ b2 true = 0 by decide)]
        by_cases r : i3 n = x
        · rw [if_pos (show x - i3 n = 0 by rw [r]; exact Int32.sub_self x), if_pos r]
          exact hb_some (Or.inl ⟨_, rfl, rfl⟩)
        · have r' : ¬ x - i3 n = 0 := fun e => r (by
            have e3 : x - i3 n + i3 n = 0 + i3 n := by rw [e]
            rw [Int32.sub_add_cancel, Int32.zero_add] at e3
            exact e3.symm)
          rw [if_neg r', if_neg r, mx_letI, mx_letI, mx_letI, mx_letI, i3_succ, i3_succ]
          have e2 : x - i3 n + (-1) = x - i3 (n + 1) := by
            rw [← i3_succ]
            apply Int32.toBitVec_inj.mp
            simp only [Int32.toBitVec_add, Int32.toBitVec_sub, Int32.toBitVec_neg]
            generalize x.toBitVec = a
            generalize (i3 n).toBitVec = b
            show a - b + -1#32 = a - (b + 1#32)
            rw [BitVec.sub_eq_add_neg a (b + 1#32), BitVec.neg_add, BitVec.sub_eq_add_neg a b, BitVec.sub_eq_add_neg, BitVec.add_assoc]
          rw [e2]
          exact ih f' (p + 1) (n + 1) (by omega) (by omega) (by omega) (by omega)
theorem O_said (h : RR c d) (x : Int32) : Sm (FX11_said 0 x c) (FX12_said 222 x d) := by
  have h0 := th0 h 0
  unfold FX12_said
  rw [mx_letI]
  generalize (mx_up d.1 222 0 0, d.2) = d0 at h0 ⊢
  unfold FX11_said FX8_stands
  have hSY : SYa c 174 (d0.1 224) := h0.2.2.2.2.2.2.2.2.2.2.2.1
  have hNt := h0.2.2.1.1
  have hN2 := hNt
  obtain ⟨g, s, hg, hs⟩ := hN2
  have hn := g.1.2
  show Sm (Option.bind (mx_chk (mx_b01 (c.1 174 6)) (some (c.1 174 6))) _) (if d0.1 224 190 = 0 then _ else _)
  rcases hSY with ⟨q1, q2⟩ | ⟨q1, q2, k, tp, q3, q4, q5, q6, q7⟩
  · rw [q1, q2, if_pos rfl, show mx_b01 0 = true from rfl, mx_chkT, ob_some, if_pos rfl]
    exact hb_some ⟨rfl, h0⟩
  · rw [q1, q2, if_neg (show ¬ (1 : Int32) = 0 by decide), show mx_b01 1 = true from rfl, mx_chkT, ob_some, if_neg (show ¬ (1 : Int32) = 0 by decide)]
    obtain ⟨O, hO⟩ := OKO_ex g s hg hs q7
    have hal : ∀ p, p < 32 → bt ((1 : Int32) <<< (i3 (nP (d0.1 224)) &&& 31) - 1) p = decide (p < nP (d0.1 224)) := fun p hp => all_bits _ hn p hp
    generalize hale : (1 : Int32) <<< (i3 (nP (d0.1 224)) &&& 31) - 1 = al at hal
    have htp : tp < k := stk_lt (f := cdf (c.1 (174 + 1))) (by rw [q6]; exact List.mem_cons_self)
    obtain ⟨b1, b2'⟩ := M_holds q3 g s (d := d0) rfl q7 hO hal tp htp
    have hH := b2' 64 (by omega)
    have z0 : mx_out (fun b _ => b = 178) c (mx_up c.1 178 0 0, c.2) := mx_out_up mx_out.rf rfl rfl
    obtain ⟨m1, e1, z1, v1⟩ := C_pile (A := c.1 175) (B := c.1 176) (W := c.1 177) q3 rfl rfl rfl q4 hNt q7 hO al mx_FU 0 _ (by omega) (FU_lt (by omega)) z0 (fun j hj => absurd hj (by simp [stk]))
    have v0 : m1.1 178 0 = pv (c.1 175) O al tp := by
      have q6' : stk (cdf (c.1 175)) k = [tp] := q6
      rw [v1 0 (by rw [q6']; simp), q6']
      rfl
    have ep : FX8_pointsOf 174 4 c = some (pv (c.1 175) O al tp, m1) := by
      unfold FX8_pointsOf FX4_points
      rw [hg.1.1, g.1.1, ob_some, mx_letI, hale, mx_letI]
      show Option.bind (FX8_pointsOf_L21 174 4 al mx_FU (i3 (stk (cdf (c.1 175)) 0).length) (i3 0) (mx_up c.1 178 0 0, c.2)) _ = _
      rw [e1, ob_some]
      show some (m1.1 178 0, m1) = _
      rw [v0]
    have R1 : RR m1 d0 := RR_mv h0 (ag_of z1 (fun b j q => by unfold SC at q; omega)) ag_rf
    show Sm (Option.bind (FX8_pointsOf 174 4 c) _) _
    rw [ep, ob_some]
    dsimp only
    by_cases ex : x = -1
    · subst ex
      rw [if_pos rfl, M_saidN g rfl q5 hH, ob_some, se_inr, if_pos rfl]
      obtain ⟨t, t1, t2, t3⟩ := i3_bits (x := pv (c.1 175) O al tp) (fun p h1 h2 => b1 p (by omega) h2)
      have ec : pc t = cnt (fun p => bt (pv (c.1 175) O al tp) p) (nP (d0.1 224)) := by
        unfold pc
        rw [cnt_congr' (Q' := fun p => bt (pv (c.1 175) O al tp) p) (fun p _ => t3 p)]
        exact cnt_more hn (fun p h1 h2 => b1 p h1 (by omega))
      rw [← ec]
      show Sm (Option.bind (FJ6_bitCount_0f7a4 (pv (c.1 175) O al tp) m1) _) _
      rw [t2, J_bitCount m1 t1, ob_some]
      exact hb_some ⟨rfl, R1⟩
    · rw [if_neg ex]
      unfold FX11_bitNumbered
      obtain ⟨r, r', f1, f2, w⟩ := MC_said g (d := d0) rfl q5 hH (fun p h1 h2 => b1 p h1 (by omega)) x m1 mx_FU mx_FU 0 0 (by omega) (by omega) (FU_lt (by omega)) (FU_lt (by omega))
      have f1' : FX11_bitNumbered_L4 (pv (c.1 175) O al tp) m1 mx_FU x 0 = some r := by
        have : x - i3 0 = x := Int32.sub_zero x
        rw [this] at f1
        exact f1
      have f2' : FX12_said_L22 222 x d0 mx_FU 0 0 = some r' := f2
      rw [f1', f2', ob_some, ob_some]
      rcases w with ⟨q, w1, w2⟩ | ⟨w1, q, w2⟩
      · rw [w1, w2, se_inl, se_inl, ob_some]
        exact hb_some ⟨rfl, R1⟩
      · rw [w1, w2, se_inr, se_inr, ob_some, if_neg ex]
        exact hb_some ⟨rfl, R1⟩
end SAIDO
