/-! ===== a network's lines: points, pairs, prices ===== -/
section NPAR
variable {c c' d d' : mB} {n lim p : Nat} {t : Nat → Nat}
/-- the row that is read, as it will be -/
def stN (R : Rw) : Rw := fun x => if x < 125 then R x else if x = 125 then R 2 else if x < 128 then 0 else if x < 190 then R (x - 65) else 0
theorem stN_lo (R : Rw) {x : Nat} (h : x < 125) : stN R x = R x := by unfold stN; rw [if_pos h]
theorem stN_125 (R : Rw) : stN R 125 = R 2 := by unfold stN; rw [if_neg (by omega), if_pos rfl]
theorem stN_0 (R : Rw) {x : Nat} (h1 : 126 ≤ x) (h2 : x < 128) : stN R x = 0 := by unfold stN; rw [if_neg (by omega), if_neg (by omega), if_pos h2]
theorem stN_hi (R : Rw) {x : Nat} (h1 : 128 ≤ x) (h2 : x < 190) : stN R x = R (x - 65) := by unfold stN; rw [if_neg (by omega), if_neg (by omega), if_neg (by omega), if_pos h2]
theorem up_ud (m : mI) (b k : Nat) (v : Int32) : mx_up m b k v b = ud (m b) k v := by
  funext j
  unfold mx_up ud
  simp
/-- the same row where it matters -/
theorem stN_k {R : Rw} {k : Nat} (hk : k < 63) (h2 : k ≠ 2) (v : Int32) (x : Nat) : stN (ud R k v) x = ud (stN R) k v x := by
  show stN (ud R k v) x = if x = k then v else stN R x
  by_cases q : x = k
  · rw [if_pos q, q, stN_lo _ (by omega), ud_self]
  · rw [if_neg q]
    unfold stN
    by_cases q1 : x < 125
    · rw [if_pos q1, if_pos q1, ud_ne _ _ q]
    · rw [if_neg q1, if_neg q1]
      by_cases q2 : x = 125
      · rw [if_pos q2, if_pos q2, ud_ne _ _ (by omega)]
      · rw [if_neg q2, if_neg q2]
        by_cases q3 : x < 128
        · rw [if_pos q3, if_pos q3]
        · rw [if_neg q3, if_neg q3, ud_ne _ _ (by omega)]
theorem stN_h {R : Rw} {k : Nat} (h1 : 63 ≤ k) (h2 : k < 125) (v : Int32) {x : Nat} (hx : 125 ≤ x) : stN (ud R k v) x = ud (stN R) (k + 65) v x := by
  show stN (ud R k v) x = if x = k + 65 then v else stN R x
  by_cases q : x = k + 65
  · rw [if_pos q, q, stN_hi _ (by omega) (by omega), show k + 65 - 65 = k by omega, ud_self]
  · rw [if_neg q]
    have q0 : ¬ x < 125 := by omega
    unfold stN
    rw [if_neg q0, if_neg q0]
    by_cases q2 : x = 125
    · rw [if_pos q2, if_pos q2, ud_ne _ _ (by omega)]
    · rw [if_neg q2, if_neg q2]
      by_cases q3 : x < 128
      · rw [if_pos q3, if_pos q3]
      · rw [if_neg q3, if_neg q3, ud_ne _ _ (by omega)]
theorem stN_h0 {R : Rw} {k : Nat} (h1 : 63 ≤ k) (v : Int32) {x : Nat} (hx : x < 63) : stN (ud R k v) x = stN R x := by
  rw [stN_lo _ (by omega), stN_lo _ (by omega), ud_ne _ _ (by omega)]
theorem Nt_i2 {a : Nat} {N : Rw} (h : Nt c a N) (v : Int32) : Nt c a (ud N 2 v) := by
  obtain ⟨g, s, h1, h2⟩ := h
  have e : ∀ k, k ≠ 2 → ud N 2 v k = N k := fun k hk => ud_ne _ _ hk
  have eP : nP (ud N 2 v) = nP N := by unfold nP; rw [e 0 (by omega)]
  have eL : nL (ud N 2 v) = nL N := by unfold nL; rw [e 1 (by omega)]
  have eK : nK (ud N 2 v) = nK N := by unfold nK; rw [e 125 (by omega)]
  have eA : ∀ l, nA (ud N 2 v) l = nA N l := fun l => by unfold nA; rw [e _ (by omega)]
  have eB : ∀ l, nB (ud N 2 v) l = nB N l := fun l => by unfold nB; rw [e _ (by omega)]
  have elm : ∀ p q l, lm (ud N 2 v) p q l = lm N p q l := fun p q l => by unfold lm; rw [eA, eB]
  have eli : ∀ p q, li (ud N 2 v) p q = li N p q := fun p q => by
    unfold li
    rw [eL]
    exact ff_congr (fun l _ => elm p q l)
  have elk : ∀ p q, lk (ud N 2 v) p q = lk N p q := fun p q => by unfold lk; rw [eli]
  have elc : ∀ p q, lc (ud N 2 v) p q = lc N p q := fun p q => by unfold lc; rw [eli]
  have hn := g.1.2
  refine ⟨⟨⟨by rw [e 0 (by omega), eP]; exact g.1.1, by rw [eP]; exact hn⟩, ⟨by rw [e 1 (by omega), eL]; exact g.2.1.1, by rw [eL]; exact g.2.1.2⟩, fun l hl => ?_, fun l l' hl hl' => ?_⟩, ⟨⟨by rw [e 125 (by omega), eK]; exact s.1.1, by rw [eK]; exact s.1.2⟩, fun l hl => ?_, fun p hp => ?_, fun p hp => ?_, fun k hk => ?_⟩, ⟨⟨by rw [e 0 (by omega)]; exact h1.1.1, by rw [e 1 (by omega)]; exact h1.1.2⟩, fun p hp q => ?_, fun l hl => ?_, fun p q hp hq => ?_⟩, ⟨by rw [e 125 (by omega), e 126 (by omega), e 127 (by omega)]; exact h2.1, fun p hp => ?_, fun k hk => ?_⟩⟩
  · rw [eL] at hl; rw [e _ (by omega), e _ (by omega), eA, eB, eP]; exact g.2.2.1 l hl
  · rw [eL] at hl hl'; rw [eA, eB, elm]; exact g.2.2.2 l l' hl hl'
  · rw [eL] at hl; rw [e _ (by omega)]; exact s.2.1 l hl
  · rw [eP] at hp ⊢
    rw [e _ (by omega)]
    rcases prt s hp with q | ⟨r, q1, q2, q3, q4⟩
    · exact Or.inl q
    · exact Or.inr ⟨r, q1, q2, by rw [e _ (by omega)]; exact q3, by rw [elk]; exact q4⟩
  · rw [eP] at hp; rw [e _ (by omega)]; exact s.2.2.2.1 p hp
  · rw [eK] at hk; rw [e _ (by omega), e _ (by omega), eP]; exact s.2.2.2.2 k hk
  · rw [eP] at hp; rw [elk]; exact h1.2.1 p hp q
  · rw [eL] at hl; rw [e _ (by omega), e _ (by omega), e _ (by omega)]; exact h1.2.2.1 l hl
  · rw [eP] at hp hq; rw [elc]; exact h1.2.2.2 p q hp hq
  · rw [eP] at hp; rw [e _ (by omega), e _ (by omega)]; exact h2.2.1 p hp
  · rw [eK] at hk; rw [e _ (by omega), e _ (by omega)]; exact h2.2.2 k hk
def NP (c d : mB) : Prop := Nt c 27 (stN (d.1 225)) ∧ Nms c d 27 231 (nP (stN (d.1 225))) ∧ (∀ i, i < 10 → (d.1 234 i = 0 ∨ d.1 234 i = 1) ∧ bt (c.1 26 2) i = decide (d.1 234 i = 1)) ∧ (∀ i, nP (stN (d.1 225)) ≤ i → i < 10 → d.1 225 (93 + i) = -1 ∧ d.1 225 (103 + i) = 0) ∧ ∀ u v, u < 10 → v < 10 → (nP (stN (d.1 225)) ≤ u ∨ nP (stN (d.1 225)) ≤ v) → c.1 35 (u * 10 + v) = 0
theorem NP_mv {S T : Nat → Nat → Prop} (h : NP c d) (zc : mx_out S c c') (zd : mx_out T d d') (hS : ∀ b j, S b j → b = 1) (hT : ∀ b j, T b j → b = 222) : NP c' d' := by
  obtain ⟨h1, h2, h3, h4, h5⟩ := h
  have cc : ∀ b, b ≠ 1 → c'.1 b = c.1 b ∧ c'.2 b = c.2 b := fun b hb => ⟨zc.cell b (fun j q => hb (hS b j q)), zc.cellL b (fun j q => hb (hS b j q))⟩
  have dd : ∀ b, b ≠ 222 → d'.1 b = d.1 b ∧ d'.2 b = d.2 b := fun b hb => ⟨zd.cell b (fun j q => hb (hT b j q)), zd.cellL b (fun j q => hb (hT b j q))⟩
  unfold NP
  rw [(dd 225 (by omega)).1, (dd 234 (by omega)).1, (cc 26 (by omega)).1, (cc 35 (by omega)).1]
  refine ⟨Nt_mem h1 (fun b _ _ => (cc b (by omega)).1), fun i hi => ?_, h3, h4, h5⟩
  rw [(cc (27 + 1) (by omega)).2, (dd 231 (by omega)).2]
  exact h2 i hi
theorem NP_U (h : NP c d) (zc : mx_out U1 c c') (zd : mx_out U2 d d') : NP c' d' := NP_mv h zc zd (fun b j q => q.1) (fun b j q => q.1)
def LQ (n lim : Nat) (t : Nat → Nat) (p : Nat) (r s : Int32 × mB) : Prop := (∃ p', r.1 = 1 ∧ s.1 = 1 ∧ PR r.2 s.2 n lim t p' ∧ p < p' ∧ NP r.2 s.2) ∨ (r.1 = 0 ∧ s.1 = 0 ∧ FL r.2 s.2)
theorem NP_P (h : NP c d) : c.1 27 0 = i3 (nP (stN (d.1 225))) ∧ d.1 225 0 = i3 (nP (stN (d.1 225))) ∧ nP (stN (d.1 225)) ≤ 10 := by
  have g := h.1.1
  refine ⟨by rw [h.1.2.2.1.1.1, g.1.1], ?_, g.1.2⟩
  have := g.1.1
  rw [stN_lo _ (by omega)] at this
  exact this
theorem L_point (h : PR c d n lim t p) (hnp : NP c d) (hl : tkp n lim t p < min n lim) (h7 : d.1 222 7 = 2) : hb (if 10 ≤ c.1 27 0 then Option.bind (FX10_fail 1 4 c) (fun r5 => mx_chk (mx_b01 r5.1) (some (r5.1, r5.2))) else Option.bind (FX5_readPoint 26 1 c) (fun r7 => mx_chk (mx_b01 r7.1) (some (r7.1, r7.2)))) (Option.bind (FX12_readPoint 222 d) (fun r => mx_chk (mx_b01 r.1) (some (r.1, r.2)))) (LQ n lim t p) := by
  obtain ⟨e0, e1, h10⟩ := NP_P hnp
  unfold FX12_readPoint FX12_readFirst
  have e1' : d.1 (222 + 3) (Int32.toNatClampNeg 0) = i3 (nP (stN (d.1 225))) := e1
  rw [e0, show mx_inb (0 : Int32) 125 = true by decide, mx_chkT, e1']
  by_cases c10 : nP (stN (d.1 225)) = 10
  · rw [c10, if_pos (by decide), if_pos (by decide)]
    obtain ⟨c1, d1, f1, f2, q⟩ := PR_no h (x := 4) (fun q => by rw [h7] at q; exact absurd q (by decide))
    rw [f1, f2, ob_some, ob_some]
    exact hb_some (Or.inr ⟨rfl, rfl, q.1⟩)
  · rw [if_neg (by show ¬ i3 10 ≤ _; rw [i3_le (by omega) (by omega)]; omega), if_neg (by show ¬ _ = i3 10; rw [i3_eq (by omega) (by omega)]; exact c10)]
    obtain ⟨c1, d1, f1, f2, r1, r2, r3, r4⟩ := PR_go h hl
    have hn1 := NP_U hnp r3 r4
    unfold FX5_readPoint
    rw [f1, f2, ob_some, ob_some, ob_some]
    dsimp only
    rw [if_neg (by decide)]
    unfold FX10_kind FX10_word
    rw [ob_some]
    have ed : d1.1 225 = d.1 225 := r4.cell 225 (fun j => by unfold U2; omega)
    rcases PR_isName r1 with ⟨w, hv, hl1, g1⟩ | ⟨q1, g1⟩
    · obtain ⟨w1, w2, w3, w4, w5, w6⟩ := hv
      have a0 : c1.1 27 0 = i3 (nP (stN (d.1 225))) := by
        have := (NP_P hn1).1
        rw [ed] at this
        exact this
      have a10 := h10
      have a1 : d1.1 225 0 = i3 (nP (stN (d.1 225))) := by rw [ed]; exact e1
      have a1' : d1.1 (222 + 3) 0 = i3 (nP (stN (d.1 225))) := a1
      have hN1 := hn1.1
      have hnm := hn1.2.1
      rw [ed] at hN1 hnm
      rw [if_pos w3, g1, ob_some, ob_some, ob_some, if_neg (show ¬ (1 : Int32) = 0 by decide), w4, a1', w6]
      show hb (Option.bind (Option.bind (FX4_pointNamed 27 (Int64.ofNat (p32 w)) c1) _) _) (Option.bind (Option.bind (FX12_findIn 231 10 0 (i3 (nP (stN (d.1 225)))) (Int64.ofNat (p27 w)) d1) _) _) _
      rw [C_named a10 a0 hnm w1, M_nix a10, ob_some, ob_some]
      cases e : nix d1 231 (nP (stN (d.1 225))) w with
      | some i =>
        have hi := (ff_some.mp e).1
        have hni : ¬ oi (some i) = -1 := fun q => (i3_ne1 (a := i) (by omega)).mp q
        rw [if_neg hni, if_neg hni]
        obtain ⟨c2, d2, k1, k2, q⟩ := PR_no r1 (x := 3) (fun q => by rw [w5] at q; exact absurd q (by decide))
        rw [k1, k2, ob_some, ob_some]
        exact hb_some (Or.inr ⟨rfl, rfl, q.1⟩)
      | none =>
        rw [if_pos (show oi none = -1 from rfl), if_pos (show oi none = -1 from rfl)]
        have hp4 := hnp.2.2.2.1 (nP (stN (d.1 225))) (Nat.le_refl _) (by omega)
        have s1 : stN (d.1 225) (158 + nP (stN (d.1 225))) = -1 := by rw [stN_hi _ (by omega) (by omega), show 158 + nP (stN (d.1 225)) - 65 = 93 + nP (stN (d.1 225)) by omega]; exact hp4.1
        have s2 : stN (d.1 225) (168 + nP (stN (d.1 225))) = 0 := by rw [stN_hi _ (by omega) (by omega), show 168 + nP (stN (d.1 225)) - 65 = 103 + nP (stN (d.1 225)) by omega]; exact hp4.2
        have hz := hn1.2.2.2.2
        rw [ed] at hz
        obtain ⟨c2, k1, k2, k3, k4⟩ := C_addPoint hN1 (by omega) s1 s2 hz (Int64.ofNat (p32 w))
        show hb (Option.bind (Option.bind (FX4_addPoint 27 (Int64.ofNat (p32 w)) c1) _) _) _ _
        rw [k1, ob_some, mx_inb_i3 (by omega) (by omega), mx_chkT, i3_toNat (by omega), mx_letI, mx_letI]
        have z2 := ZX4_addPoint k1
        have zd : mx_out (fun b _ => b = 231 ∨ b = 225) d1 (mx_up d1.1 225 0 (i3 (nP (stN (d.1 225)) + 1)), mx_ul d1.2 231 (nP (stN (d.1 225))) (Int64.ofNat (p27 w))) := mx_out_up (m1 := (d1.1, mx_ul d1.2 231 (nP (stN (d.1 225))) (Int64.ofNat (p27 w)))) (mx_out_ul mx_out.rf rfl (Or.inl rfl)) rfl (Or.inr rfl)
        have r5 : PR c2 (mx_up d1.1 225 0 (i3 (nP (stN (d.1 225)) + 1)), mx_ul d1.2 231 (nP (stN (d.1 225))) (Int64.ofNat (p27 w))) n lim t (tnx n lim t p) := PR_mv r1 z2 zd (fun b j q => by unfold WSX4_addPoint at q; omega) (fun b j q => by omega)
        have a1'' : (d1.1, mx_ul d1.2 (222 + 9) (nP (stN (d.1 225))) (d1.2 222 12)).1 (222 + 3) 0 = i3 (nP (stN (d.1 225))) := a1
        obtain ⟨c3, d3, m1, m2, u1, u2, u3, u4⟩ := PR_go r5 hl1
        show hb (Option.bind (Option.bind (FX10_advance 1 c2) _) _) (Option.bind (Option.bind (FX12_go 222 (mx_up d1.1 225 0 (d1.1 225 0 + 1), mx_ul d1.2 231 (nP (stN (d.1 225))) (Int64.ofNat (p27 w)))) _) _) _
        rw [a1, i3_succ, m1, m2, ob_some, ob_some, ob_some, ob_some]
        refine hb_some (Or.inl ⟨_, rfl, rfl, u1, by omega, ?_⟩)
        refine NP_U ?_ u3 u4
        have eR : (mx_up d1.1 225 0 (i3 (nP (stN (d.1 225)) + 1)), mx_ul d1.2 231 (nP (stN (d.1 225))) (Int64.ofNat (p27 w))).1 225 = ud (d.1 225) 0 (i3 (nP (stN (d.1 225)) + 1)) := by rw [← ed]; exact up_ud _ _ _ _
        have eN : stN (ud (d.1 225) 0 (i3 (nP (stN (d.1 225)) + 1))) = aP (stN (d.1 225)) := funext (fun x => stN_k (by omega) (by omega) _ x)
        have ePn : nP (aP (stN (d.1 225))) = nP (stN (d.1 225)) + 1 := by
          show (aP (stN (d.1 225)) 0).toNatClampNeg = _
          unfold aP
          rw [ud_self, i3_toNat (by omega)]
        unfold NP
        rw [eR, eN, ePn]
        refine ⟨k2, fun i hi => ?_, fun i hi => ?_, fun i h1 h2 => ?_, fun u v hu hv hor => ?_⟩
        · show nr (c2.2 (27 + 1) i) (mx_ul d1.2 231 (nP (stN (d.1 225))) (Int64.ofNat (p27 w)) 231 i)
          rw [k3, ul_at]
          by_cases q : i = nP (stN (d.1 225))
          · rw [if_pos q, if_pos q]; exact ⟨w, w1, rfl, rfl⟩
          · rw [if_neg q, if_neg q]; exact hnm i (by omega)
        · rw [z2.fld 26 2 (by unfold WSX4_addPoint; omega), zd.cell 234 (fun j => by omega)]
          exact hn1.2.2.1 i hi
        · rw [ud_ne _ _ (by omega), ud_ne _ _ (by omega)]
          exact hnp.2.2.2.1 i (by omega) h2
        · have : c2.1 35 = c1.1 35 := k4
          rw [this]
          exact hz u v hu hv (by omega)
    · rw [if_neg q1, g1, ob_some, if_pos rfl]
      obtain ⟨c2, d2, k1, k2, q⟩ := PR_no r1 (x := 1) (fun _ => rfl)
      rw [k1, k2, ob_some, ob_some]
      exact hb_some (Or.inr ⟨rfl, rfl, q.1⟩)
end NPAR
