/-! ===== the links that are known ===== -/
/-- the same points, links and weights -/
def GE (A B : Rw) : Prop := A 0 = B 0 ∧ A 1 = B 1 ∧ ∀ l, l < nL B → A (3 + l) = B (3 + l) ∧ A (33 + l) = B (33 + l) ∧ A (128 + l) = B (128 + l)
section LOOK
variable {m m1 : mB} {N A : Rw} {p0 : Nat}
theorem GE_P (h : GE A N) : nP A = nP N := by unfold nP; rw [h.1]
theorem GE_L (h : GE A N) : nL A = nL N := by unfold nL; rw [h.2.1]
theorem GE_li (h : GE A N) (p q : Nat) : li A p q = li N p q := by
  unfold li
  rw [GE_L h]
  refine ff_congr (fun l hl => ?_)
  unfold lm nA nB
  rw [(h.2.2 l hl).1, (h.2.2 l hl).2.1]
theorem GE_lk (h : GE A N) (p q : Nat) : lk A p q = lk N p q := by unfold lk; rw [GE_li h]
theorem GE_Wt (h : GE A N) (p q : Nat) : Wt A p q = Wt N p q := by
  unfold Wt
  rw [GE_li h]
  cases e : li N p q with
  | none => rfl
  | some l => dsimp only; rw [(h.2.2 l (li_some e).1).2.2]
theorem GE_em (h : GE A N) : ∀ k x, em A k x = em N k x := by
  intro k
  induction k with
  | zero => intro x; rfl
  | succ k ih =>
    intro x
    rw [em_succ, em_succ]
    have e1 : qsl A x = qsl N x := by
      unfold qsl
      congr 1
      funext q
      rw [GE_lk h]
    rw [e1, ih]
    have e2 : (fun q => (em A k (clr (clr x (lst x)) q)).map (fun M => (lst x, q) :: M)) = (fun q => (em N k (clr (clr x (lst x)) q)).map (fun M => (lst x, q) :: M)) := by
      funext q
      rw [ih]
    rw [e2]
theorem GE_tk (h : GE A N) : ∀ M, tk A M = tk N M
  | [] => rfl
  | (p, q) :: M => by
    show (Wt A p q + (tk A M).1, (tk A M).2 + 1) = _
    rw [GE_Wt h, GE_tk h M]
    rfl
theorem GE_tl (h : GE A N) (x : Nat) : tl A x = tl N x := by
  unfold tl en
  rw [GE_em h]
  congr 1
  funext M
  exact GE_tk h M
theorem GE_CG (h : GE A N) (hc : CG m p0 A) : CG m p0 N := by
  refine ⟨⟨by rw [← h.1]; exact hc.1.1, by rw [← h.2.1]; exact hc.1.2⟩, fun p hp q => ?_, fun l hl => ?_, fun p q hp hq => ?_⟩
  · rw [← GE_lk h]; exact hc.2.1 p (by rw [GE_P h]; exact hp) q
  · obtain ⟨e1, e2, e3⟩ := h.2.2 l hl
    rw [← e1, ← e2, ← e3]
    exact hc.2.2.1 l (by rw [GE_L h]; exact hl)
  · have e : lc N p q = lc A p q := by unfold lc; rw [GE_li h]
    rw [e]
    exact hc.2.2.2 p q (by rw [GE_P h]; exact hp) (by rw [GE_P h]; exact hq)
theorem C_hasLinks (ga : GI A) (g : GI N) (ha : CG m 46 A) (h : CG m p0 N) : ∃ b : Bool, FX4_hasLinksOf 46 p0 m = some (b2 b) ∧ (b = true → GE A N) := by
  have hL := g.2.1.2
  unfold FX4_hasLinksOf
  rw [C0 ga ha, C0 g h, C1 ga ha, C1 g h]
  have hP1 := ga.1.2
  have hP2 := g.1.2
  have hL1 := ga.2.1.2
  by_cases c1 : nP A = nP N
  · rw [if_pos (by rw [c1])]
    by_cases c2 : nL A = nL N
    · rw [if_pos (by rw [c2])]
      have key := lp_all (L := fun f y => FX4_hasLinksOf_L26 46 p0 m f y) i3 (n := nL N) (fun l => A (3 + l) = N (3 + l) ∧ A (33 + l) = N (33 + l) ∧ A (128 + l) = N (128 + l)) 0 (fun f => by
          show FX4_hasLinksOf_L26 46 p0 m (f + 1) (i3 (nL N)) = _
          rw [FX4_hasLinksOf_L26, C1 ga ha, c2, if_pos (by rw [i3_le (by omega) (by omega)]; omega)])
        (fun f l hl hP => by
          show (_ ∧ FX4_hasLinksOf_L26 46 p0 m (f + 1) (i3 l) = FX4_hasLinksOf_L26 46 p0 m f (i3 (l + 1))) ∨ (_ ∧ FX4_hasLinksOf_L26 46 p0 m (f + 1) (i3 l) = _)
          obtain ⟨x1, x2, x3⟩ := ha.2.2.1 l (by omega)
          obtain ⟨y1, y2, y3⟩ := h.2.2.1 l hl
          rw [FX4_hasLinksOf_L26, C1 ga ha, c2]
          simp (disch := omega) only [x1, x2, x3, y1, y2, y3, ob_some, mx_letI, mx_chkT, mx_inb_i3, mx_inb_lit, lit_toNat, i3_toNat, i3_le, i3_lt, i3_leL, i3_Lle, i3_ltL, i3_Llt, i3_neg, i3_eq, i3_eqL, i3_ne1, i3_add, i3_addL, i3_Ladd, i3_mul, i3_mulL, i3_Lmul, mx_b01_0, mx_b01_1, b2_01, b2_0, b2_1, se_inl, se_inr, if_true, if_false, e10, e01, e00, e11, em1, em1lt, Nat.not_lt_zero]
          rw [if_neg (by omega), if_neg (by omega)]
          by_cases d1 : A (3 + l) = N (3 + l)
          · by_cases d2 : A (33 + l) = N (33 + l)
            · by_cases d3 : A (128 + l) = N (128 + l)
              · left; simp [d1, d2, d3]
              · right; simp [d1, d2, d3]
            · right; simp [d1, d2]
          · right; simp [d1]) mx_FU (FU_lt (by omega))
      rcases key with ⟨e, hP⟩ | ⟨e, hP⟩
      · refine ⟨true, ?_, fun _ => ⟨by rw [N0 ga, N0 g, c1], by rw [N1 ga, N1 g, c2], hP⟩⟩
        rw [show (0 : Int32) = i3 0 from rfl, e]; rfl
      · refine ⟨false, ?_, fun q => by cases q⟩
        rw [show (0 : Int32) = i3 0 from rfl, e]; rfl
    · rw [if_neg (by rw [i3_eq (by omega) (by omega)]; exact c2)]
      exact ⟨false, rfl, fun q => by cases q⟩
  · rw [if_neg (by rw [i3_eq (by omega) (by omega)]; exact c1)]
    exact ⟨false, rfl, fun q => by cases q⟩
/-- the memo stands for these links -/
def HL (m : mB) (N : Rw) : Prop := m.1 45 1 = 1 ∧ CG m 46 N ∧ m.1 45 3 = i3 (2 ^ nP N - 1) ∧ MI m (nP N) ∧ (∀ j, j ≤ 2 ^ nP N - 1 → m.1 57 j ≠ -1 → VL m N j) ∧ m.1 57 (2 ^ nP N - 1) ≠ -1
theorem HL_GE (h : GE A N) (hl : HL m A) : HL m N := by
  obtain ⟨h1, h2, h3, h4, h5, h6⟩ := hl
  rw [GE_P h] at h3 h4 h5 h6
  refine ⟨h1, GE_CG h h2, h3, h4, fun j hj hne => ?_, h6⟩
  obtain ⟨sl, L, c1, c2, c3, c4, c6⟩ := h5 j hj hne
  exact ⟨sl, L, c1, c2, c3, by rw [← GE_tl h]; exact c4, fun h0 => ⟨(c6 h0).1, fun q hq hb hl => (c6 h0).2 q hq hb (by rw [GE_lk h]; exact hl)⟩⟩
/-- links are reckoned anew -/
theorem C_lookNew (hp0 : p0 + 11 ≤ 45) (h : Nt m p0 N) : ∃ m', (Option.bind (FX4_copyLinksFrom (45 + 1) p0 m) (fun r3 => mx_let (mx_up r3.1 45 1 1, r3.2) (fun m4 => mx_let (mx_up m4.1 45 2 0, m4.2) (fun m5 => mx_let (mx_up m5.1 45 5 0, m5.2) (fun m6 => Option.bind (FX2_lookAt_L44 45 mx_FU 0 m6) (fun q11 => Option.bind (FX4_points (45 + 1) q11) (fun r12 => mx_let (mx_up q11.1 45 3 (((1 : Int32) <<< (r12 &&& 31)) - 1), q11.2) (fun m13 => Option.bind (FX2_slotFor 64 45 (m13.1 45 3) 0 m13) (fun r14 => (some r14.2)))))))))) = some m' ∧ HL m' N ∧ m'.1 45 2 = 0 := by
  obtain ⟨g, s, h2, h3⟩ := h
  have hn := g.1.2
  obtain ⟨c1, e1, g1, -⟩ := C_copyLinks (a := 46) h2 g (by omega)
  show ∃ m', (Option.bind (FX4_copyLinksFrom 46 p0 m) _) = some m' ∧ _
  rw [e1, ob_some, mx_letI, mx_letI, mx_letI]
  have key : hw (FX2_lookAt_L44 45 mx_FU (i3 0) (mx_up (mx_up (mx_up c1.1 45 1 1) 45 2 0) 45 5 0, c1.2)) (fun m1 => mx_out (fun b _ => b = 57) (mx_up (mx_up (mx_up c1.1 45 1 1) 45 2 0) 45 5 0, c1.2) m1 ∧ ∀ j, j < 1024 → m1.1 57 j = -1) := by
    refine lp_inv (L := fun fu y m => FX2_lookAt_L44 45 fu y m) (n := 1024) (fun k m1 => mx_out (fun b _ => b = 57) (mx_up (mx_up (mx_up c1.1 45 1 1) 45 2 0) 45 5 0, c1.2) m1 ∧ ∀ j, j < k → m1.1 57 j = -1) ?_ ?_ 0 mx_FU _ (by omega) (FU_lt (by omega)) ⟨mx_out.rf, fun j hj => by omega⟩
    · intro fu m1 hm
      show hw (FX2_lookAt_L44 45 (fu + 1) (i3 1024) m1) _
      rw [FX2_lookAt_L44]
      exact hw_some hm
    · intro fu k m1 hk hm hs2
      show hw (FX2_lookAt_L44 45 (fu + 1) (i3 k) m1) _
      rw [FX2_lookAt_L44]
      simp (disch := omega) only [Nat.reduceAdd, ob_some, mx_letI, mx_chkT, mx_inb_i3, mx_inb_lit, lit_toNat, i3_toNat, i3_le, i3_lt, i3_leL, i3_Lle, i3_ltL, i3_Llt, i3_neg, i3_eq, i3_eqL, i3_ne1, i3_add, i3_addL, i3_Ladd, i3_mul, i3_mulL, i3_Lmul, mx_b01_0, mx_b01_1, b2_01, b2_0, b2_1, se_inl, se_inr, if_true, if_false, e10, e01, e00, e11, em1, em1lt, Nat.not_lt_zero, if_pos, if_neg]
      refine hs2 _ ⟨mx_out_up hm.1 rfl rfl, fun j hj => ?_⟩
      show mx_up m1.1 57 k (-1) 57 j = _
      rw [up_at]
      by_cases c : j = k
      · rw [if_pos c]
      · rw [if_neg c]; exact hm.2 j (by omega)
  obtain ⟨m2, e2, z2, A2⟩ := key
  show ∃ m', (Option.bind (FX2_lookAt_L44 45 mx_FU (i3 0) (mx_up (mx_up (mx_up c1.1 45 1 1) 45 2 0) 45 5 0, c1.2)) _) = some m' ∧ _
  rw [e2, ob_some]
  have cc : ∀ b, b ≠ 57 → b ≠ 45 → m2.1 b = c1.1 b := fun b hb hb2 => by
    rw [z2.cell b (fun _ => hb)]
    show mx_up (mx_up (mx_up c1.1 45 1 1) 45 2 0) 45 5 0 b = _
    rw [up_off _ hb2, up_off _ hb2, up_off _ hb2]
  have g2 : CG m2 46 N := CG_mv g g1 (by rw [cc 46 (by omega) (by omega)]) (by rw [cc 46 (by omega) (by omega)]) (cc _ (by omega) (by omega)) (cc _ (by omega) (by omega)) (cc _ (by omega) (by omega)) (cc _ (by omega) (by omega)) (cc _ (by omega) (by omega)) (fun _ _ => rfl) (fun _ _ => rfl)
  unfold FX4_points
  rw [ob_some, mx_letI]
  show ∃ m', (Option.bind (FX2_slotFor 64 45 (mx_up m2.1 45 3 (((1 : Int32) <<< (m2.1 46 0 &&& 31)) - 1) 45 3) 0 (mx_up m2.1 45 3 (((1 : Int32) <<< (m2.1 46 0 &&& 31)) - 1), m2.2)) _) = some m' ∧ _
  have eall : ∀ k, k ≤ 10 → ((1 : Int32) <<< (i3 k &&& 31)) - 1 = i3 (2 ^ k - 1) := by decide +kernel
  rw [C0 g g2, eall _ hn, mx_up_self]
  have z3' : mx_out (fun b j => b = 45 ∧ j = 3) m2 (mx_up m2.1 45 3 (i3 (2 ^ nP N - 1)), m2.2) := mx_out_up mx_out.rf rfl ⟨rfl, rfl⟩
  have f57 : (mx_up m2.1 45 3 (i3 (2 ^ nP N - 1)), m2.2).1 57 = m2.1 57 := z3'.cell 57 (fun j => by omega)
  have g3 : CG (mx_up m2.1 45 3 (i3 (2 ^ nP N - 1)), m2.2) 46 N := CG_mv g g2 (z3'.fld 46 0 (by omega)) (z3'.fld 46 1 (by omega)) (z3'.cell _ (fun j => by omega)) (z3'.cell _ (fun j => by omega)) (z3'.cell _ (fun j => by omega)) (z3'.cell _ (fun j => by omega)) (z3'.cell _ (fun j => by omega)) (fun _ _ => rfl) (fun _ _ => rfl)
  have hK0 : KN (mx_up m2.1 45 3 (i3 (2 ^ nP N - 1)), m2.2) = 0 := by
    have : ∀ k, k ≤ 1024 → cnt (al (mx_up m2.1 45 3 (i3 (2 ^ nP N - 1)), m2.2)) k = 0 := by
      intro k
      induction k with
      | zero => intro _; rfl
      | succ k ih =>
        intro hk
        rw [cnt_succ, ih (by omega)]
        have : al (mx_up m2.1 45 3 (i3 (2 ^ nP N - 1)), m2.2) k = false := by unfold al; rw [f57]; simp [A2 k (by omega)]
        rw [this]
        rfl
    exact this 1024 (Nat.le_refl _)
  have r5 : ∀ x, x ≠ 3 → (mx_up m2.1 45 3 (i3 (2 ^ nP N - 1)), m2.2).1 45 x = (mx_up (mx_up (mx_up c1.1 45 1 1) 45 2 0) 45 5 0) 45 x := fun x hx => by
    rw [z3'.fld 45 x (by omega), z2.fld 45 x (by omega)]
  have hM : MI (mx_up m2.1 45 3 (i3 (2 ^ nP N - 1)), m2.2) (nP N) := by
    refine ⟨?_, fun j hj => Or.inl (by rw [f57]; exact A2 j hj), fun j j' hj hj' h1 => absurd (by rw [f57]; exact A2 j hj) h1⟩
    rw [r5 5 (by omega), mx_up_self, hK0]
    rfl
  have hpw : 2 ^ nP N - 1 < 2 ^ nP N := by have := Nat.two_pow_pos (nP N); omega
  have h1024 := pow10 hn hpw
  obtain ⟨⟨r, m4⟩, e4, ⟨sl, q1, -, q3⟩, Q2, Q3, -, -, -, Q7, -⟩ := C_slotFor (N := N) g s rfl 64 (free := 2 ^ nP N - 1) (depth := 0) (m := (mx_up m2.1 45 3 (i3 (2 ^ nP N - 1)), m2.2)) (by have := @pc_le (2 ^ nP N - 1); omega) (by have := @pc_le (2 ^ nP N - 1); omega) hpw (rOK_all _ (by omega)) g3 hM (fun j hj h1 => absurd (by rw [f57]; exact A2 j (by omega)) h1)
  show ∃ m', (Option.bind (FX2_slotFor 64 45 (i3 (2 ^ nP N - 1)) (i3 0) (mx_up m2.1 45 3 (i3 (2 ^ nP N - 1)), m2.2)) _) = some m' ∧ _
  rw [e4, ob_some]
  dsimp only at q3 Q2 Q3 Q7
  refine ⟨m4, rfl, ⟨?_, CG_WM g g3 Q7, ?_, Q2, Q3, ?_⟩, ?_⟩
  · rw [Q7.fld 45 1 (by unfold WM; omega), r5 1 (by omega), mx_up_ne _ _ (fun _ => by omega), mx_up_ne _ _ (fun _ => by omega), mx_up_self]
  · rw [Q7.fld 45 3 (by unfold WM; omega)]; exact mx_up_self m2.1 45 3 _
  · rw [q3]; exact fun q => (i3_ne1 (a := sl) (by omega)).mp q
  · rw [Q7.fld 45 2 (by unfold WM; omega), r5 2 (by omega), mx_up_ne _ _ (fun _ => by omega), mx_up_self]
end LOOK
