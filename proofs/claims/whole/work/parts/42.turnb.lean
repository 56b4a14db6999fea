/-! ===== paths that are turned, both sides ===== -/
section TURNB
variable {c d : mB} {a r k : Nat} {N : Rw} {f : Nat → Nat}
theorem isP_pt (g : GI N) (h : isP N k f) : ∀ i, i < k → f i < nP N := by
  intro i hi
  by_cases e : i < k - 1
  · exact (lk_lt g (h.2.2.2.2.2 i e).1).1
  · have : i = k - 1 := by omega
    rw [this]; exact h.2.2.2.2.1
theorem SI_tn (g : GI N) (s : SI N) (hk : k % 2 = 0) (hd : ∀ i j, i < k → j < k → f i = f j → i = j) (h : isP N k f) : SI (nTurn N k f) := by
  have hn := g.1.2
  have hL := g.2.1.2
  have hK := s.1.2
  have pt := isP_pt g h
  have off : ∀ j, j < 158 ∨ 168 ≤ j → j ≠ 126 → nTurn N k f j = N j := by
    intro j hj h6
    unfold nTurn
    rw [ud_ne _ _ h6]
    refine tn_off (fun i hi => ?_)
    have := pt i (by omega)
    omega
  have on : ∀ j, 158 ≤ j → nTurn N k f j = tn N f (k / 2) j := fun j hj => by unfold nTurn; rw [ud_ne _ _ (by omega)]
  have hk125 : nK (nTurn N k f) = nK N := by unfold nK; rw [off 125 (by omega) (by omega)]
  have hlone : ∀ {p : Nat}, lone N p = true → N (158 + p) = -1 := fun q => of_decide_eq_true q
  -- the partner of a point within the path
  have inn : ∀ i, i < k → N (158 + f i) = -1 ∨ ∃ j, j < k ∧ N (158 + f i) = i3 (f j) := by
    intro i hi
    by_cases e : i % 2 = 1
    · by_cases e2 : i = k - 1
      · left; rw [e2]; exact hlone h.2.2.2.1
      · right; exact ⟨i + 1, by omega, (h.2.2.2.2.2 i (by omega)).2 e⟩
    · by_cases e2 : i = 0
      · left; rw [e2]; exact hlone h.2.1
      · right
        refine ⟨i - 1, by omega, ?_⟩
        have h1 := (h.2.2.2.2.2 (i - 1) (by omega)).2 (by omega)
        rw [show i - 1 + 1 = i by omega] at h1
        rcases prt s (pt (i - 1) (by omega)) with q | ⟨q, q1, q2, q3, q4⟩
        · rw [h1] at q
          have := i3_ne1 (a := f i) (by have := pt i hi; omega)
          rw [q] at this
          simp at this
        · have := pt i hi
          rw [h1, i3_eq (by omega) (by omega)] at q2
          rw [q2]; exact q3
  refine SI_mk g s (fun j hj => off j (by omega) (by omega)) ?_ ?_ ?_ ?_ ?_
  · rw [hk125, off 125 (by omega) (by omega)]; exact s.1
  · intro l hl; rw [off _ (by omega) (by omega)]; exact s.2.1 l hl
  · intro p hp
    by_cases hin : ∃ i, i < k ∧ f i = p
    · obtain ⟨i, hi, rfl⟩ := hin
      right
      by_cases e : i % 2 = 0
      · refine ⟨f (i + 1), pt _ (by omega), ?_, ?_, (h.2.2.2.2.2 i (by omega)).1⟩
        · rw [on _ (by omega), tn_at hd (by omega) i (by omega), if_pos e]
        · rw [on _ (by omega), tn_at hd (by omega) (i + 1) (by omega), if_neg (by omega), Nat.add_sub_cancel]
      · have h1 := (h.2.2.2.2.2 (i - 1) (by omega)).1
        rw [show i - 1 + 1 = i by omega, lk_comm] at h1
        refine ⟨f (i - 1), pt _ (by omega), ?_, ?_, h1⟩
        · rw [on _ (by omega), tn_at hd (by omega) i (by omega), if_neg e]
        · rw [on _ (by omega), tn_at hd (by omega) (i - 1) (by omega), if_pos (by omega), show i - 1 + 1 = i by omega]
    · have e1 : nTurn N k f (158 + p) = N (158 + p) := by
        rw [on _ (by omega)]
        exact tn_off (fun i hi q => hin ⟨i, by omega, by omega⟩)
      rw [e1]
      rcases prt s hp with q | ⟨q, q1, q2, q3, q4⟩
      · exact Or.inl q
      · refine Or.inr ⟨q, q1, q2, ?_, q4⟩
        have e2 : nTurn N k f (158 + q) = N (158 + q) := by
          rw [on _ (by omega)]
          refine tn_off (fun i hi e => ?_)
          have e3 : q = f i := by omega
          subst e3
          rcases inn i (by omega) with z | ⟨j, hj, z⟩
          · rw [z] at q3
            have := i3_ne1 (a := p) (by omega)
            rw [← q3] at this
            exact this.mp rfl
          · have := pt j hj
            rw [z, i3_eq (by omega) (by omega)] at q3
            exact hin ⟨j, hj, q3⟩
        rw [e2]; exact q3
  · intro p hp; rw [off _ (by omega) (by omega)]; exact s.2.2.2.1 p hp
  · intro j hj; rw [hk125] at hj; rw [off _ (by omega) (by omega), off _ (by omega) (by omega)]; exact s.2.2.2.2 j hj
theorem C_isLone (g : GI N) (h : CG c a N) (hs : CS c a N) {p : Nat} (hp : p < 2147483648) : ∃ b : Bool, FX4_isLone a (i3 p) c = some (b2 b) ∧ (b = true ↔ p < nP N ∧ lone N p = true) := by
  have hn := g.1.2
  by_cases h1 : p < nP N
  · exact ⟨lone N p, C_isLone_y g h hs h1, by simp [h1]⟩
  · exact ⟨false, C_isLone_n g h (fun j hj => by rw [ne_eq, i3_eq (by omega) (by omega)]; omega), by simp [h1]⟩
theorem C_turn_L (h : Nt c a N) (hr : Ri c r k f) (hk : k % 2 = 0) (hk2 : 2 ≤ k) (hra : r + 1 ≠ a + 3) (hrb : r ≠ a + 3) (hra2 : r + 1 < a ∨ a + 11 ≤ r) (pt : ∀ i, i < k → f i < nP N) :
    hw (FX4_turnAlong_L48 a r (i3 (k - 1)) mx_FU (i3 0) c) (fun c' => mx_out (fun b _ => b = a + 3) c c' ∧ ∀ p, p < nP N → c'.1 (a + 3) p = tn N f (k / 2) (158 + p)) := by
  obtain ⟨g, s, h1, h2⟩ := h
  have hn := g.1.2
  have h10 := hr.1.2.1
  refine lp_ig (fun j => i3 (2 * j)) (L := fun fu y m => FX4_turnAlong_L48 a r (i3 (k - 1)) fu y m) (n := k / 2) (fun j m => mx_out (fun b _ => b = a + 3) c m ∧ ∀ p, p < nP N → m.1 (a + 3) p = tn N f j (158 + p)) ?_ ?_ 0 mx_FU c (by omega) (FU_lt (by omega)) ⟨mx_out.rf, fun p hp => (h2.2.1 p hp).1⟩
  · intro fu m hm
    show hw (FX4_turnAlong_L48 a r (i3 (k - 1)) (fu + 1) (i3 (2 * (k / 2))) m) _
    rw [FX4_turnAlong_L48]
    simp (disch := omega) only [ob_some, mx_letI, mx_chkT, mx_inb_i3, mx_inb_lit, lit_toNat, i3_toNat, i3_le, i3_lt, i3_leL, i3_Lle, i3_ltL, i3_Llt, i3_neg, i3_eq, i3_eqL, i3_ne1, i3_add, i3_addL, i3_Ladd, i3_mul, i3_mulL, i3_Lmul, mx_b01_0, mx_b01_1, b2_01, b2_0, b2_1, se_inl, se_inr, if_true, if_false, e10, e01, e00, e11, em1, em1lt, Nat.not_lt_zero, if_pos, if_neg]
    exact hw_some hm
  · intro fu j m hj hm hs
    show hw (FX4_turnAlong_L48 a r (i3 (k - 1)) (fu + 1) (i3 (2 * j)) m) _
    have cl : ∀ b, b ≠ a + 3 → m.1 b = c.1 b := fun b hb => hm.1.cell b (fun _ => hb)
    have hr' : Ri m r k f := ⟨⟨by rw [cl r hrb]; exact hr.1.1, hr.1.2⟩, fun i hi => by rw [cl _ hra]; exact hr.2 i hi⟩
    have h1' : CG m a N := CG_mv g h1 (congrFun (cl a (by omega)) 0) (congrFun (cl a (by omega)) 1) (cl _ (by omega)) (cl _ (by omega)) (cl _ (by omega)) (cl _ (by omega)) (cl _ (by omega)) (fun _ _ => rfl) (fun _ _ => rfl)
    have e1 := hr'.2 (2 * j) (by omega)
    have e2 := hr'.2 (2 * j + 1) (by omega)
    have p1 := pt (2 * j) (by omega)
    have p2 := pt (2 * j + 1) (by omega)
    rw [FX4_turnAlong_L48]
    simp (disch := omega) only [R_at_y hr'.1, e1.1, e2.1, C_hasPoint_y g h1', ob_some, mx_letI, mx_chkT, mx_inb_i3, mx_inb_lit, lit_toNat, i3_toNat, i3_le, i3_lt, i3_leL, i3_Lle, i3_ltL, i3_Llt, i3_neg, i3_eq, i3_eqL, i3_ne1, i3_add, i3_addL, i3_Ladd, i3_mul, i3_mulL, i3_Lmul, mx_b01_0, mx_b01_1, b2_01, b2_0, b2_1, se_inl, se_inr, if_true, if_false, e10, e01, e00, e11, em1, em1lt, Nat.not_lt_zero, if_pos, if_neg]
    rw [show 2 * j + 2 = 2 * (j + 1) by omega]
    refine hs _ ⟨mx_out_up (mx_out_up hm.1 rfl rfl) rfl rfl, fun p hp => ?_⟩
    show mx_up (mx_up m.1 (a + 3) (f (2 * j)) (i3 (f (2 * j + 1)))) (a + 3) (f (2 * j + 1)) (i3 (f (2 * j))) (a + 3) p = ud (ud (tn N f j) (158 + f (2 * j)) (i3 (f (2 * j + 1)))) (158 + f (2 * j + 1)) (i3 (f (2 * j))) (158 + p)
    rw [up_at, up_at]
    unfold ud
    by_cases q1 : p = f (2 * j + 1)
    · simp [q1]
    · by_cases q2 : p = f (2 * j)
      · simp [q2]
      · have q3 : ¬ 158 + p = 158 + f (2 * j + 1) := by omega
        have q4 : ¬ 158 + p = 158 + f (2 * j) := by omega
        simp only [q1, q2, q3, q4, if_false]
        exact hm.2 p hp
/-- the class turns a row along which it goes by turns -/
theorem C_turnAlong (h : Nt c a N) (hr : Ri c r k f) (hk : k % 2 = 0) (hra2 : r + 1 < a ∨ a + 11 ≤ r) (hd : ∀ i j, i < k → j < k → f i = f j → i = j) :
    (isP N k f ∧ ∃ c', FX4_turnAlong a r c = some (0, c') ∧ Nt c' a (nTurn N k f)) ∨ (¬ isP N k f ∧ FX4_turnAlong a r c = some (1, c)) := by
  have h' := h
  obtain ⟨g, s, h1, h2⟩ := h'
  have hn := g.1.2
  have hL := g.2.1.2
  have hK := s.1.2
  have h10 := hr.1.2.1
  by_cases h0 : k = 0
  · right
    refine ⟨fun q => by have := q.1; omega, ?_⟩
    subst h0
    unfold FX4_turnAlong FX7_size
    rw [hr.1.1]
    rfl
  · have k2 : 2 ≤ k := by omega
    obtain ⟨b1, E1, B1⟩ := C_isLone g h1 h2 (p := f 0) (by have := hr.2 0 (by omega); omega)
    obtain ⟨b2', E2, B2⟩ := C_isLone g h1 h2 (p := f (k - 1)) (by have := hr.2 (k - 1) (by omega); omega)
    obtain ⟨b3, E3, B3⟩ := C_goesByPairs g h1 h2 hr
    have a0 := R_at_y hr.1 (i := 0) (by omega)
    have a1 := R_at_y hr.1 (i := k - 1) (by omega)
    rw [(hr.2 0 (by omega)).1] at a0
    rw [(hr.2 (k - 1) (by omega)).1] at a1
    have eF : FX4_turnAlong a r c = if b1 = true ∧ b2' = true ∧ b3 = true then Option.bind (FX4_turnAlong_L48 a r (i3 (k - 1)) mx_FU (i3 0) c) (fun q26 => some (0, (mx_up q26.1 a 3 ((q26.1 a 3) + 1), q26.2))) else some (1, c) := by
      unfold FX4_turnAlong FX7_size
      rw [hr.1.1]
      simp (disch := omega) only [show (0 : Int32) = i3 0 from rfl, i3_subL, a0, a1, E1, E2, E3, ob_some, mx_letI, i3_ltL]
      rw [if_neg (by omega)]
      cases b1 <;> cases b2' <;> cases b3 <;> rfl
    by_cases hP : isP N k f
    · left
      refine ⟨hP, ?_⟩
      have pt := isP_pt g hP
      obtain ⟨c1, e1, z1, v1⟩ := C_turn_L h hr hk k2 (by omega) (by omega) hra2 pt
      rw [if_pos ⟨B1.mpr ⟨hP.2.2.1, hP.2.1⟩, B2.mpr ⟨hP.2.2.2.2.1, hP.2.2.2.1⟩, B3.mpr hP.2.2.2.2.2⟩, e1] at eF
      refine ⟨_, eF, ?_⟩
      have cl : ∀ b, b ≠ a + 3 → c1.1 b = c.1 b := fun b hb => z1.cell b (fun _ => hb)
      have cl2 : ∀ b, b ≠ a → b ≠ a + 3 → (mx_up c1.1 a 3 ((c1.1 a 3) + 1)) b = c.1 b := fun b hb hb2 => (up_off _ hb _ _).trans (cl b hb2)
      have cla : ∀ j, j ≠ 3 → (mx_up c1.1 a 3 ((c1.1 a 3) + 1)) a j = c.1 a j := fun j hj => by rw [mx_up_ne _ _ (fun _ => hj), cl a (by omega)]
      have off : ∀ j, j < 158 ∨ 168 ≤ j → j ≠ 126 → nTurn N k f j = N j := by
        intro j hj h6
        unfold nTurn
        rw [ud_ne _ _ h6]
        refine tn_off (fun i hi => ?_)
        have := pt i (by omega)
        omega
      have hk125 : nK (nTurn N k f) = nK N := by unfold nK; rw [off 125 (by omega) (by omega)]
      refine Nt_mk h (SI_tn g s hk hd hP) (fun j hj => off j (by omega) (by omega)) (cla 0 (by omega)) (cla 1 (by omega)) (cl2 _ (by omega) (by omega)) (cl2 _ (by omega) (by omega)) (cl2 _ (by omega) (by omega)) (cl2 _ (by omega) (by omega)) ?_ ⟨?_, ?_, ?_⟩ ?_ ?_
      · intro l hl; rw [off _ (by omega) (by omega)]; exact (congrFun (cl2 (a + 7) (by omega) (by omega)) l).trans (h1.2.2.1 l hl).2.2
      · rw [off _ (by omega) (by omega)]; exact (cla 2 (by omega)).trans h2.1.1
      · show mx_up c1.1 a 3 ((c1.1 a 3) + 1) a 3 = _
        rw [mx_up_self, cl a (by omega), h2.1.2.1]
        unfold nTurn
        rw [ud_self]
      · rw [off _ (by omega) (by omega)]; exact (cla 4 (by omega)).trans h2.1.2.2
      · intro p hp
        constructor
        · show mx_up c1.1 a 3 ((c1.1 a 3) + 1) (a + 3) p = _
          rw [up_off _ (by omega), v1 p hp]
          unfold nTurn
          rw [ud_ne _ _ (by omega)]
        · rw [off _ (by omega) (by omega)]; exact (congrFun (cl2 (a + 4) (by omega) (by omega)) p).trans (h2.2.1 p hp).2
      · intro j hj
        rw [hk125] at hj
        rw [off _ (by omega) (by omega), off _ (by omega) (by omega)]
        exact ⟨(congrFun (cl2 (a + 9) (by omega) (by omega)) j).trans (h2.2.2 j hj).1, (congrFun (cl2 (a + 10) (by omega) (by omega)) j).trans (h2.2.2 j hj).2⟩
    · right
      refine ⟨hP, ?_⟩
      rw [eF, if_neg]
      rintro ⟨q1, q2, q3⟩
      exact hP ⟨k2, (B1.mp q1).2, (B1.mp q1).1, (B2.mp q2).2, (B2.mp q2).1, B3.mp q3⟩
end TURNB
