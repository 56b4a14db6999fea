/-! ===== part, open ===== -/
section OPEN
variable {c c' d : mB} {a r k : Nat} {N : Rw} {f : Nat → Nat}
def ptq (N : Rw) (p : Nat) : Nat := (N (158 + p)).toNatClampNeg
def rPart (N : Rw) (p : Nat) : Int32 := if lone N p = true then 1 else 0
def nPart (N : Rw) (p : Nat) : Rw := ud (ud N (158 + ptq N p) (-1)) (158 + p) (-1)
theorem C_partFrom (h : Nt c a N) {p : Nat} (hp : p < nP N) : ∃ c', FX4_partFrom a (i3 p) c = some (rPart N p, c') ∧ Nt c' a (if rPart N p = 0 then nPart N p else N) ∧ (rPart N p ≠ 0 → c' = c) := by
  have h' := h
  obtain ⟨g, s, h1, h2⟩ := h'
  have hn := g.1.2
  have hL := g.2.1.2
  have hK := s.1.2
  have ep := C_partnerOf_y g h1 h2 hp
  unfold rPart
  rcases prt s hp with q | ⟨q, hq, e1, e2, e3⟩
  · have hl : lone N p = true := decide_eq_true q
    simp only [hl, if_true]
    refine ⟨c, ?_, h, fun _ => rfl⟩
    unfold FX4_partFrom
    rw [ep, q]
    simp only [ob_some, C_hasPoint_y g h1 hp, C_hasPoint_m1 g h1, e10, if_false, if_true]
  · have hl : lone N p = false := decide_eq_false (by rw [e1, i3_ne1 (by omega)]; exact not_false)
    have hpq : ptq N p = q := by unfold ptq; rw [e1, i3_toNat (by omega)]
    have hne : p ≠ q := (lk_lt g e3).2.2
    simp only [hl]
    have eF : FX4_partFrom a (i3 p) c = some (0, (mx_up (mx_up c.1 (a + 3) p (-1)) (a + 3) q (-1), c.2)) := by
      unfold FX4_partFrom
      rw [ep, e1]
      simp (disch := omega) only [C_hasPoint_y g h1, ob_some, mx_letI, mx_chkT, mx_inb_i3, mx_inb_lit, lit_toNat, i3_toNat, i3_le, i3_lt, i3_leL, i3_Lle, i3_ltL, i3_Llt, i3_neg, i3_eq, i3_eqL, i3_ne1, i3_add, i3_addL, i3_Ladd, i3_mul, i3_mulL, i3_Lmul, mx_b01_0, mx_b01_1, b2_01, b2_0, b2_1, se_inl, se_inr, if_true, if_false, e10, e01, e00, e11, em1, em1lt, Nat.not_lt_zero]
    have off : ∀ k, k ≠ 158 + p → k ≠ 158 + q → nPart N p k = N k := fun k h1 h2 => by unfold nPart; rw [hpq, ud_ne _ _ h1, ud_ne _ _ h2]
    have atp : nPart N p (158 + p) = -1 := by unfold nPart; rw [ud_self]
    have atq : nPart N p (158 + q) = -1 := by unfold nPart; rw [hpq, ud_ne _ _ (by omega), ud_self]
    have cl : ∀ b, b ≠ a + 3 → (mx_up (mx_up c.1 (a + 3) p (-1)) (a + 3) q (-1)) b = c.1 b := fun b hb => (up_off _ hb _ _).trans (up_off _ hb _ _)
    have hk125 : nK (nPart N p) = nK N := by unfold nK; rw [off 125 (by omega) (by omega)]
    refine ⟨_, eF, ?_, fun q => absurd rfl q⟩
    show Nt _ a (nPart N p)
    refine Nt_mk h (SI_mk g s (fun k hk => off k (by omega) (by omega)) ?_ ?_ ?_ ?_ ?_) (fun k hk => off k (by omega) (by omega)) (congrFun (cl a (by omega)) 0) (congrFun (cl a (by omega)) 1) (cl _ (by omega)) (cl _ (by omega)) (cl _ (by omega)) (cl _ (by omega)) ?_ ?_ ?_ ?_
    · rw [hk125, off 125 (by omega) (by omega)]; exact s.1
    · intro l hl; rw [off _ (by omega) (by omega)]; exact s.2.1 l hl
    · intro r hr2
      by_cases q1 : r = p
      · subst q1; exact Or.inl atp
      · by_cases q2 : r = q
        · subst q2; exact Or.inl atq
        · rw [off _ (by omega) (by omega)]
          rcases prt s hr2 with z | ⟨z, z1, z2, z3, z4⟩
          · exact Or.inl z
          · have n1 : z ≠ p := fun e => by
              subst e
              rw [e1, i3_eq (by omega) (by omega)] at z3
              omega
            have n2 : z ≠ q := fun e => by
              subst e
              rw [e2, i3_eq (by omega) (by omega)] at z3
              omega
            exact Or.inr ⟨z, z1, z2, by rw [off _ (by omega) (by omega)]; exact z3, z4⟩
    · intro r hr2; rw [off _ (by omega) (by omega)]; exact s.2.2.2.1 r hr2
    · intro k hk; rw [hk125] at hk; rw [off _ (by omega) (by omega), off _ (by omega) (by omega)]; exact s.2.2.2.2 k hk
    · intro l hl; rw [off _ (by omega) (by omega)]; exact (congrFun (cl (a + 7) (by omega)) l).trans (h1.2.2.1 l hl).2.2
    · rw [off _ (by omega) (by omega), off _ (by omega) (by omega), off _ (by omega) (by omega)]; exact ⟨(congrFun (cl a (by omega)) 2).trans h2.1.1, (congrFun (cl a (by omega)) 3).trans h2.1.2.1, (congrFun (cl a (by omega)) 4).trans h2.1.2.2⟩
    · intro r hr2
      refine ⟨?_, by rw [off _ (by omega) (by omega)]; exact (congrFun (cl (a + 4) (by omega)) r).trans (h2.2.1 r hr2).2⟩
      show mx_up (mx_up c.1 (a + 3) p (-1)) (a + 3) q (-1) (a + 3) r = _
      rw [up_at, up_at]
      by_cases q2 : r = q
      · rw [if_pos q2, q2, atq]
      · by_cases q1 : r = p
        · rw [if_neg q2, if_pos q1, q1, atp]
        · rw [if_neg q2, if_neg q1, off _ (by omega) (by omega)]; exact (h2.2.1 r hr2).1
    · intro k hk; rw [hk125] at hk; rw [off _ (by omega) (by omega), off _ (by omega) (by omega)]; exact ⟨(congrFun (cl (a + 9) (by omega)) k).trans (h2.2.2 k hk).1, (congrFun (cl (a + 10) (by omega)) k).trans (h2.2.2 k hk).2⟩
theorem M_refusal_part (g : GI N) (h : d.1 224 = N) {p : Nat} (hp : p < nP N) (y n : Int32) : FX12_refusal 222 1 (i3 p) y n d = some (rPart N p, d) := by
  have hn := g.1.2
  unfold FX12_refusal rPart
  rw [if_neg (by decide), if_pos rfl]
  simp (disch := omega) only [M_isLone_y g h, ob_some, mx_letI, mx_chkT, mx_inb_i3, mx_inb_lit, lit_toNat, i3_toNat, i3_le, i3_lt, i3_leL, i3_Lle, i3_ltL, i3_Llt, i3_neg, i3_eq, i3_eqL, i3_ne1, i3_add, i3_addL, i3_Ladd, i3_mul, i3_mulL, i3_Lmul, mx_b01_0, mx_b01_1, b2_01, b2_0, b2_1, se_inl, se_inr, if_true, if_false, e10, e01, e00, e11, em1, em1lt, Nat.not_lt_zero]
  cases lone N p <;> rfl
theorem M_live_part (g : GI N) (s : SI N) (h : d.1 224 = N) {p : Nat} (hp : p < nP N) (hr : rPart N p = 0) (y n : Int32) : FX12_live 222 1 (i3 p) y n d = some (sr d (nPart N p)) := by
  have hn := g.1.2
  unfold rPart at hr
  have hl : lone N p = false := by
    cases e : lone N p with
    | false => rfl
    | true => rw [e, if_pos rfl] at hr; exact absurd hr (by decide)
  rcases prt s hp with q | ⟨q, hq, e1, e2, e3⟩
  · exact absurd q (of_decide_eq_false hl)
  · have hpq : ptq N p = q := by unfold ptq; rw [e1, i3_toNat (by omega)]
    unfold FX12_live
    rw [if_neg (by decide), if_pos rfl]
    simp (disch := omega) only [h, Nat.reduceAdd, e1, ob_some, mx_letI, mx_chkT, mx_inb_i3, mx_inb_lit, lit_toNat, i3_toNat, i3_le, i3_lt, i3_leL, i3_Lle, i3_ltL, i3_Llt, i3_neg, i3_eq, i3_eqL, i3_ne1, i3_add, i3_addL, i3_Ladd, i3_mul, i3_mulL, i3_Lmul, mx_b01_0, mx_b01_1, b2_01, b2_0, b2_1, se_inl, se_inr, if_true, if_false, e10, e01, e00, e11, em1, em1lt, Nat.not_lt_zero]
    rw [show mx_up d.1 224 (158 + q) (-1) = (sr d (ud N (158 + q) (-1))).1 from by rw [← h, ← up_row]]
    rw [show (mx_up (sr d (ud N (158 + q) (-1))).1 224 (158 + p) (-1), d.2) = sr d (nPart N p) from by
      have := up_row (sr d (ud N (158 + q) (-1))) (158 + p) (-1)
      rw [sr_2, sr_row, sr_sr] at this
      rw [this]
      unfold nPart
      rw [hpq]]
/-! open -/
def rOpen (N : Rw) (k : Nat) : Int32 := if N (184 + k) ≤ 0 then 0 else 1
def sh (N : Rw) (k i : Nat) : Rw := fun j => if (178 + k ≤ j ∧ j < 178 + i) ∨ (184 + k ≤ j ∧ j < 184 + i) then N (j + 1) else N j
def nOpen (N : Rw) (k : Nat) : Rw := ud (ud (sh (ud N 125 (i3 (nK N - 1))) k 5) (178 + (nK N - 1)) 0) (184 + (nK N - 1)) 0
theorem sh0 (N : Rw) (k : Nat) : sh N k k = N := by
  funext j
  unfold sh
  rw [if_neg (by omega)]
theorem sh_step (N : Rw) {k i : Nat} (hi : i < 5) (hk : k ≤ i) : ud (ud (sh N k i) (178 + i) (sh N k i (178 + i + 1))) (184 + i) (ud (sh N k i) (178 + i) (sh N k i (178 + i + 1)) (184 + i + 1)) = sh N k (i + 1) := by
  funext j
  unfold ud sh
  by_cases e1 : j = 184 + i
  · subst e1
    rw [if_pos rfl, if_neg (by omega), if_neg (by omega), if_pos (by omega)]
  · rw [if_neg e1]
    by_cases e2 : j = 178 + i
    · subst e2
      rw [if_pos rfl, if_neg (by omega), if_pos (by omega)]
    · rw [if_neg e2]
      by_cases e3 : (178 + k ≤ j ∧ j < 178 + i) ∨ (184 + k ≤ j ∧ j < 184 + i)
      · rw [if_pos e3, if_pos (by omega)]
      · rw [if_neg e3, if_neg (by omega)]
theorem nOpen_eq (hk : k < nK N) (h6 : nK N ≤ 6) (j : Nat) : nOpen N k j = if j = 125 then i3 (nK N - 1) else if j = 178 + (nK N - 1) ∨ j = 184 + (nK N - 1) then 0 else if (178 + k ≤ j ∧ j < 183) ∨ (184 + k ≤ j ∧ j < 189) then N (j + 1) else N j := by
  unfold nOpen
  by_cases e0 : j = 125
  · subst e0
    rw [if_pos rfl, ud_ne _ _ (by omega), ud_ne _ _ (by omega)]
    unfold sh
    rw [if_neg (by omega), ud_self]
  · rw [if_neg e0]
    by_cases e1 : j = 184 + (nK N - 1)
    · rw [if_pos (Or.inr e1), e1, ud_self]
    · rw [ud_ne _ _ e1]
      by_cases e2 : j = 178 + (nK N - 1)
      · rw [if_pos (Or.inl e2), e2, ud_self]
      · rw [ud_ne _ _ e2, if_neg (by omega)]
        unfold sh
        by_cases e3 : (178 + k ≤ j ∧ j < 183) ∨ (184 + k ≤ j ∧ j < 189)
        · rw [if_pos (by omega), if_pos e3, ud_ne _ _ (by omega)]
        · rw [if_neg (by omega), if_neg e3, ud_ne _ _ e0]
theorem M_refusal_open (s : SI N) (h : d.1 224 = N) (hk : k < nK N) (y n : Int32) : FX12_refusal 222 5 (i3 k) y n d = some (rOpen N k, d) := by
  have hn := s.1.2
  unfold FX12_refusal rOpen
  rw [if_neg (by decide), if_neg (by decide), if_neg (by decide), if_neg (by decide), if_neg (by decide), if_pos rfl]
  simp (disch := omega) only [h, Nat.reduceAdd, ob_some, mx_letI, mx_chkT, mx_inb_i3, mx_inb_lit, lit_toNat, i3_toNat, i3_le, i3_lt, i3_leL, i3_Lle, i3_ltL, i3_Llt, i3_neg, i3_eq, i3_eqL, i3_ne1, i3_add, i3_addL, i3_Ladd, i3_mul, i3_mulL, i3_Lmul, mx_b01_0, mx_b01_1, b2_01, b2_0, b2_1, se_inl, se_inr, if_true, if_false, e10, e01, e00, e11, em1, em1lt, Nat.not_lt_zero]
  split <;> rfl
theorem M_live_open (s : SI N) (h : d.1 224 = N) (hk : k < nK N) (y n : Int32) : FX12_live 222 5 (i3 k) y n d = some (sr d (nOpen N k)) := by
  have hn := s.1.2
  have e0 : N 125 - 1 = i3 (nK N - 1) := by rw [N125 s, show nK N = nK N - 1 + 1 by omega, i3_m1]; rfl
  have key : hw (FX12_openOdd_L13 222 mx_FU (i3 k) (sr d (ud N 125 (i3 (nK N - 1))))) (fun m => m = sr d (sh (ud N 125 (i3 (nK N - 1))) k 5)) := by
    refine lp_inv (L := fun fu y m => FX12_openOdd_L13 222 fu y m) (n := 5) (fun i m => k ≤ i ∧ m = sr d (sh (ud N 125 (i3 (nK N - 1))) k i)) ?_ ?_ k mx_FU _ (by omega) (FU_lt (by omega)) ⟨Nat.le_refl _, by rw [sh0]⟩
    · intro fu m hm
      show hw (FX12_openOdd_L13 222 (fu + 1) (i3 5) m) _
      rw [FX12_openOdd_L13]
      exact hw_some hm.2
    · intro fu i m hi hm hs
      show hw (FX12_openOdd_L13 222 (fu + 1) (i3 i) m) _
      obtain ⟨hki, rfl⟩ := hm
      rw [FX12_openOdd_L13]
      simp (disch := omega) only [up_row', sr_row, sr_sr, Nat.reduceAdd, ob_some, mx_letI, mx_chkT, mx_inb_i3, mx_inb_lit, lit_toNat, i3_toNat, i3_le, i3_lt, i3_leL, i3_Lle, i3_ltL, i3_Llt, i3_neg, i3_eq, i3_eqL, i3_ne1, i3_add, i3_addL, i3_Ladd, i3_mul, i3_mulL, i3_Lmul, mx_b01_0, mx_b01_1, b2_01, b2_0, b2_1, se_inl, se_inr, if_true, if_false, e10, e01, e00, e11, em1, em1lt, Nat.not_lt_zero, if_pos, if_neg]
      refine hs _ ⟨by omega, ?_⟩
      rw [sh_step _ hi hki]
  obtain ⟨m, e, rfl⟩ := key
  have e2 : sh (ud N 125 (i3 (nK N - 1))) k 5 125 = i3 (nK N - 1) := by unfold sh; rw [if_neg (by omega), ud_self]
  unfold FX12_live FX12_openOdd
  rw [if_neg (by decide), if_neg (by decide), if_neg (by decide), if_neg (by decide), if_neg (by decide), if_pos rfl]
  simp (disch := omega) only [up_row', sr_row, sr_sr, Nat.reduceAdd, h, e0, e, e2, ob_some, mx_letI, i3_Ladd, mx_inb_i3, mx_chkT, i3_toNat]
  rw [ud_ne _ _ (by omega), e2]
  simp (disch := omega) only [i3_Ladd, mx_inb_i3, mx_chkT, i3_toNat]
  rfl
theorem C_openSet (h : Nt c a N) (hk : k < nK N) : ∃ c', FX4_openSet a (i3 k) c = some (rOpen N k, c') ∧ Nt c' a (if rOpen N k = 0 then nOpen N k else N) ∧ (rOpen N k ≠ 0 → c' = c) := by
  have h' := h
  obtain ⟨g, s, h1, h2⟩ := h'
  have hn := g.1.2
  have hL := g.2.1.2
  have hK := s.1.2
  have ep : c.1 (a + 10) k = N (184 + k) := (h2.2.2 k hk).2
  unfold rOpen
  by_cases e : N (184 + k) ≤ 0
  · simp only [if_pos e]
    have key : hw (FX4_openSet_L21 a mx_FU (i3 k) c) (fun m => (∀ b, b ≠ a + 9 → b ≠ a + 10 → m.1 b = c.1 b) ∧ (∀ j, j < nK N - 1 → m.1 (a + 9) j = (if k ≤ j then N (178 + j + 1) else N (178 + j)) ∧ m.1 (a + 10) j = (if k ≤ j then N (184 + j + 1) else N (184 + j)))) := by
      refine lp_inv (L := fun fu y m => FX4_openSet_L21 a fu y m) (n := nK N - 1) (fun i m => k ≤ i ∧ (∀ b, b ≠ a + 9 → b ≠ a + 10 → m.1 b = c.1 b) ∧ (∀ j, j < nK N → m.1 (a + 9) j = (if k ≤ j ∧ j < i then N (178 + j + 1) else N (178 + j)) ∧ m.1 (a + 10) j = (if k ≤ j ∧ j < i then N (184 + j + 1) else N (184 + j)))) ?_ ?_ k mx_FU _ (by omega) (FU_lt (by omega)) ⟨Nat.le_refl _, fun _ _ _ => rfl, fun j hj => by rw [if_neg (by omega), if_neg (by omega)]; exact h2.2.2 j hj⟩
      · intro fu m hm
        show hw (FX4_openSet_L21 a (fu + 1) (i3 (nK N - 1)) m) _
        rw [FX4_openSet_L21, hm.2.1 a (by omega) (by omega), C2 s h2]
        simp (disch := omega) only [ob_some, mx_letI, mx_chkT, mx_inb_i3, mx_inb_lit, lit_toNat, i3_toNat, i3_le, i3_lt, i3_leL, i3_Lle, i3_ltL, i3_Llt, i3_neg, i3_eq, i3_eqL, i3_ne1, i3_add, i3_addL, i3_Ladd, i3_mul, i3_mulL, i3_Lmul, mx_b01_0, mx_b01_1, b2_01, b2_0, b2_1, se_inl, se_inr, if_true, if_false, e10, e01, e00, e11, em1, em1lt, Nat.not_lt_zero, if_pos, if_neg]
        refine hw_some ⟨hm.2.1, fun j hj => ?_⟩
        have := hm.2.2 j (by omega)
        by_cases q : k ≤ j
        · rw [if_pos q, if_pos q]; rw [if_pos ⟨q, hj⟩, if_pos ⟨q, hj⟩] at this; exact this
        · rw [if_neg q, if_neg q]; rw [if_neg (by omega), if_neg (by omega)] at this; exact this
      · intro fu i m hi hm hs
        show hw (FX4_openSet_L21 a (fu + 1) (i3 i) m) _
        rw [FX4_openSet_L21, hm.2.1 a (by omega) (by omega), C2 s h2]
        simp (disch := omega) only [ob_some, mx_letI, mx_chkT, mx_inb_i3, mx_inb_lit, lit_toNat, i3_toNat, i3_le, i3_lt, i3_leL, i3_Lle, i3_ltL, i3_Llt, i3_neg, i3_eq, i3_eqL, i3_ne1, i3_add, i3_addL, i3_Ladd, i3_mul, i3_mulL, i3_Lmul, mx_b01_0, mx_b01_1, b2_01, b2_0, b2_1, se_inl, se_inr, if_true, if_false, e10, e01, e00, e11, em1, em1lt, Nat.not_lt_zero, if_pos, if_neg]
        refine hs _ ⟨by omega, fun b hb hb2 => ?_, fun j hj => ?_⟩
        · show mx_up (mx_up _ _ _ _) _ _ _ b = _
          rw [up_off _ hb2, up_off _ hb]; exact hm.2.1 b hb hb2
        · have i1 := hm.2.2 (i + 1) (by omega)
          rw [if_neg (by omega), if_neg (by omega)] at i1
          have j1 := hm.2.2 j hj
          constructor
          · show mx_up (mx_up m.1 (a + 9) i _) (a + 10) i _ (a + 9) j = _
            rw [up_off _ (by omega), up_at]
            by_cases q : j = i
            · subst q; rw [if_pos rfl, if_pos (by omega), i1.1]; rfl
            · rw [if_neg q, j1.1]
              by_cases q2 : k ≤ j ∧ j < i
              · rw [if_pos q2, if_pos (by omega)]
              · rw [if_neg q2, if_neg (by omega)]
          · show mx_up (mx_up m.1 (a + 9) i _) (a + 10) i _ (a + 10) j = _
            rw [up_at, up_off _ (by omega)]
            by_cases q : j = i
            · subst q; rw [if_pos rfl, if_pos (by omega), i1.2]; rfl
            · rw [if_neg q, j1.2]
              by_cases q2 : k ≤ j ∧ j < i
              · rw [if_pos q2, if_pos (by omega)]
              · rw [if_neg q2, if_neg (by omega)]
    obtain ⟨m, em, z, v⟩ := key
    have eF : FX4_openSet a (i3 k) c = some (0, (mx_up m.1 a 2 (i3 (nK N - 1)), m.2)) := by
      unfold FX4_openSet
      simp (disch := omega) only [C_hasSet_y s h2 hk, ep, e, em, z a (by omega) (by omega), C2 s h2, i3_subL, ob_some, mx_letI, mx_chkT, mx_inb_i3, mx_inb_lit, lit_toNat, i3_toNat, i3_le, i3_lt, i3_leL, i3_Lle, i3_ltL, i3_Llt, i3_neg, i3_eq, i3_eqL, i3_ne1, i3_add, i3_addL, i3_Ladd, i3_mul, i3_mulL, i3_Lmul, mx_b01_0, mx_b01_1, b2_01, b2_0, b2_1, se_inl, se_inr, if_true, if_false, e10, e01, e00, e11, em1, em1lt, Nat.not_lt_zero]
    have eN := nOpen_eq hk hK
    have cl : ∀ b, b ≠ a → b ≠ a + 9 → b ≠ a + 10 → (mx_up m.1 a 2 (i3 (nK N - 1))) b = c.1 b := fun b hb hb2 hb3 => (up_off _ hb _ _).trans (z b hb2 hb3)
    have cla : ∀ j, j ≠ 2 → (mx_up m.1 a 2 (i3 (nK N - 1))) a j = c.1 a j := fun j hj => by rw [mx_up_ne _ _ (fun _ => hj), z a (by omega) (by omega)]
    have off : ∀ j, j < 178 → j ≠ 125 → nOpen N k j = N j := fun j hj hj2 => by rw [eN, if_neg hj2, if_neg (by omega), if_neg (by omega)]
    have hk125 : nK (nOpen N k) = nK N - 1 := by
      have e5 : nOpen N k 125 = i3 (nK N - 1) := by rw [eN, if_pos rfl]
      show (nOpen N k 125).toNatClampNeg = _
      rw [e5, i3_toNat (by omega)]
    have on : ∀ j, j < nK N - 1 → nOpen N k (178 + j) = (if k ≤ j then N (178 + j + 1) else N (178 + j)) ∧ nOpen N k (184 + j) = (if k ≤ j then N (184 + j + 1) else N (184 + j)) := by
      intro j hj
      have o1 : ∀ x, x = 178 + j ∨ x = 184 + j → nOpen N k x = (if k ≤ j then N (x + 1) else N x) := by
        intro x hx
        rw [eN, if_neg (by omega), if_neg (by omega)]
        by_cases q : k ≤ j
        · rw [if_pos (by omega), if_pos q]
        · rw [if_neg (by omega), if_neg q]
      exact ⟨o1 _ (Or.inl rfl), o1 _ (Or.inr rfl)⟩
    refine ⟨_, eF, ?_, fun q => absurd rfl q⟩
    show Nt _ a (nOpen N k)
    refine Nt_mk h (SI_mk g s (fun k hk => off k (by omega) (by omega)) ?_ ?_ ?_ ?_ ?_) (fun k hk => off k (by omega) (by omega)) (cla 0 (by omega)) (cla 1 (by omega)) (cl _ (by omega) (by omega) (by omega)) (cl _ (by omega) (by omega) (by omega)) (cl _ (by omega) (by omega) (by omega)) (cl _ (by omega) (by omega) (by omega)) ?_ ⟨?_, ?_, ?_⟩ ?_ ?_
    · rw [hk125, eN, if_pos rfl]; exact ⟨rfl, by omega⟩
    · intro l hl; rw [off _ (by omega) (by omega)]; exact s.2.1 l hl
    · intro p hp; rw [off _ (by omega) (by omega)]
      rcases prt s hp with q | ⟨q, q1, q2, q3, q4⟩
      · exact Or.inl q
      · exact Or.inr ⟨q, q1, q2, by rw [off _ (by omega) (by omega)]; exact q3, q4⟩
    · intro p hp; rw [off _ (by omega) (by omega)]; exact s.2.2.2.1 p hp
    · intro j hj
      rw [hk125] at hj
      rw [(on j hj).1, (on j hj).2]
      by_cases q : k ≤ j
      · rw [if_pos q, if_pos q]; exact s.2.2.2.2 (j + 1) (by omega)
      · rw [if_neg q, if_neg q]; exact s.2.2.2.2 j (by omega)
    · intro l hl; rw [off _ (by omega) (by omega)]; exact (congrFun (cl (a + 7) (by omega) (by omega) (by omega)) l).trans (h1.2.2.1 l hl).2.2
    · rw [eN, if_pos rfl]; exact mx_up_self _ _ _ _
    · rw [off _ (by omega) (by omega)]; exact (cla 3 (by omega)).trans h2.1.2.1
    · rw [off _ (by omega) (by omega)]; exact (cla 4 (by omega)).trans h2.1.2.2
    · intro p hp; rw [off _ (by omega) (by omega), off _ (by omega) (by omega)]
      exact ⟨(congrFun (cl (a + 3) (by omega) (by omega) (by omega)) p).trans (h2.2.1 p hp).1, (congrFun (cl (a + 4) (by omega) (by omega) (by omega)) p).trans (h2.2.1 p hp).2⟩
    · intro j hj
      rw [hk125] at hj
      rw [(on j hj).1, (on j hj).2]
      show mx_up m.1 a 2 _ (a + 9) j = _ ∧ mx_up m.1 a 2 _ (a + 10) j = _
      rw [up_off _ (by omega), up_off _ (by omega)]
      exact v j hj
  · simp only [if_neg e]
    refine ⟨c, ?_, h, fun _ => rfl⟩
    unfold FX4_openSet
    simp (disch := omega) only [C_hasSet_y s h2 hk, ep, e, ob_some, mx_letI, mx_chkT, mx_inb_i3, mx_inb_lit, lit_toNat, i3_toNat, i3_le, i3_lt, i3_leL, i3_Lle, i3_ltL, i3_Llt, i3_neg, i3_eq, i3_eqL, i3_ne1, i3_add, i3_addL, i3_Ladd, i3_mul, i3_mulL, i3_Lmul, mx_b01_0, mx_b01_1, b2_01, b2_0, b2_1, se_inl, se_inr, if_true, if_false, e10, e01, e00, e11, em1, em1lt, Nat.not_lt_zero]
end OPEN
