/-! ===== the reference goes through all pairings ===== -/
def mt : List (Nat × Nat) → Nat → Int32
  | [], _ => -1
  | (p, q) :: M, x => if x = p then i3 q else if x = q then i3 p else mt M x
theorem mt_app (A : List (Nat × Nat)) (p q x : Nat) (hA : ∀ y ∈ A, y.1 < 2147483648 ∧ y.2 < 2147483648) : mt (A ++ [(p, q)]) x = if mt A x = -1 then (if x = p then i3 q else if x = q then i3 p else -1) else mt A x := by
  induction A with
  | nil => rfl
  | cons y A ih =>
    obtain ⟨a, b⟩ := y
    have h1 := hA (a, b) List.mem_cons_self
    show (if x = a then i3 b else if x = b then i3 a else mt (A ++ [(p, q)]) x) = if (if x = a then i3 b else if x = b then i3 a else mt A x) = -1 then _ else (if x = a then i3 b else if x = b then i3 a else mt A x)
    have n1 : ¬ i3 b = -1 := fun q => (i3_ne1 (a := b) h1.2).mp q
    have n2 : ¬ i3 a = -1 := fun q => (i3_ne1 (a := a) h1.1).mp q
    by_cases c1 : x = a
    · simp only [if_pos c1, if_neg n1]
    · by_cases c2 : x = b
      · simp only [if_neg c1, if_pos c2, if_neg n2]
      · simp only [if_neg c1, if_neg c2]
        exact ih (fun y hy => hA y (List.mem_cons_of_mem _ hy))
theorem tk_app (N : Rw) (A B : List (Nat × Nat)) : tk N (A ++ B) = ((tk N A).1 + (tk N B).1, (tk N A).2 + (tk N B).2) := by
  induction A with
  | nil => simp [tk]
  | cons y A ih =>
    obtain ⟨a, b⟩ := y
    show (Wt N a b + (tk N (A ++ B)).1, (tk N (A ++ B)).2 + 1) = (Wt N a b + (tk N A).1 + (tk N B).1, (tk N A).2 + 1 + (tk N B).2)
    rw [ih]
    refine Prod.ext ?_ ?_
    · dsimp only; omega
    · dsimp only; omega
section WALK
variable {N : Rw}
/-- where the walk stands: pre is paired, the points of fm from p on are free -/
def WS (N : Rw) (p fm : Nat) (pre : List (Nat × Nat)) (m : mB) : Prop := m.1 224 = N ∧ (∀ x, x < 10 → m.1 238 x = mt pre x) ∧ p ≤ nP N ∧ fm < 1024 ∧ (∀ x, x < 10 → fm.testBit x = (decide (p ≤ x) && decide (x < nP N) && decide (mt pre x = -1))) ∧ (∀ y ∈ pre, y.1 < 10 ∧ y.2 < 10) ∧ 2 * (tk N pre).2 + pc fm ≤ 10 ∧ (tk N pre).1 ≤ 99 * (tk N pre).2
theorem mask_ext {a b : Nat} (ha : a < 1024) (hb : b < 1024) (h : ∀ x, x < 10 → a.testBit x = b.testBit x) : a = b := by
  apply Nat.eq_of_testBit_eq
  intro i
  rcases Nat.lt_or_ge i 10 with q | q
  · exact h i q
  · rw [Nat.testBit_lt_two_pow (Nat.lt_of_lt_of_le ha (Nat.pow_le_pow_right (n := 2) (by omega) q)), Nat.testBit_lt_two_pow (Nat.lt_of_lt_of_le hb (Nat.pow_le_pow_right (n := 2) (by omega) q))]
theorem M_first (g : GI N) {p fm : Nat} {pre : List (Nat × Nat)} {m : mB} (h : WS N p fm pre m) (rec : Nat → Int32 → Int32 → Int32 → mB → Option mB) (y2 y3 : Int32) :
    FX12_walk_L3 rec 222 y2 y3 m mx_FU (i3 p) = some (if fm = 0 then i3 (nP N) else i3 (lst fm)) := by
  obtain ⟨hN, hm, hp, hf, hb, -, -, -⟩ := h
  have hn := g.1.2
  have key : hw (FX12_walk_L3 rec 222 y2 y3 m mx_FU (i3 p)) (fun r => r = if fm = 0 then i3 (nP N) else i3 (lst fm)) := by
    refine lp_inv0 (L := fun f y => FX12_walk_L3 rec 222 y2 y3 m f y) (n := nP N) (fun k => p ≤ k ∧ ∀ j, p ≤ j → j < k → mt pre j ≠ -1) ?_ ?_ p mx_FU hp (FU_lt (by omega)) ⟨Nat.le_refl _, fun j h1 h2 => by omega⟩
    · intro f hI
      show hw (FX12_walk_L3 rec 222 y2 y3 m (f + 1) (i3 (nP N))) _
      rw [FX12_walk_L3]
      simp (disch := omega) only [Nat.reduceAdd, hN, N0 g, Nat.le_refl, ob_some, mx_letI, mx_chkT, mx_inb_i3, mx_inb_lit, lit_toNat, i3_toNat, i3_le, i3_lt, i3_leL, i3_Lle, i3_ltL, i3_Llt, i3_neg, i3_eq, i3_eqL, i3_ne1, i3_add, i3_addL, i3_Ladd, i3_mul, i3_mulL, i3_Lmul, mx_b01_0, mx_b01_1, b2_01, b2_0, b2_1, se_inl, se_inr, if_true, if_false, e10, e01, e00, e11, em1, em1lt, Nat.not_lt_zero, if_pos, if_neg]
      have h0 : fm = 0 := mask_ext hf (by omega) (fun x hx => by
        rw [hb x hx, Nat.zero_testBit]
        by_cases c1 : p ≤ x ∧ x < nP N
        · have := hI.2 x c1.1 c1.2
          simp [this]
        · by_cases c2 : p ≤ x <;> by_cases c3 : x < nP N <;> simp [c2, c3] <;> exact absurd ⟨c2, c3⟩ c1)
      rw [if_pos h0]
      exact hw_some rfl
    · intro f k hk hI hs
      show hw (FX12_walk_L3 rec 222 y2 y3 m (f + 1) (i3 k)) _
      rw [FX12_walk_L3]
      simp (disch := omega) only [Nat.reduceAdd, hN, N0 g, hm k (by omega), ob_some, mx_letI, mx_chkT, mx_inb_i3, mx_inb_lit, lit_toNat, i3_toNat, i3_le, i3_lt, i3_leL, i3_Lle, i3_ltL, i3_Llt, i3_neg, i3_eq, i3_eqL, i3_ne1, i3_add, i3_addL, i3_Ladd, i3_mul, i3_mulL, i3_Lmul, mx_b01_0, mx_b01_1, b2_01, b2_0, b2_1, se_inl, se_inr, if_true, if_false, e10, e01, e00, e11, em1, em1lt, Nat.not_lt_zero]
      rw [if_neg (by omega)]
      by_cases c : mt pre k = -1
      · rw [if_pos c]
        have hbk : fm.testBit k = true := by rw [hb k (by omega)]; simp [c, hI.1, hk]
        have h0 : fm ≠ 0 := fun q => by rw [q, Nat.zero_testBit] at hbk; cases hbk
        obtain ⟨l1, l2⟩ := lst_ok fm hf h0
        have : lst fm = k := by
          rw [hb _ l1] at l2
          simp only [Bool.and_eq_true, decide_eq_true_eq] at l2
          rcases Nat.lt_trichotomy (lst fm) k with q | q | q
          · exact absurd l2.2 (hI.2 _ l2.1.1 q)
          · exact q
          · rw [lst_least q hf] at hbk; cases hbk
        rw [if_neg h0, this]
        exact hw_some rfl
      · rw [if_neg c]
        refine hs ⟨by omega, fun j h1 h2 => ?_⟩
        by_cases e : j = k
        · rw [e]; exact c
        · exact hI.2 j h1 (by omega)
  exact hw_eq.mp key
end WALK
