/-! ===== paths that are turned ===== -/
theorem lp_ig (ι : Nat → Int32) {S R : Type} {L : Nat → Int32 → S → Option R} {n : Nat} (I : Nat → S → Prop) {Q : R → Prop}
    (h0 : ∀ f s, I n s → hw (L (f + 1) (ι n) s) Q)
    (h1 : ∀ f k s, k < n → I k s → (∀ s', I (k + 1) s' → hw (L f (ι (k + 1)) s') Q) → hw (L (f + 1) (ι k) s) Q) :
    ∀ (k f : Nat) (s : S), k ≤ n → n - k < f → I k s → hw (L f (ι k) s) Q := by
  have key : ∀ (j k f : Nat) (s : S), k + j = n → j < f → I k s → hw (L f (ι k) s) Q := by
    intro j
    induction j with
    | zero =>
      intro k f s hk hf hi
      obtain ⟨f, rfl⟩ : ∃ g, f = g + 1 := ⟨f - 1, by omega⟩
      have : k = n := by omega
      subst this
      exact h0 f s hi
    | succ j ih =>
      intro k f s hk hf hi
      obtain ⟨f, rfl⟩ : ∃ g, f = g + 1 := ⟨f - 1, by omega⟩
      exact h1 f k s (by omega) hi (fun s' hs => ih (k + 1) f s' (by omega) (by omega) hs)
  intro k f s hk hf hi
  exact key (n - k) k f s (by omega) hf hi
/-- a loop of tests: true, or false at the first that fails -/
theorem lp_all {R : Type} {L : Nat → Int32 → Option (R ⊕ Unit)} (ι : Nat → Int32) {n : Nat} (P : Nat → Prop) (out : R)
    (h0 : ∀ f, L (f + 1) (ι n) = some (.inr ()))
    (h1 : ∀ f k, k < n → (∀ i, i < k → P i) → (P k ∧ L (f + 1) (ι k) = L f (ι (k + 1))) ∨ (¬ P k ∧ L (f + 1) (ι k) = some (.inl out))) (f : Nat) (hf : n < f) :
    (L f (ι 0) = some (.inr ()) ∧ ∀ i, i < n → P i) ∨ (L f (ι 0) = some (.inl out) ∧ ¬ ∀ i, i < n → P i) := by
  have := lp_ig ι (S := Unit) (L := fun f y _ => L f y) (n := n) (fun k _ => ∀ i, i < k → P i) (Q := fun r => (r = .inr () ∧ ∀ i, i < n → P i) ∨ (r = .inl out ∧ ¬ ∀ i, i < n → P i))
    (fun f _ h => by show hw (L (f + 1) (ι n)) _; rw [h0]; exact hw_some (Or.inl ⟨rfl, h⟩))
    (fun f k _ hk h hs => by
      show hw (L (f + 1) (ι k)) _
      rcases h1 f k hk h with ⟨hp, e⟩ | ⟨hp, e⟩
      · rw [e]
        refine hs () (fun i hi => ?_)
        rcases Nat.lt_or_ge i k with q | q
        · exact h i q
        · have : i = k := by omega
          rw [this]; exact hp
      · rw [e]
        exact hw_some (Or.inr ⟨rfl, fun q => hp (q k hk)⟩)) 0 f () (by omega) (by omega) (fun i hi => by omega)
  obtain ⟨r, e, h⟩ := this
  rcases h with ⟨rfl, h⟩ | ⟨rfl, h⟩
  · exact Or.inl ⟨e, h⟩
  · exact Or.inr ⟨e, h⟩
def gbp (N : Rw) (f : Nat → Nat) (i : Nat) : Prop := lk N (f i) (f (i + 1)) = true ∧ (i % 2 = 1 → N (158 + f i) = i3 (f (i + 1)))
theorem odd_i3 {k : Nat} (h : k < 2147483648) : (i3 k - i3 k / 2 * 2 = 1) ↔ k % 2 = 1 := by
  simp (disch := omega) only [i3_divL, i3_mulL]
  rw [i3_sub (by omega), i3_eqL (by omega) (by decide)]
  show k - k / 2 * 2 = 1 ↔ _
  omega
theorem even_i3 {k : Nat} (h : k < 2147483648) : (i3 k - i3 k / 2 * 2 = 0) ↔ k % 2 = 0 := by
  simp (disch := omega) only [i3_divL, i3_mulL]
  rw [i3_sub (by omega), i3_eqL (by omega) (by decide)]
  show k - k / 2 * 2 = 0 ↔ _
  omega
section TURN
variable {c d : mB} {a r k : Nat} {N : Rw} {f : Nat → Nat}
theorem C_areLinked (g : GI N) (h : CG c a N) {p q : Nat} (hp : p < 2147483648) (hq : q < 2147483648) : FX4_areLinked a (i3 p) (i3 q) c = some (b2 (lk N p q)) := by
  have hn := g.1.2
  by_cases h1 : p < nP N
  · by_cases h2 : q < nP N
    · exact C_areLinked_y g h h1 h2
    · have : lk N p q = false := by
        cases e : lk N p q with
        | false => rfl
        | true => exact absurd (lk_lt g e).2.1 h2
      rw [this]
      unfold FX4_areLinked
      simp (disch := omega) only [C_hasPoint_y g h h1, C_hasPoint_n g h (x := i3 q) (fun j hj => by rw [ne_eq, i3_eq (by omega) (by omega)]; omega), ob_some, mx_letI, mx_chkT, mx_inb_i3, mx_inb_lit, lit_toNat, i3_toNat, i3_le, i3_lt, i3_leL, i3_Lle, i3_ltL, i3_Llt, i3_neg, i3_eq, i3_eqL, i3_ne1, i3_add, i3_addL, i3_Ladd, i3_mul, i3_mulL, i3_Lmul, mx_b01_0, mx_b01_1, b2_01, b2_0, b2_1, se_inl, se_inr, if_true, if_false, e10, e01, e00, e11, em1, em1lt, Nat.not_lt_zero]
      rfl
  · have : lk N p q = false := by
      cases e : lk N p q with
      | false => rfl
      | true => exact absurd (lk_lt g e).1 h1
    rw [this, C_areLinked_n1 g h (fun j hj => by rw [ne_eq, i3_eq (by omega) (by omega)]; omega)]
    rfl
theorem C_goesByPairs (g : GI N) (h : CG c a N) (hs : CS c a N) (hr : Ri c r k f) : ∃ b : Bool, FX4_goesByPairs a r c = some (b2 b) ∧ (b = true ↔ ∀ i, i < k - 1 → gbp N f i) := by
  have hk := hr.1.2.1
  have key := lp_all (L := fun f y => FX4_goesByPairs_L2 a r c f y) i3 (n := k - 1) (gbp N f) 0 (fun f => by
      show FX4_goesByPairs_L2 a r c (f + 1) (i3 (k - 1)) = _
      rw [FX4_goesByPairs_L2]
      unfold FX7_size
      simp (disch := omega) only [hr.1.1, ob_some, mx_letI, mx_chkT, mx_inb_i3, mx_inb_lit, lit_toNat, i3_toNat, i3_le, i3_lt, i3_leL, i3_Lle, i3_ltL, i3_Llt, i3_neg, i3_eq, i3_eqL, i3_ne1, i3_add, i3_addL, i3_Ladd, i3_mul, i3_mulL, i3_Lmul, mx_b01_0, mx_b01_1, b2_01, b2_0, b2_1, se_inl, se_inr, if_true, if_false, e10, e01, e00, e11, em1, em1lt, Nat.not_lt_zero, if_pos, if_neg])
    (fun fu i hi hP => by
      show (_ ∧ FX4_goesByPairs_L2 a r c (fu + 1) (i3 i) = FX4_goesByPairs_L2 a r c fu (i3 (i + 1))) ∨ (_ ∧ FX4_goesByPairs_L2 a r c (fu + 1) (i3 i) = _)
      have e1 := hr.2 i (by omega)
      have e2 := hr.2 (i + 1) (by omega)
      have el := C_areLinked g h (p := f i) (q := f (i + 1)) (by omega) (by omega)
      rw [FX4_goesByPairs_L2]
      unfold FX7_size gbp
      simp (disch := omega) only [hr.1.1, R_at_y hr.1, e1.1, e2.1, el, odd_i3, ob_some, mx_letI, mx_chkT, mx_inb_i3, mx_inb_lit, lit_toNat, i3_toNat, i3_le, i3_lt, i3_leL, i3_Lle, i3_ltL, i3_Llt, i3_neg, i3_eq, i3_eqL, i3_ne1, i3_add, i3_addL, i3_Ladd, i3_mul, i3_mulL, i3_Lmul, mx_b01_0, mx_b01_1, b2_01, b2_0, b2_1, se_inl, se_inr, if_true, if_false, e10, e01, e00, e11, em1, em1lt, Nat.not_lt_zero]
      rw [if_neg (by omega)]
      cases hl : lk N (f i) (f (i + 1)) with
      | false => right; exact ⟨fun q => absurd q.1 (by decide), rfl⟩
      | true =>
        by_cases ho : i % 2 = 1
        · simp only [C_partnerOf_y g h hs (lk_lt g hl).1, ob_some]
          by_cases hq : N (158 + f i) = i3 (f (i + 1))
          · left; simp [ho, hq]
          · right; simp [ho, hq]
        · left; simp [ho]) mx_FU (FU_lt (by omega))
  unfold FX4_goesByPairs
  rcases key with ⟨e, hP⟩ | ⟨e, hP⟩
  · refine ⟨true, ?_, iff_of_true rfl hP⟩
    rw [i3_zero, e]; rfl
  · refine ⟨false, ?_, iff_of_false (by decide) hP⟩
    rw [i3_zero, e]; rfl
/-- a path, as the links and pairs are -/
def isP (N : Rw) (k : Nat) (f : Nat → Nat) : Prop := 2 ≤ k ∧ lone N (f 0) = true ∧ f 0 < nP N ∧ lone N (f (k - 1)) = true ∧ f (k - 1) < nP N ∧ ∀ i, i < k - 1 → gbp N f i
def tn (N : Rw) (f : Nat → Nat) : Nat → Rw
  | 0 => N
  | m + 1 => ud (ud (tn N f m) (158 + f (2 * m)) (i3 (f (2 * m + 1)))) (158 + f (2 * m + 1)) (i3 (f (2 * m)))
def nTurn (N : Rw) (k : Nat) (f : Nat → Nat) : Rw := ud (tn N f (k / 2)) 126 (N 126 + 1)
theorem tn_off {j : Nat} : ∀ {m : Nat}, (∀ i, i < 2 * m → j ≠ 158 + f i) → tn N f m j = N j := by
  intro m
  induction m with
  | zero => intro _; rfl
  | succ m ih =>
    intro h
    show ud (ud (tn N f m) _ _) _ _ j = _
    rw [ud_ne _ _ (h (2 * m + 1) (by omega)), ud_ne _ _ (h (2 * m) (by omega))]
    exact ih (fun i hi => h i (by omega))
theorem tn_at {k : Nat} (hd : ∀ i j, i < k → j < k → f i = f j → i = j) : ∀ {m : Nat}, 2 * m ≤ k → ∀ i, i < 2 * m → tn N f m (158 + f i) = i3 (f (if i % 2 = 0 then i + 1 else i - 1)) := by
  intro m
  induction m with
  | zero => intro _ i hi; omega
  | succ m ih =>
    intro hm i hi
    show ud (ud (tn N f m) _ _) _ _ _ = _
    by_cases e1 : i = 2 * m + 1
    · subst e1
      rw [ud_self, if_neg (by omega)]
      rfl
    · rw [ud_ne _ _ (fun q => e1 (hd i (2 * m + 1) (by omega) (by omega) (by omega)))]
      by_cases e2 : i = 2 * m
      · subst e2
        rw [ud_self, if_pos (by omega)]
      · rw [ud_ne _ _ (fun q => e2 (hd i (2 * m) (by omega) (by omega) (by omega)))]
        exact ih (by omega) i (by omega)
end TURN
