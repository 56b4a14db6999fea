/-! ===== flowers, the reference's side ===== -/
section SHRM
variable {c d : mB} {a r k : Nat} {N : Rw} {f : Nat → Nat}
theorem M_isFlower (g : GI N) (h : d.1 224 = N) (hm : d.1 222 30 = i3 k) (hk10 : k ≤ 10) (hk : k = 0 ∨ (3 ≤ k ∧ k % 2 = 1)) (hrow : ∀ i, i < k → d.1 237 i = i3 (f i) ∧ f i < 10) :
    ∃ b : Bool, FX12_isFlower 222 d = some (b2 b) ∧ (b = true ↔ isF N k f) := by
  have hn := g.1.2
  have k1 := lp_all (L := fun fu y => FX12_isFlower_L2 222 d fu y) i3 (n := k) (fun i => f i < nP N) 0 (fun fu => by
      show FX12_isFlower_L2 222 d (fu + 1) (i3 k) = _
      rw [FX12_isFlower_L2, hm]
      simp (disch := omega) only [Nat.le_refl, ob_some, mx_letI, mx_chkT, mx_inb_i3, mx_inb_lit, lit_toNat, i3_toNat, i3_le, i3_lt, i3_leL, i3_Lle, i3_ltL, i3_Llt, i3_neg, i3_eq, i3_eqL, i3_ne1, i3_add, i3_addL, i3_Ladd, i3_mul, i3_mulL, i3_Lmul, mx_b01_0, mx_b01_1, b2_01, b2_0, b2_1, se_inl, se_inr, if_true, if_false, e10, e01, e00, e11, em1, em1lt, Nat.not_lt_zero, if_pos, if_neg])
    (fun fu i hi hP => by
      show (_ ∧ FX12_isFlower_L2 222 d (fu + 1) (i3 i) = FX12_isFlower_L2 222 d fu (i3 (i + 1))) ∨ (_ ∧ FX12_isFlower_L2 222 d (fu + 1) (i3 i) = _)
      rw [FX12_isFlower_L2, hm]
      have e1 := hrow i hi
      by_cases q : f i < nP N
      · left
        refine ⟨q, ?_⟩
        simp (disch := omega) only [Nat.reduceAdd, e1.1, M_isPoint_y g h q, ob_some, mx_letI, mx_chkT, mx_inb_i3, mx_inb_lit, lit_toNat, i3_toNat, i3_le, i3_lt, i3_leL, i3_Lle, i3_ltL, i3_Llt, i3_neg, i3_eq, i3_eqL, i3_ne1, i3_add, i3_addL, i3_Ladd, i3_mul, i3_mulL, i3_Lmul, mx_b01_0, mx_b01_1, b2_01, b2_0, b2_1, se_inl, se_inr, if_true, if_false, e10, e01, e00, e11, em1, em1lt, Nat.not_lt_zero, if_pos, if_neg]
      · right
        refine ⟨q, ?_⟩
        simp (disch := omega) only [Nat.reduceAdd, e1.1, M_isPoint_n g h (x := i3 (f i)) (i3_neqb (by omega) (by omega)), ob_some, mx_letI, mx_chkT, mx_inb_i3, mx_inb_lit, lit_toNat, i3_toNat, i3_le, i3_lt, i3_leL, i3_Lle, i3_ltL, i3_Llt, i3_neg, i3_eq, i3_eqL, i3_ne1, i3_add, i3_addL, i3_Ladd, i3_mul, i3_mulL, i3_Lmul, mx_b01_0, mx_b01_1, b2_01, b2_0, b2_1, se_inl, se_inr, if_true, if_false, e10, e01, e00, e11, em1, em1lt, Nat.not_lt_zero, if_pos, if_neg]) mx_FU (FU_lt (by omega))
  unfold FX12_isFlower
  rw [show (0 : Int32) = i3 0 from rfl, hm]
  rcases k1 with ⟨e, hP⟩ | ⟨e, hP⟩
  · rw [e]
    simp only [ob_some, se_inr]
    have k2 := lp_all (L := fun fu y => FX12_isFlower_L33 222 d fu y) (fun j => i3 (j + 1)) (n := k - 1) (gbp N f) 0 (fun fu => by
        show FX12_isFlower_L33 222 d (fu + 1) (i3 (k - 1 + 1)) = _
        rw [FX12_isFlower_L33, hm]
        simp (disch := omega) only [ob_some, mx_letI, mx_chkT, mx_inb_i3, mx_inb_lit, lit_toNat, i3_toNat, i3_le, i3_lt, i3_leL, i3_Lle, i3_ltL, i3_Llt, i3_neg, i3_eq, i3_eqL, i3_ne1, i3_add, i3_addL, i3_Ladd, i3_mul, i3_mulL, i3_Lmul, mx_b01_0, mx_b01_1, b2_01, b2_0, b2_1, se_inl, se_inr, if_true, if_false, e10, e01, e00, e11, em1, em1lt, Nat.not_lt_zero, if_pos, if_neg])
      (fun fu i hi hQ => by
        show (_ ∧ FX12_isFlower_L33 222 d (fu + 1) (i3 (i + 1)) = FX12_isFlower_L33 222 d fu (i3 (i + 1 + 1))) ∨ (_ ∧ FX12_isFlower_L33 222 d (fu + 1) (i3 (i + 1)) = _)
        rw [FX12_isFlower_L33, hm]
        have e1 := hrow i (by omega)
        have e2 := hrow (i + 1) (by omega)
        have p1 := hP i (by omega)
        simp (disch := omega) only [Nat.reduceAdd, i3_m1, e1.1, e2.1, M_areLinked g h, M_arePaired_y g h p1, even_i3, ob_some, mx_letI, mx_chkT, mx_inb_i3, mx_inb_lit, lit_toNat, i3_toNat, i3_le, i3_lt, i3_leL, i3_Lle, i3_ltL, i3_Llt, i3_neg, i3_eq, i3_eqL, i3_ne1, i3_add, i3_addL, i3_Ladd, i3_mul, i3_mulL, i3_Lmul, mx_b01_0, mx_b01_1, b2_01, b2_0, b2_1, se_inl, se_inr, if_true, if_false, e10, e01, e00, e11, em1, em1lt, Nat.not_lt_zero]
        rw [if_neg (by omega)]
        unfold gbp
        cases hl : lk N (f i) (f (i + 1)) with
        | false => right; exact ⟨fun q => absurd q.1 (by decide), rfl⟩
        | true =>
          by_cases ho : i % 2 = 1
          · have ho2 : (i + 1) % 2 = 0 := by omega
            by_cases hq : N (158 + f i) = i3 (f (i + 1))
            · left; simp [ho, ho2, hq]
            · right; simp [ho, ho2, hq]
          · have ho2 : ¬ (i + 1) % 2 = 0 := by omega
            left; simp [ho, ho2]) mx_FU (FU_lt (by omega))
    rw [show (1 : Int32) = i3 (0 + 1) from rfl]
    rcases k2 with ⟨e2, hQ⟩ | ⟨e2, hQ⟩
    · rw [e2]
      simp only [ob_some, se_inr]
      rcases hk with h0 | ⟨k3, ko⟩
      · refine ⟨false, ?_, iff_of_false (by decide) (fun q => by have := q.1; omega)⟩
        subst h0
        rfl
      · have p0 := (hrow 0 (by omega)).2
        have p1 := (hrow (k - 1) (by omega)).2
        refine ⟨lk N (f (k - 1)) (f 0), ?_, ?_⟩
        · simp (disch := omega) only [Nat.reduceAdd, i3_sub, Nat.zero_add, (hrow 0 (by omega)).1, (hrow (k - 1) (by omega)).1, M_areLinked g h, ob_some, mx_letI, mx_chkT, mx_inb_i3, mx_inb_lit, lit_toNat, i3_toNat, i3_le, i3_lt, i3_leL, i3_Lle, i3_ltL, i3_Llt, i3_neg, i3_eq, i3_eqL, i3_ne1, i3_add, i3_addL, i3_Ladd, i3_mul, i3_mulL, i3_Lmul, mx_b01_0, mx_b01_1, b2_01, b2_0, b2_1, se_inl, se_inr, if_true, if_false, e10, e01, e00, e11, em1, em1lt, Nat.not_lt_zero]
          rw [if_neg (by omega)]
          cases lk N (f (k - 1)) (f 0) <;> rfl
        · exact ⟨fun q => ⟨k3, hQ, q⟩, fun q => q.2.2⟩
    · rw [e2]
      exact ⟨false, rfl, iff_of_false (by decide) (fun hp => hQ hp.2.1)⟩
  · rw [e]
    exact ⟨false, rfl, iff_of_false (by decide) (fun hp => hP (isF_pt g hp))⟩
theorem M_shr_L (hm : d.1 222 30 = i3 k) (hk10 : k ≤ 10) (hrow : ∀ i, i < k → d.1 237 i = i3 (f i) ∧ f i < 10) : FX12_shrink_L18 222 d mx_FU (i3 0) (i3 0) = some (i3 (sN f k)) := by
  rw [← sN_fo (fun i hi => by have := (hrow i hi).2; omega)]
  refine lp_fo (L := fun fu y t => FX12_shrink_L18 222 d fu t y) (n := k) _ (fun t => t) _ ?_ ?_ mx_FU (FU_lt (by omega))
  · intro fu t
    show FX12_shrink_L18 222 d (fu + 1) t (i3 k) = _
    rw [FX12_shrink_L18, hm]
    simp (disch := omega) only [Nat.le_refl, ob_some, mx_letI, mx_chkT, mx_inb_i3, mx_inb_lit, lit_toNat, i3_toNat, i3_le, i3_lt, i3_leL, i3_Lle, i3_ltL, i3_Llt, i3_neg, i3_eq, i3_eqL, i3_ne1, i3_add, i3_addL, i3_Ladd, i3_mul, i3_mulL, i3_Lmul, mx_b01_0, mx_b01_1, b2_01, b2_0, b2_1, se_inl, se_inr, if_true, if_false, e10, e01, e00, e11, em1, em1lt, Nat.not_lt_zero, if_pos, if_neg]
  · intro fu i t hi
    show FX12_shrink_L18 222 d (fu + 1) t (i3 i) = FX12_shrink_L18 222 d fu _ (i3 (i + 1))
    rw [FX12_shrink_L18, hm]
    simp (disch := omega) only [Nat.reduceAdd, (hrow i hi).1, pw_eq, ob_some, mx_letI, mx_chkT, mx_inb_i3, mx_inb_lit, lit_toNat, i3_toNat, i3_le, i3_lt, i3_leL, i3_Lle, i3_ltL, i3_Llt, i3_neg, i3_eq, i3_eqL, i3_ne1, i3_add, i3_addL, i3_Ladd, i3_mul, i3_mulL, i3_Lmul, mx_b01_0, mx_b01_1, b2_01, b2_0, b2_1, se_inl, se_inr, if_true, if_false, e10, e01, e00, e11, em1, em1lt, Nat.not_lt_zero, if_pos, if_neg]
theorem M_isOddIn (h : d.1 a = N) {w base n : Nat} (hw : base + n ≤ w) (hw2 : w < 1000) (x : Int32) : FX12_isOddIn 222 a w (i3 base) (i3 n) x d = some (b2 (ff (fun k => decide (N (base + k) = x)) n).isSome) := by
  have e : FX12_isOddIn_L3 a w (i3 base) (i3 n) x d mx_FU (i3 0) = some ((fun o => match o with | some _ => Sum.inl 1 | none => Sum.inr ()) (ff (fun k => decide (N (base + k) = x)) n)) := by
    refine lp_ff (L := fun fu y => FX12_isOddIn_L3 a w (i3 base) (i3 n) x d fu y) (n := n) (fun k => decide (N (base + k) = x)) (fun o => match o with | some _ => Sum.inl 1 | none => Sum.inr ()) ?_ ?_ ?_ mx_FU (FU_lt (by omega))
    · intro fu
      show FX12_isOddIn_L3 a w (i3 base) (i3 n) x d (fu + 1) (i3 n) = _
      rw [FX12_isOddIn_L3]
      simp (disch := omega) only [Nat.le_refl, ob_some, mx_letI, mx_chkT, mx_inb_i3, mx_inb_lit, lit_toNat, i3_toNat, i3_le, i3_lt, i3_leL, i3_Lle, i3_ltL, i3_Llt, i3_neg, i3_eq, i3_eqL, i3_ne1, i3_add, i3_addL, i3_Ladd, i3_mul, i3_mulL, i3_Lmul, mx_b01_0, mx_b01_1, b2_01, b2_0, b2_1, se_inl, se_inr, if_true, if_false, e10, e01, e00, e11, em1, em1lt, Nat.not_lt_zero, if_pos, if_neg]
    · intro fu i hi hP
      show FX12_isOddIn_L3 a w (i3 base) (i3 n) x d (fu + 1) (i3 i) = _
      rw [FX12_isOddIn_L3]
      simp (disch := omega) only [h, ob_some, mx_letI, mx_chkT, mx_inb_i3, mx_inb_lit, lit_toNat, i3_toNat, i3_le, i3_lt, i3_leL, i3_Lle, i3_ltL, i3_Llt, i3_neg, i3_eq, i3_eqL, i3_ne1, i3_add, i3_addL, i3_Ladd, i3_mul, i3_mulL, i3_Lmul, mx_b01_0, mx_b01_1, b2_01, b2_0, b2_1, se_inl, se_inr, if_true, if_false, e10, e01, e00, e11, em1, em1lt, Nat.not_lt_zero]
      rw [if_neg (by omega), if_pos (of_decide_eq_true hP)]
    · intro fu i hi hP
      show FX12_isOddIn_L3 a w (i3 base) (i3 n) x d (fu + 1) (i3 i) = FX12_isOddIn_L3 a w (i3 base) (i3 n) x d fu (i3 (i + 1))
      rw [FX12_isOddIn_L3]
      simp (disch := omega) only [h, ob_some, mx_letI, mx_chkT, mx_inb_i3, mx_inb_lit, lit_toNat, i3_toNat, i3_le, i3_lt, i3_leL, i3_Lle, i3_ltL, i3_Llt, i3_neg, i3_eq, i3_eqL, i3_ne1, i3_add, i3_addL, i3_Ladd, i3_mul, i3_mulL, i3_Lmul, mx_b01_0, mx_b01_1, b2_01, b2_0, b2_1, se_inl, se_inr, if_true, if_false, e10, e01, e00, e11, em1, em1lt, Nat.not_lt_zero]
      rw [if_neg (by omega), if_neg (of_decide_eq_false hP)]
  unfold FX12_isOddIn
  rw [show (0 : Int32) = i3 0 from rfl, e]
  cases ff (fun k => decide (N (base + k) = x)) n <;> rfl
end SHRM
