/-! ===== paths, the reference's side ===== -/
section TURNM
variable {c d : mB} {a r k q1 : Nat} {N : Rw} {f : Nat → Nat}
theorem i3_neqb {p : Nat} {n : Nat} (hp : p < 2147483648) (hn : n ≤ p) : ∀ j, j < n → i3 p ≠ i3 j := fun j hj e => by
  rw [i3_eq hp (by omega)] at e
  omega
def mPb (N : Rw) (f : Nat → Nat) (i : Nat) : Prop := lk N (f i) (f (i + 1)) = true ∧ (N (158 + f i) = i3 (f (i + 1)) ↔ i % 2 = 1)
theorem M_isPath (g : GI N) (s : SI N) (h : d.1 224 = N) (hk : k ≤ 10) (hk2 : k % 2 = 0) (hrow : ∀ i, i < k → d.1 q1 i = i3 (f i) ∧ f i < 10) (hd : ∀ i j, i < k → j < k → f i = f j → i = j) :
    ∃ b : Bool, FX12_isPath 222 q1 10 (i3 k) d = some (b2 b) ∧ (b = true ↔ isP N k f) := by
  have hn := g.1.2
  have k1 := lp_all (L := fun fu y => FX12_isPath_L2 222 q1 10 (i3 k) d fu y) i3 (n := k) (fun i => f i < nP N) 0 (fun fu => by
      show FX12_isPath_L2 222 q1 10 (i3 k) d (fu + 1) (i3 k) = _
      rw [FX12_isPath_L2]
      simp (disch := omega) only [Nat.le_refl, ob_some, mx_letI, mx_chkT, mx_inb_i3, mx_inb_lit, lit_toNat, i3_toNat, i3_le, i3_lt, i3_leL, i3_Lle, i3_ltL, i3_Llt, i3_neg, i3_eq, i3_eqL, i3_ne1, i3_add, i3_addL, i3_Ladd, i3_mul, i3_mulL, i3_Lmul, mx_b01_0, mx_b01_1, b2_01, b2_0, b2_1, se_inl, se_inr, if_true, if_false, e10, e01, e00, e11, em1, em1lt, Nat.not_lt_zero, if_pos, if_neg])
    (fun fu i hi hP => by
      show (_ ∧ FX12_isPath_L2 222 q1 10 (i3 k) d (fu + 1) (i3 i) = FX12_isPath_L2 222 q1 10 (i3 k) d fu (i3 (i + 1))) ∨ (_ ∧ FX12_isPath_L2 222 q1 10 (i3 k) d (fu + 1) (i3 i) = _)
      rw [FX12_isPath_L2]
      have e1 := hrow i hi
      by_cases q : f i < nP N
      · left
        refine ⟨q, ?_⟩
        simp (disch := omega) only [e1.1, M_isPoint_y g h q, ob_some, mx_letI, mx_chkT, mx_inb_i3, mx_inb_lit, lit_toNat, i3_toNat, i3_le, i3_lt, i3_leL, i3_Lle, i3_ltL, i3_Llt, i3_neg, i3_eq, i3_eqL, i3_ne1, i3_add, i3_addL, i3_Ladd, i3_mul, i3_mulL, i3_Lmul, mx_b01_0, mx_b01_1, b2_01, b2_0, b2_1, se_inl, se_inr, if_true, if_false, e10, e01, e00, e11, em1, em1lt, Nat.not_lt_zero, if_pos, if_neg]
      · right
        refine ⟨q, ?_⟩
        simp (disch := omega) only [e1.1, M_isPoint_n g h (x := i3 (f i)) (i3_neqb (by omega) (by omega)), ob_some, mx_letI, mx_chkT, mx_inb_i3, mx_inb_lit, lit_toNat, i3_toNat, i3_le, i3_lt, i3_leL, i3_Lle, i3_ltL, i3_Llt, i3_neg, i3_eq, i3_eqL, i3_ne1, i3_add, i3_addL, i3_Ladd, i3_mul, i3_mulL, i3_Lmul, mx_b01_0, mx_b01_1, b2_01, b2_0, b2_1, se_inl, se_inr, if_true, if_false, e10, e01, e00, e11, em1, em1lt, Nat.not_lt_zero, if_pos, if_neg]) mx_FU (FU_lt (by omega))
  unfold FX12_isPath
  rw [show (0 : Int32) = i3 0 from rfl]
  rcases k1 with ⟨e, hP⟩ | ⟨e, hP⟩
  · rw [e]
    simp only [ob_some, se_inr]
    have k2 := lp_all (L := fun fu y => FX12_isPath_L27 222 q1 10 (i3 k) d fu y) (fun j => i3 (j + 1)) (n := k - 1) (mPb N f) 0 (fun fu => by
        show FX12_isPath_L27 222 q1 10 (i3 k) d (fu + 1) (i3 (k - 1 + 1)) = _
        rw [FX12_isPath_L27]
        simp (disch := omega) only [ob_some, mx_letI, mx_chkT, mx_inb_i3, mx_inb_lit, lit_toNat, i3_toNat, i3_le, i3_lt, i3_leL, i3_Lle, i3_ltL, i3_Llt, i3_neg, i3_eq, i3_eqL, i3_ne1, i3_add, i3_addL, i3_Ladd, i3_mul, i3_mulL, i3_Lmul, mx_b01_0, mx_b01_1, b2_01, b2_0, b2_1, se_inl, se_inr, if_true, if_false, e10, e01, e00, e11, em1, em1lt, Nat.not_lt_zero, if_pos, if_neg])
      (fun fu i hi hQ => by
        show (_ ∧ FX12_isPath_L27 222 q1 10 (i3 k) d (fu + 1) (i3 (i + 1)) = FX12_isPath_L27 222 q1 10 (i3 k) d fu (i3 (i + 1 + 1))) ∨ (_ ∧ FX12_isPath_L27 222 q1 10 (i3 k) d (fu + 1) (i3 (i + 1)) = _)
        rw [FX12_isPath_L27]
        have e1 := hrow i (by omega)
        have e2 := hrow (i + 1) (by omega)
        have p1 := hP i (by omega)
        simp (disch := omega) only [i3_m1, e1.1, e2.1, M_areLinked g h, M_arePaired_y g h p1, even_i3, ob_some, mx_letI, mx_chkT, mx_inb_i3, mx_inb_lit, lit_toNat, i3_toNat, i3_le, i3_lt, i3_leL, i3_Lle, i3_ltL, i3_Llt, i3_neg, i3_eq, i3_eqL, i3_ne1, i3_add, i3_addL, i3_Ladd, i3_mul, i3_mulL, i3_Lmul, mx_b01_0, mx_b01_1, b2_01, b2_0, b2_1, se_inl, se_inr, if_true, if_false, e10, e01, e00, e11, em1, em1lt, Nat.not_lt_zero]
        rw [if_neg (by omega)]
        unfold mPb
        cases hl : lk N (f i) (f (i + 1)) with
        | false => right; exact ⟨fun q => absurd q.1 (by decide), rfl⟩
        | true =>
          by_cases ho : i % 2 = 1
          · have ho2 : (i + 1) % 2 = 0 := by omega
            by_cases hq : N (158 + f i) = i3 (f (i + 1))
            · left; simp [ho, ho2, hq]
            · right; simp [ho, ho2, hq]
          · have ho2 : ¬ (i + 1) % 2 = 0 := by omega
            by_cases hq : N (158 + f i) = i3 (f (i + 1))
            · right; simp [ho, ho2, hq]
            · left; simp [ho, ho2, hq]) mx_FU (FU_lt (by omega))
    rw [show (1 : Int32) = i3 (0 + 1) from rfl]
    rcases k2 with ⟨e2, hQ⟩ | ⟨e2, hQ⟩
    · rw [e2]
      simp only [ob_some, se_inr]
      by_cases h0 : k = 0
      · refine ⟨false, ?_, iff_of_false (by decide) (fun q => by have := q.1; omega)⟩
        subst h0
        rfl
      · have l0 := M_isLone_y g h (hP 0 (by omega))
        have l1 := M_isLone_y g h (hP (k - 1) (by omega))
        refine ⟨lone N (f 0) && lone N (f (k - 1)), ?_, ?_⟩
        · simp (disch := omega) only [i3_sub, (hrow 0 (by omega)).1, (hrow (k - 1) (by omega)).1, l0, l1, ob_some, mx_letI, mx_chkT, mx_inb_i3, mx_inb_lit, lit_toNat, i3_toNat, i3_le, i3_lt, i3_leL, i3_Lle, i3_ltL, i3_Llt, i3_neg, i3_eq, i3_eqL, i3_ne1, i3_add, i3_addL, i3_Ladd, i3_mul, i3_mulL, i3_Lmul, mx_b01_0, mx_b01_1, b2_01, b2_0, b2_1, se_inl, se_inr, if_true, if_false, e10, e01, e00, e11, em1, em1lt, Nat.not_lt_zero, Nat.zero_add]
          rw [if_neg (by omega)]
          cases lone N (f 0) <;> cases lone N (f (k - 1)) <;> rfl
        · rw [Bool.and_eq_true]
          constructor
          · rintro ⟨q1, q2⟩
            exact ⟨by omega, q1, hP 0 (by omega), q2, hP _ (by omega), fun i hi => ⟨(hQ i hi).1, fun ho => (hQ i hi).2.mpr ho⟩⟩
          · rintro ⟨-, q1, -, q2, -⟩
            exact ⟨q1, q2⟩
    · rw [e2]
      refine ⟨false, rfl, iff_of_false (by decide) (fun hp => hQ (fun i hi => ?_))⟩
      obtain ⟨q0, q1, q2, q3, q4, q5⟩ := hp
      refine ⟨(q5 i hi).1, fun e => ?_, (q5 i hi).2⟩
      have pi := hP i (by omega)
      have pj := hP (i + 1) (by omega)
      by_cases ho : i % 2 = 1
      · exact ho
      · exfalso
        by_cases hz : i = 0
        · subst hz
          have : N (158 + f 0) = -1 := of_decide_eq_true q1
          rw [this] at e
          have := i3_ne1 (a := f (0 + 1)) (by omega)
          rw [← e] at this
          exact this.mp rfl
        · have h1 := (q5 (i - 1) (by omega)).2 (by omega)
          rw [show i - 1 + 1 = i by omega] at h1
          rcases prt s (hP (i - 1) (by omega)) with z | ⟨z, z1, z2, z3, z4⟩
          · rw [h1] at z
            have := i3_ne1 (a := f i) (by omega)
            rw [z] at this
            simp at this
          · rw [h1, i3_eq (by omega) (by omega)] at z2
            rw [← z2, e] at z3
            have := hP (i - 1) (by omega)
            rw [i3_eq (by omega) (by omega)] at z3
            have := hd _ _ (by omega) (by omega) z3
            omega
  · rw [e]
    exact ⟨false, rfl, iff_of_false (by decide) (fun hp => hP (isP_pt g hp))⟩
theorem M_turnPath (g : GI N) (h : d.1 224 = N) (hk : k ≤ 10) (hk2 : k % 2 = 0) (hq : q1 ≠ 224) (hrow : ∀ i, i < k → d.1 q1 i = i3 (f i) ∧ f i < 10) :
    FX12_turnPath 222 q1 10 (i3 k) d = some (sr d (nTurn N k f)) ∨ (∃ i, i < k ∧ nP N ≤ f i) := by
  by_cases pt : ∃ i, i < k ∧ nP N ≤ f i
  · exact Or.inr pt
  left
  have hn := g.1.2
  have key : hw (FX12_turnPath_L2 222 q1 10 (i3 k) mx_FU (i3 (2 * 0)) d) (fun m => m = sr d (tn N f (k / 2))) := by
    refine lp_ig (fun j => i3 (2 * j)) (L := fun fu y m => FX12_turnPath_L2 222 q1 10 (i3 k) fu y m) (n := k / 2) (fun j m => m = sr d (tn N f j)) ?_ ?_ 0 mx_FU d (by omega) (FU_lt (by omega)) (by rw [show tn N f 0 = d.1 224 from h.symm, sr_self])
    · intro fu m hm
      show hw (FX12_turnPath_L2 222 q1 10 (i3 k) (fu + 1) (i3 (2 * (k / 2))) m) _
      rw [FX12_turnPath_L2]
      simp (disch := omega) only [ob_some, mx_letI, mx_chkT, mx_inb_i3, mx_inb_lit, lit_toNat, i3_toNat, i3_le, i3_lt, i3_leL, i3_Lle, i3_ltL, i3_Llt, i3_neg, i3_eq, i3_eqL, i3_ne1, i3_add, i3_addL, i3_Ladd, i3_mul, i3_mulL, i3_Lmul, mx_b01_0, mx_b01_1, b2_01, b2_0, b2_1, se_inl, se_inr, if_true, if_false, e10, e01, e00, e11, em1, em1lt, Nat.not_lt_zero, if_pos, if_neg]
      exact hw_some hm
    · intro fu j m hj hm hs
      show hw (FX12_turnPath_L2 222 q1 10 (i3 k) (fu + 1) (i3 (2 * j)) m) _
      subst hm
      have e1 := hrow (2 * j) (by omega)
      have e2 := hrow (2 * j + 1) (by omega)
      rw [FX12_turnPath_L2]
      simp (disch := omega) only [up_row', sr_row, sr_sr, sr_ne _ _ hq, e1.1, e2.1, ob_some, mx_letI, mx_chkT, mx_inb_i3, mx_inb_lit, lit_toNat, i3_toNat, i3_le, i3_lt, i3_leL, i3_Lle, i3_ltL, i3_Llt, i3_neg, i3_eq, i3_eqL, i3_ne1, i3_add, i3_addL, i3_Ladd, i3_mul, i3_mulL, i3_Lmul, mx_b01_0, mx_b01_1, b2_01, b2_0, b2_1, se_inl, se_inr, if_true, if_false, e10, e01, e00, e11, em1, em1lt, Nat.not_lt_zero, if_pos, if_neg]
      rw [show 2 * j + 2 = 2 * (j + 1) by omega]
      exact hs _ rfl
  obtain ⟨m, e, rfl⟩ := key
  unfold FX12_turnPath
  rw [show (0 : Int32) = i3 (2 * 0) from rfl, e]
  simp only [ob_some, mx_letI, up_row', sr_row, sr_sr, Nat.reduceAdd]
  congr 2
  unfold nTurn
  congr 1
  rw [tn_off (fun i hi => by omega)]
end TURNM
