/-! ===== survey ===== -/
section SURVB
variable {N : Rw} {d : mB}
theorem P1_up {done : List (List (Nat × Nat))} {m m' : mB} (h : P1 N done m) (z : mx_out (fun b _ => b = 238) m m') : P1 N done m' := by
  obtain ⟨p1, p2, p3, p4⟩ := h
  unfold P1
  rw [z.fld 222 46 (by omega), z.cell 242 (fun j => by omega), z.cell 241 (fun j => by omega), z.fld 222 41 (by omega), z.cell 239 (fun j => by omega)]
  exact ⟨p1, p2, p3, p4⟩
theorem all_bit : ∀ n, n < 11 → ∀ x, x < 10 → (2 ^ n - 1).testBit x = decide (x < n) := by decide +kernel
theorem M_survey (g : GI N) (s : SI N) (hN : d.1 224 = N) : ∃ m', FX12_survey 222 d = some m' ∧ P1 N (en N (2 ^ nP N - 1)) m' ∧ m'.1 224 = N ∧ ∀ x, x < 10 → m'.1 238 x = -1 := by
  have hn := g.1.2
  have k1 : hw (FX12_survey_L7 222 mx_FU (i3 0) (mx_up d.1 222 41 (-1), d.2)) (fun m1 => mx_out (fun b _ => b = 241 ∨ b = 242) (mx_up d.1 222 41 (-1), d.2) m1 ∧ ∀ k, k < 6 → m1.1 241 k = -1 ∧ m1.1 242 k = 0) := by
    refine lp_inv (L := fun fu y m => FX12_survey_L7 222 fu y m) (n := 6) (fun k m1 => mx_out (fun b _ => b = 241 ∨ b = 242) (mx_up d.1 222 41 (-1), d.2) m1 ∧ ∀ j, j < k → m1.1 241 j = -1 ∧ m1.1 242 j = 0) ?_ ?_ 0 mx_FU _ (by omega) (FU_lt (by omega)) ⟨mx_out.rf, fun j hj => by omega⟩
    · intro fu m1 hI
      show hw (FX12_survey_L7 222 (fu + 1) (i3 6) m1) _
      rw [FX12_survey_L7]
      exact hw_some hI
    · intro fu k m1 hk hI hs
      show hw (FX12_survey_L7 222 (fu + 1) (i3 k) m1) _
      rw [FX12_survey_L7]
      simp (disch := omega) only [Nat.reduceAdd, ob_some, mx_letI, mx_chkT, mx_inb_i3, mx_inb_lit, lit_toNat, i3_toNat, i3_le, i3_lt, i3_leL, i3_Lle, i3_ltL, i3_Llt, i3_neg, i3_eq, i3_eqL, i3_ne1, i3_add, i3_addL, i3_Ladd, i3_mul, i3_mulL, i3_Lmul, mx_b01_0, mx_b01_1, b2_01, b2_0, b2_1, se_inl, se_inr, if_true, if_false, e10, e01, e00, e11, em1, em1lt, Nat.not_lt_zero, if_pos, if_neg]
      refine hs _ ⟨mx_out_up (mx_out_up hI.1 rfl (Or.inl rfl)) rfl (Or.inr rfl), fun j hj => ?_⟩
      show mx_up (mx_up m1.1 241 k (-1)) 242 k 0 241 j = -1 ∧ mx_up (mx_up m1.1 241 k (-1)) 242 k 0 242 j = 0
      rw [up_off _ (by omega), up_at, up_at, up_off _ (by omega)]
      by_cases c : j = k
      · rw [if_pos c, if_pos c]; exact ⟨rfl, rfl⟩
      · rw [if_neg c, if_neg c]; exact hI.2 j (by omega)
  obtain ⟨m1, e1, z1, A1⟩ := k1
  have k2 : hw (FX12_survey_L34 222 mx_FU (i3 0) m1) (fun m2 => mx_out (fun b _ => b = 238) m1 m2 ∧ ∀ k, k < 10 → m2.1 238 k = -1) := by
    refine lp_inv (L := fun fu y m => FX12_survey_L34 222 fu y m) (n := 10) (fun k m2 => mx_out (fun b _ => b = 238) m1 m2 ∧ ∀ j, j < k → m2.1 238 j = -1) ?_ ?_ 0 mx_FU _ (by omega) (FU_lt (by omega)) ⟨mx_out.rf, fun j hj => by omega⟩
    · intro fu m2 hI
      show hw (FX12_survey_L34 222 (fu + 1) (i3 10) m2) _
      rw [FX12_survey_L34]
      exact hw_some hI
    · intro fu k m2 hk hI hs
      show hw (FX12_survey_L34 222 (fu + 1) (i3 k) m2) _
      rw [FX12_survey_L34]
      simp (disch := omega) only [Nat.reduceAdd, ob_some, mx_letI, mx_chkT, mx_inb_i3, mx_inb_lit, lit_toNat, i3_toNat, i3_le, i3_lt, i3_leL, i3_Lle, i3_ltL, i3_Llt, i3_neg, i3_eq, i3_eqL, i3_ne1, i3_add, i3_addL, i3_Ladd, i3_mul, i3_mulL, i3_Lmul, mx_b01_0, mx_b01_1, b2_01, b2_0, b2_1, se_inl, se_inr, if_true, if_false, e10, e01, e00, e11, em1, em1lt, Nat.not_lt_zero, if_pos, if_neg]
      refine hs _ ⟨mx_out_up hI.1 rfl rfl, fun j hj => ?_⟩
      show mx_up m2.1 238 k (-1) 238 j = -1
      rw [up_at]
      by_cases c : j = k
      · rw [if_pos c]
      · rw [if_neg c]; exact hI.2 j (by omega)
  obtain ⟨m2, e2, z2, A2⟩ := k2
  have z3' : mx_out (fun b j => b = 222 ∧ j = 46) m2 (mx_up m2.1 222 46 0, m2.2) := mx_out_up mx_out.rf rfl ⟨rfl, rfl⟩
  have hpw : 2 ^ nP N - 1 < 2 ^ nP N := by have := Nat.two_pow_pos (nP N); omega
  have hN3 : (mx_up m2.1 222 46 0, m2.2).1 224 = N := by
    rw [z3'.cell 224 (fun j => by omega), z2.cell 224 (fun j => by omega), z1.cell 224 (fun j => by omega)]
    show mx_up d.1 222 41 (-1) 224 = N
    rw [up_off _ (by omega)]; exact hN
  have hW : WS N 0 (2 ^ nP N - 1) [] (mx_up m2.1 222 46 0, m2.2) := by
    refine ⟨hN3, fun x hx => ?_, by omega, pow10 hn hpw, fun x hx => ?_, by simp, ?_, by simp [tk]⟩
    · rw [z3'.cell 238 (fun j => by omega)]; exact A2 x hx
    · rw [all_bit _ (by omega) x hx]
      simp [mt]
    · have := @pc_le (2 ^ nP N - 1)
      simp [tk]; omega
  have hP : P1 N [] (mx_up m2.1 222 46 0, m2.2) := by
    refine ⟨mx_up_self m2.1 222 46 0, fun k hk => ?_, ⟨-1, [], ?_, Or.inl ⟨rfl, rfl⟩, fun x hx h => absurd rfl h⟩, by simp⟩
    · rw [z3'.cell 242 (fun j => by omega), z3'.cell 241 (fun j => by omega), z2.cell 242 (fun j => by omega), z2.cell 241 (fun j => by omega)]
      exact ⟨(A1 k hk).2, -1, (A1 k hk).1.trans rfl, Or.inl ⟨rfl, by simp⟩⟩
    · rw [z3'.fld 222 41 (by omega), z2.fld 222 41 (by omega), z1.fld 222 41 (by omega)]
      exact mx_up_self d.1 222 41 (-1)
  obtain ⟨m3, e3, P3, n3, d3⟩ := M_walk g s (P := P1 N) (fun h1 h2 h3 h4 h5 _ => M_leaf1 g h1 h2 h3 h4 h5) (fun h1 h2 => P1_up h1 h2) 64 (by omega) hW hP
  refine ⟨m3, ?_, ?_, n3, d3⟩
  · unfold FX12_survey
    rw [mx_letI]
    show Option.bind (FX12_survey_L7 222 mx_FU (i3 0) (mx_up d.1 222 41 (-1), d.2)) _ = _
    rw [e1, ob_some]
    show Option.bind (FX12_survey_L34 222 mx_FU (i3 0) m1) _ = _
    rw [e2, ob_some, mx_letI]
    show Option.bind (FX12_walk 64 222 (i3 0) (i3 (tk N []).1) (i3 (tk N []).2) (mx_up m2.1 222 46 0, m2.2)) _ = _
    rw [e3, ob_some]
  · simpa using P3
end SURVB
