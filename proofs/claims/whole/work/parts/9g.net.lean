/-! ===== operation: network ===== -/
section NETO
variable {c c' d d' : mB} {n : Nat} {t : Nat → Nat}
theorem C_clear (c : mB) : ∃ c1, FX4_clear 27 c = some c1 ∧ (∀ j, j < 5 → c1.1 27 j = 0) ∧ (∀ j, j < 100 → c1.1 35 j = 0) ∧ mx_out (WSX4_clear 27) c c1 := by
  have key : hw (FX4_clear_L27 27 mx_FU (i3 0) (mx_up (mx_up (mx_up (mx_up (mx_up c.1 27 0 0) 27 1 0) 27 2 0) 27 3 0) 27 4 0, c.2)) (fun m => mx_out (fun b _ => b = 35) (mx_up (mx_up (mx_up (mx_up (mx_up c.1 27 0 0) 27 1 0) 27 2 0) 27 3 0) 27 4 0, c.2) m ∧ ∀ j, j < 100 → m.1 35 j = 0) := by
    refine lp_inv (L := fun fu y m => FX4_clear_L27 27 fu y m) (n := 100) (fun k m => mx_out (fun b _ => b = 35) (mx_up (mx_up (mx_up (mx_up (mx_up c.1 27 0 0) 27 1 0) 27 2 0) 27 3 0) 27 4 0, c.2) m ∧ ∀ j, j < k → m.1 35 j = 0) ?_ ?_ 0 mx_FU _ (by omega) (FU_lt (by omega)) ⟨mx_out.rf, fun j hj => by omega⟩
    · intro fu m hI
      show hw (FX4_clear_L27 27 (fu + 1) (i3 100) m) _
      rw [FX4_clear_L27]
      exact hw_some hI
    · intro fu k m hk hI hs
      show hw (FX4_clear_L27 27 (fu + 1) (i3 k) m) _
      rw [FX4_clear_L27]
      simp (disch := omega) only [Nat.reduceAdd, ob_some, mx_letI, mx_chkT, mx_inb_i3, mx_inb_lit, lit_toNat, i3_toNat, i3_le, i3_lt, i3_leL, i3_Lle, i3_ltL, i3_Llt, i3_neg, i3_eq, i3_eqL, i3_ne1, i3_add, i3_addL, i3_Ladd, i3_mul, i3_mulL, i3_Lmul, mx_b01_0, mx_b01_1, b2_01, b2_0, b2_1, se_inl, se_inr, if_true, if_false, e10, e01, e00, e11, em1, em1lt, Nat.not_lt_zero, if_pos, if_neg]
      refine hs _ ⟨mx_out_up hI.1 rfl rfl, fun j hj => ?_⟩
      show mx_up m.1 35 k 0 35 j = 0
      rw [up_at]
      by_cases q : j = k
      · rw [if_pos q]
      · rw [if_neg q]; exact hI.2 j (by omega)
  obtain ⟨c1, e1, z1, v1⟩ := key
  have e : FX4_clear 27 c = some c1 := by
    unfold FX4_clear
    rw [mx_letI, mx_letI, mx_letI, mx_letI, mx_letI]
    show Option.bind (FX4_clear_L27 27 mx_FU (i3 0) (mx_up (mx_up (mx_up (mx_up (mx_up c.1 27 0 0) 27 1 0) 27 2 0) 27 3 0) 27 4 0, c.2)) _ = _
    rw [e1]
    rfl
  refine ⟨c1, e, fun j hj => ?_, v1, ZX4_clear e⟩
  rw [z1.fld 27 j (by omega)]
  show mx_up (mx_up (mx_up (mx_up (mx_up c.1 27 0 0) 27 1 0) 27 2 0) 27 3 0) 27 4 0 27 j = 0
  rw [up_at, up_at, up_at, up_at, up_at]
  rcases (by omega : j = 0 ∨ j = 1 ∨ j = 2 ∨ j = 3 ∨ j = 4) with q | q | q | q | q <;> subst q <;> rfl
theorem M_rows (d : mB) : ∃ d1 d2, FX12_network_L9 222 mx_FU (i3 0) d = some d1 ∧ FX12_network_L30 222 mx_FU (i3 0) d1 = some d2 ∧ (∀ j, j < 125 → d2.1 225 j = if 93 ≤ j ∧ j < 103 then -1 else 0) ∧ (∀ i, i < 10 → d2.1 234 i = 0) ∧ mx_out (fun b _ => b = 225 ∨ b = 234) d d2 := by
  have k1 : hw (FX12_network_L9 222 mx_FU (i3 0) d) (fun m => mx_out (fun b _ => b = 225) d m ∧ ∀ j, j < 125 → m.1 225 j = 0) := by
    refine lp_inv (L := fun fu y m => FX12_network_L9 222 fu y m) (n := 125) (fun k m => mx_out (fun b _ => b = 225) d m ∧ ∀ j, j < k → m.1 225 j = 0) ?_ ?_ 0 mx_FU _ (by omega) (FU_lt (by omega)) ⟨mx_out.rf, fun j hj => by omega⟩
    · intro fu m hI
      show hw (FX12_network_L9 222 (fu + 1) (i3 125) m) _
      rw [FX12_network_L9]
      exact hw_some hI
    · intro fu k m hk hI hs
      show hw (FX12_network_L9 222 (fu + 1) (i3 k) m) _
      rw [FX12_network_L9]
      simp (disch := omega) only [Nat.reduceAdd, ob_some, mx_letI, mx_chkT, mx_inb_i3, mx_inb_lit, lit_toNat, i3_toNat, i3_le, i3_lt, i3_leL, i3_Lle, i3_ltL, i3_Llt, i3_neg, i3_eq, i3_eqL, i3_ne1, i3_add, i3_addL, i3_Ladd, i3_mul, i3_mulL, i3_Lmul, mx_b01_0, mx_b01_1, b2_01, b2_0, b2_1, se_inl, se_inr, if_true, if_false, e10, e01, e00, e11, em1, em1lt, Nat.not_lt_zero, if_pos, if_neg]
      refine hs _ ⟨mx_out_up hI.1 rfl rfl, fun j hj => ?_⟩
      show mx_up m.1 225 k 0 225 j = 0
      rw [up_at]
      by_cases q : j = k
      · rw [if_pos q]
      · rw [if_neg q]; exact hI.2 j (by omega)
  obtain ⟨d1, e1, z1, v1⟩ := k1
  have k2 : hw (FX12_network_L30 222 mx_FU (i3 0) d1) (fun m => mx_out (fun b _ => b = 225 ∨ b = 234) d1 m ∧ (∀ j, j < 125 → m.1 225 j = if 93 ≤ j ∧ j < 103 then -1 else 0) ∧ ∀ i, i < 10 → m.1 234 i = 0) := by
    refine lp_inv (L := fun fu y m => FX12_network_L30 222 fu y m) (n := 10) (fun k m => mx_out (fun b _ => b = 225 ∨ b = 234) d1 m ∧ (∀ j, j < 125 → m.1 225 j = if 93 ≤ j ∧ j < 93 + k then -1 else 0) ∧ ∀ i, i < k → m.1 234 i = 0) ?_ ?_ 0 mx_FU _ (by omega) (FU_lt (by omega)) ⟨mx_out.rf, fun j hj => by rw [v1 j hj, if_neg (by omega)], fun i hi => by omega⟩
    · intro fu m hI
      show hw (FX12_network_L30 222 (fu + 1) (i3 10) m) _
      rw [FX12_network_L30]
      exact hw_some hI
    · intro fu k m hk hI hs
      show hw (FX12_network_L30 222 (fu + 1) (i3 k) m) _
      rw [FX12_network_L30]
      simp (disch := omega) only [Nat.reduceAdd, ob_some, mx_letI, mx_chkT, mx_inb_i3, mx_inb_lit, lit_toNat, i3_toNat, i3_le, i3_lt, i3_leL, i3_Lle, i3_ltL, i3_Llt, i3_neg, i3_eq, i3_eqL, i3_ne1, i3_add, i3_addL, i3_Ladd, i3_mul, i3_mulL, i3_Lmul, mx_b01_0, mx_b01_1, b2_01, b2_0, b2_1, se_inl, se_inr, if_true, if_false, e10, e01, e00, e11, em1, em1lt, Nat.not_lt_zero, if_pos, if_neg]
      refine hs _ ⟨mx_out_up (mx_out_up hI.1 rfl (Or.inl rfl)) rfl (Or.inr rfl), fun j hj => ?_, fun i hi => ?_⟩
      · show mx_up (mx_up m.1 225 (93 + k) (-1)) 234 k 0 225 j = _
        rw [up_off _ (by omega), up_at]
        by_cases q : j = 93 + k
        · rw [if_pos q, if_pos (by omega)]
        · rw [if_neg q, hI.2.1 j hj]
          by_cases q2 : 93 ≤ j ∧ j < 93 + k
          · rw [if_pos q2, if_pos (by omega)]
          · rw [if_neg q2, if_neg (by omega)]
      · show mx_up (mx_up m.1 225 (93 + k) (-1)) 234 k 0 234 i = 0
        rw [up_at]
        by_cases q : i = k
        · rw [if_pos q]
        · rw [if_neg q, up_off _ (by omega)]; exact hI.2.2 i (by omega)
  obtain ⟨d2, e2, z2, v2, v3⟩ := k2
  exact ⟨d1, d2, e1, e2, v2, v3, mx_out.tr (z1.sub (fun b j q => Or.inl q)) z2⟩
/-- nothing is read yet -/
theorem NP_0 (h27 : ∀ j, j < 5 → c.1 27 j = 0) (h35 : ∀ j, j < 100 → c.1 35 j = 0) (h26 : c.1 26 2 = 0) (h25 : ∀ j, j < 125 → d.1 225 j = if 93 ≤ j ∧ j < 103 then -1 else 0) (h34 : ∀ i, i < 10 → d.1 234 i = 0) : NP c d := by
  have e : ∀ x, x < 93 → stN (d.1 225) x = 0 := fun x hx => by rw [stN_lo _ (by omega), h25 x (by omega), if_neg (by omega)]
  have e125 : stN (d.1 225) 125 = 0 := by rw [stN_125, h25 2 (by omega), if_neg (by omega)]
  have P0 : nP (stN (d.1 225)) = 0 := by unfold nP; rw [e 0 (by omega)]; rfl
  have L0 : nL (stN (d.1 225)) = 0 := by unfold nL; rw [e 1 (by omega)]; rfl
  have K0 : nK (stN (d.1 225)) = 0 := by unfold nK; rw [e125]; rfl
  refine ⟨⟨⟨⟨by rw [e 0 (by omega), P0]; rfl, by omega⟩, ⟨by rw [e 1 (by omega), L0]; rfl, by omega⟩, fun l hl => by omega, fun l l' hl => by omega⟩, ⟨⟨by rw [e125, K0]; rfl, by omega⟩, fun l hl => by omega, fun p hp => by omega, fun p hp => by omega, fun k hk => by omega⟩, ⟨⟨by rw [e 0 (by omega), h27 0 (by omega)], by rw [e 1 (by omega), h27 1 (by omega)]⟩, fun p hp => by omega, fun l hl => by omega, fun p q hp => by omega⟩, ⟨⟨by rw [e125, h27 2 (by omega)], by rw [stN_0 _ (by omega) (by omega), h27 3 (by omega)], by rw [stN_0 _ (by omega) (by omega), h27 4 (by omega)]⟩, fun p hp => by omega, fun k hk => by omega⟩⟩, fun i hi => by omega, fun i hi => ?_, fun i h1 h2 => ?_, fun u v hu hv _ => h35 _ (by omega)⟩
  · rw [h34 i hi, h26, bt_zero]
    exact ⟨Or.inl rfl, rfl⟩
  · rw [h25 _ (by omega), h25 _ (by omega), if_pos (by omega), if_neg (by omega)]
    exact ⟨rfl, rfl⟩
/-- what is read becomes what is so -/
theorem M_start {R : Rw} (hR : ∀ x, x < 125 → d.1 224 x = R x) : ∃ d1, FX12_startSo 222 d = some d1 ∧ ∀ x, x < 432 → d1.1 224 x = stN R x := by
  have k1 : hw (FX12_startSo_L3 222 mx_FU (i3 125) d) (fun m => mx_out (fun b _ => b = 224) d m ∧ (∀ x, x < 125 → m.1 224 x = R x) ∧ ∀ x, 125 ≤ x → x < 432 → m.1 224 x = 0) := by
    refine lp_inv (L := fun fu y m => FX12_startSo_L3 222 fu y m) (n := 432) (fun k m => mx_out (fun b _ => b = 224) d m ∧ 125 ≤ k ∧ (∀ x, x < 125 → m.1 224 x = R x) ∧ ∀ x, 125 ≤ x → x < k → m.1 224 x = 0) ?_ ?_ 125 mx_FU _ (by omega) (FU_lt (by omega)) ⟨mx_out.rf, by omega, hR, fun x h1 h2 => by omega⟩
    · intro fu m hI
      show hw (FX12_startSo_L3 222 (fu + 1) (i3 432) m) _
      rw [FX12_startSo_L3]
      exact hw_some ⟨hI.1, hI.2.2⟩
    · intro fu k m hk hI hs
      show hw (FX12_startSo_L3 222 (fu + 1) (i3 k) m) _
      have hk2 := hI.2.1
      rw [FX12_startSo_L3]
      simp (disch := omega) only [Nat.reduceAdd, ob_some, mx_letI, mx_chkT, mx_inb_i3, mx_inb_lit, lit_toNat, i3_toNat, i3_le, i3_lt, i3_leL, i3_Lle, i3_ltL, i3_Llt, i3_neg, i3_eq, i3_eqL, i3_ne1, i3_add, i3_addL, i3_Ladd, i3_mul, i3_mulL, i3_Lmul, mx_b01_0, mx_b01_1, b2_01, b2_0, b2_1, se_inl, se_inr, if_true, if_false, e10, e01, e00, e11, em1, em1lt, Nat.not_lt_zero, if_pos, if_neg]
      refine hs _ ⟨mx_out_up hI.1 rfl rfl, by omega, fun x hx => ?_, fun x h1 h2 => ?_⟩
      · show mx_up m.1 224 k 0 224 x = _
        rw [up_at, if_neg (by omega)]; exact hI.2.2.1 x hx
      · show mx_up m.1 224 k 0 224 x = 0
        rw [up_at]
        by_cases q : x = k
        · rw [if_pos q]
        · rw [if_neg q]; exact hI.2.2.2 x h1 (by omega)
  obtain ⟨m1, e1, -, a1, b1⟩ := k1
  have e2 : mx_up m1.1 224 125 (m1.1 224 2) 224 = ud (m1.1 224) 125 (R 2) := by rw [up_ud, a1 2 (by omega)]
  have k2 : hw (FX12_startSo_L38 222 mx_FU (i3 0) (mx_up m1.1 224 125 (m1.1 224 2), m1.2)) (fun m => ∀ x, x < 432 → m.1 224 x = if x < 125 then R x else if x = 125 then R 2 else if 128 ≤ x ∧ x < 158 then R (x - 65) else 0) := by
    refine lp_inv (L := fun fu y m => FX12_startSo_L38 222 fu y m) (n := 30) (fun k m => ∀ x, x < 432 → m.1 224 x = if x < 125 then R x else if x = 125 then R 2 else if 128 ≤ x ∧ x < 128 + k then R (x - 65) else 0) ?_ ?_ 0 mx_FU _ (by omega) (FU_lt (by omega)) (fun x hx => ?_)
    · intro fu m hI
      show hw (FX12_startSo_L38 222 (fu + 1) (i3 30) m) _
      rw [FX12_startSo_L38]
      exact hw_some hI
    · intro fu k m hk hI hs
      show hw (FX12_startSo_L38 222 (fu + 1) (i3 k) m) _
      rw [FX12_startSo_L38]
      simp (disch := omega) only [Nat.reduceAdd, ob_some, mx_letI, mx_chkT, mx_inb_i3, mx_inb_lit, lit_toNat, i3_toNat, i3_le, i3_lt, i3_leL, i3_Lle, i3_ltL, i3_Llt, i3_neg, i3_eq, i3_eqL, i3_ne1, i3_add, i3_addL, i3_Ladd, i3_mul, i3_mulL, i3_Lmul, mx_b01_0, mx_b01_1, b2_01, b2_0, b2_1, se_inl, se_inr, if_true, if_false, e10, e01, e00, e11, em1, em1lt, Nat.not_lt_zero, if_pos, if_neg]
      refine hs _ (fun x hx => ?_)
      show mx_up m.1 224 (128 + k) (m.1 224 (63 + k)) 224 x = _
      rw [up_at]
      by_cases q : x = 128 + k
      · rw [if_pos q, if_neg (by omega), if_neg (by omega), if_pos (by omega), hI _ (by omega), if_pos (by omega), show 63 + k = x - 65 by omega]
      · rw [if_neg q, hI x hx]
        by_cases q1 : x < 125
        · rw [if_pos q1, if_pos q1]
        · rw [if_neg q1, if_neg q1]
          by_cases q2 : x = 125
          · rw [if_pos q2, if_pos q2]
          · rw [if_neg q2, if_neg q2]
            by_cases q3 : 128 ≤ x ∧ x < 128 + k
            · rw [if_pos q3, if_pos (by omega)]
            · rw [if_neg q3, if_neg (by omega)]
    · show mx_up m1.1 224 125 (m1.1 224 2) 224 x = _
      rw [e2]
      by_cases q1 : x < 125
      · rw [if_pos q1, ud_ne _ _ (by omega), a1 x q1]
      · rw [if_neg q1]
        by_cases q2 : x = 125
        · rw [if_pos q2, q2, ud_self]
        · rw [if_neg q2, ud_ne _ _ q2, b1 x (by omega) hx, if_neg (by omega)]
  obtain ⟨m2, e3, a2⟩ := k2
  have k3 : hw (FX12_startSo_L71 222 mx_FU (i3 0) m2) (fun m => ∀ x, x < 432 → m.1 224 x = if x < 125 then R x else if x = 125 then R 2 else if 128 ≤ x ∧ x < 178 then R (x - 65) else 0) := by
    refine lp_inv (L := fun fu y m => FX12_startSo_L71 222 fu y m) (n := 10) (fun k m => ∀ x, x < 432 → m.1 224 x = if x < 125 then R x else if x = 125 then R 2 else if (128 ≤ x ∧ x < 158 + k) ∨ (168 ≤ x ∧ x < 168 + k) then R (x - 65) else 0) ?_ ?_ 0 mx_FU _ (by omega) (FU_lt (by omega)) (fun x hx => ?_)
    · intro fu m hI
      show hw (FX12_startSo_L71 222 (fu + 1) (i3 10) m) _
      rw [FX12_startSo_L71]
      refine hw_some (fun x hx => ?_)
      rw [hI x hx]
      by_cases q3 : 128 ≤ x ∧ x < 178
      · rw [if_pos q3, if_pos (show (128 ≤ x ∧ x < 158 + 10) ∨ (168 ≤ x ∧ x < 168 + 10) by omega)]
      · rw [if_neg q3, if_neg (show ¬ ((128 ≤ x ∧ x < 158 + 10) ∨ (168 ≤ x ∧ x < 168 + 10)) by omega)]
    · intro fu k m hk hI hs
      show hw (FX12_startSo_L71 222 (fu + 1) (i3 k) m) _
      rw [FX12_startSo_L71]
      simp (disch := omega) only [Nat.reduceAdd, ob_some, mx_letI, mx_chkT, mx_inb_i3, mx_inb_lit, lit_toNat, i3_toNat, i3_le, i3_lt, i3_leL, i3_Lle, i3_ltL, i3_Llt, i3_neg, i3_eq, i3_eqL, i3_ne1, i3_add, i3_addL, i3_Ladd, i3_mul, i3_mulL, i3_Lmul, mx_b01_0, mx_b01_1, b2_01, b2_0, b2_1, se_inl, se_inr, if_true, if_false, e10, e01, e00, e11, em1, em1lt, Nat.not_lt_zero, if_pos, if_neg]
      refine hs _ (fun x hx => ?_)
      show mx_up (mx_up m.1 224 (158 + k) (m.1 224 (93 + k))) 224 (168 + k) (mx_up m.1 224 (158 + k) (m.1 224 (93 + k)) 224 (103 + k)) 224 x = _
      have f103 : mx_up m.1 224 (158 + k) (m.1 224 (93 + k)) 224 (103 + k) = R (103 + k) := by rw [up_at, if_neg (by omega), hI _ (by omega), if_pos (by omega)]
      rw [f103, up_at, up_at]
      by_cases q : x = 168 + k
      · rw [if_pos q, if_neg (by omega), if_neg (by omega), if_pos (by omega), show 103 + k = x - 65 by omega]
      · rw [if_neg q]
        by_cases qq : x = 158 + k
        · rw [if_pos qq, if_neg (by omega), if_neg (by omega), if_pos (by omega), hI _ (by omega), if_pos (by omega), show 93 + k = x - 65 by omega]
        · rw [if_neg qq, hI x hx]
          by_cases q3 : (128 ≤ x ∧ x < 158 + k) ∨ (168 ≤ x ∧ x < 168 + k)
          · rw [if_pos q3, if_pos (show (128 ≤ x ∧ x < 158 + (k + 1)) ∨ (168 ≤ x ∧ x < 168 + (k + 1)) by omega)]
          · rw [if_neg q3, if_neg (show ¬ ((128 ≤ x ∧ x < 158 + (k + 1)) ∨ (168 ≤ x ∧ x < 168 + (k + 1))) by omega)]
    · rw [a2 x hx]
      by_cases q3 : 128 ≤ x ∧ x < 158
      · rw [if_pos q3, if_pos (show (128 ≤ x ∧ x < 158 + 0) ∨ (168 ≤ x ∧ x < 168 + 0) by omega)]
      · rw [if_neg q3, if_neg (show ¬ ((128 ≤ x ∧ x < 158 + 0) ∨ (168 ≤ x ∧ x < 168 + 0)) by omega)]
  obtain ⟨m3, e4, a3⟩ := k3
  have k4 : hw (FX12_startSo_L123 222 mx_FU (i3 0) m3) (fun m => ∀ x, x < 432 → m.1 224 x = stN R x) := by
    refine lp_inv (L := fun fu y m => FX12_startSo_L123 222 fu y m) (n := 6) (fun k m => ∀ x, x < 432 → m.1 224 x = if x < 125 then R x else if x = 125 then R 2 else if (128 ≤ x ∧ x < 178 + k) ∨ (184 ≤ x ∧ x < 184 + k) then R (x - 65) else 0) ?_ ?_ 0 mx_FU _ (by omega) (FU_lt (by omega)) (fun x hx => ?_)
    · intro fu m hI
      show hw (FX12_startSo_L123 222 (fu + 1) (i3 6) m) _
      rw [FX12_startSo_L123]
      refine hw_some (fun x hx => ?_)
      rw [hI x hx]
      unfold stN
      by_cases q1 : x < 125
      · rw [if_pos q1, if_pos q1]
      · rw [if_neg q1, if_neg q1]
        by_cases q2 : x = 125
        · rw [if_pos q2, if_pos q2]
        · rw [if_neg q2, if_neg q2]
          by_cases q4 : x < 128
          · rw [if_pos q4, if_neg (by omega)]
          · rw [if_neg q4]
            by_cases q3 : x < 190
            · rw [if_pos q3, if_pos (by omega)]
            · rw [if_neg q3, if_neg (by omega)]
    · intro fu k m hk hI hs
      show hw (FX12_startSo_L123 222 (fu + 1) (i3 k) m) _
      rw [FX12_startSo_L123]
      simp (disch := omega) only [Nat.reduceAdd, ob_some, mx_letI, mx_chkT, mx_inb_i3, mx_inb_lit, lit_toNat, i3_toNat, i3_le, i3_lt, i3_leL, i3_Lle, i3_ltL, i3_Llt, i3_neg, i3_eq, i3_eqL, i3_ne1, i3_add, i3_addL, i3_Ladd, i3_mul, i3_mulL, i3_Lmul, mx_b01_0, mx_b01_1, b2_01, b2_0, b2_1, se_inl, se_inr, if_true, if_false, e10, e01, e00, e11, em1, em1lt, Nat.not_lt_zero, if_pos, if_neg]
      refine hs _ (fun x hx => ?_)
      show mx_up (mx_up m.1 224 (178 + k) (m.1 224 (113 + k))) 224 (184 + k) (mx_up m.1 224 (178 + k) (m.1 224 (113 + k)) 224 (119 + k)) 224 x = _
      have f119 : mx_up m.1 224 (178 + k) (m.1 224 (113 + k)) 224 (119 + k) = R (119 + k) := by rw [up_at, if_neg (by omega), hI _ (by omega), if_pos (by omega)]
      rw [f119, up_at, up_at]
      by_cases q : x = 184 + k
      · rw [if_pos q, if_neg (by omega), if_neg (by omega), if_pos (by omega), show 119 + k = x - 65 by omega]
      · rw [if_neg q]
        by_cases qq : x = 178 + k
        · rw [if_pos qq, if_neg (by omega), if_neg (by omega), if_pos (by omega), hI _ (by omega), if_pos (by omega), show 113 + k = x - 65 by omega]
        · rw [if_neg qq, hI x hx]
          by_cases q3 : (128 ≤ x ∧ x < 178 + k) ∨ (184 ≤ x ∧ x < 184 + k)
          · rw [if_pos q3, if_pos (show (128 ≤ x ∧ x < 178 + (k + 1)) ∨ (184 ≤ x ∧ x < 184 + (k + 1)) by omega)]
          · rw [if_neg q3, if_neg (show ¬ ((128 ≤ x ∧ x < 178 + (k + 1)) ∨ (184 ≤ x ∧ x < 184 + (k + 1))) by omega)]
    · rw [a3 x hx]
      by_cases q3 : 128 ≤ x ∧ x < 178
      · rw [if_pos q3, if_pos (show (128 ≤ x ∧ x < 178 + 0) ∨ (184 ≤ x ∧ x < 184 + 0) by omega)]
      · rw [if_neg q3, if_neg (show ¬ ((128 ≤ x ∧ x < 178 + 0) ∨ (184 ≤ x ∧ x < 184 + 0)) by omega)]
  obtain ⟨m4, e5, a4⟩ := k4
  refine ⟨m4, ?_, a4⟩
  unfold FX12_startSo
  show Option.bind (FX12_startSo_L3 222 mx_FU (i3 125) d) _ = _
  rw [e1, ob_some, mx_letI]
  show Option.bind (FX12_startSo_L38 222 mx_FU (i3 0) (mx_up m1.1 224 125 (m1.1 224 2), m1.2)) _ = _
  rw [e3, ob_some]
  show Option.bind (FX12_startSo_L71 222 mx_FU (i3 0) m2) _ = _
  rw [e4, ob_some]
  show Option.bind (FX12_startSo_L123 222 mx_FU (i3 0) m3) _ = _
  rw [e5]
  rfl
end NETO
