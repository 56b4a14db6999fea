/-! ===== what the class tells of all pairings ===== -/
section TOPS
variable {m : mB} {N : Rw}
theorem VL_sum {x : Nat} (h : VL m N x) : ∃ sl, sl < 144 ∧ m.1 57 x = i3 sl ∧ SLT m sl (tl N x) := by
  obtain ⟨sl, L, c1, c2, ⟨⟨t, s, t1, t2, t3⟩, w⟩, c4, -⟩ := h
  refine ⟨sl, c1, c2, ⟨t, s, t1, t2, isTS_perm c4 t3⟩, fun j hj => ?_⟩
  obtain ⟨w1, hh, w2, w3⟩ := w j hj
  exact ⟨by rw [w1, wy_perm c4], hh, w2, isHv_perm c4 w3⟩
theorem C_topFor {x : Nat} (hx : x < 1024) (h : VL m N x) : ∃ t s, FX2_topFor 45 (i3 x) m = some (z3 t) ∧ isTS (tl N x) t s := by
  obtain ⟨sl, c1, c2, ⟨t, s, t1, t2, t3⟩, -⟩ := VL_sum h
  refine ⟨t, s, ?_, t3⟩
  unfold FX2_topFor
  rw [slotKnown_y hx c1 c2, ob_some, mx_inb_i3 c1 (by omega), mx_chkT, i3_toNat (by omega)]
  exact congrArg some t1
theorem HL_all (hn : nP N ≤ 10) (h : HL m N) : 2 ^ nP N - 1 < 1024 ∧ m.1 45 3 = i3 (2 ^ nP N - 1) ∧ VL m N (2 ^ nP N - 1) := by
  have hpw : 2 ^ nP N - 1 < 2 ^ nP N := by have := Nat.two_pow_pos (nP N); omega
  exact ⟨pow10 hn hpw, h.2.2.1, h.2.2.2.2.1 _ (Nat.le_refl _) h.2.2.2.2.2⟩
theorem C_top (hn : nP N ≤ 10) (h : HL m N) : ∃ t s, FX2_top 45 m = some (z3 t) ∧ isTS (tl N (2 ^ nP N - 1)) t s := by
  obtain ⟨a1, a2, a3⟩ := HL_all hn h
  obtain ⟨t, s, e, h1⟩ := C_topFor a1 a3
  refine ⟨t, s, ?_, h1⟩
  unfold FX2_top
  rw [a2, e]
  rfl
theorem C_second (hn : nP N ≤ 10) (h : HL m N) : ∃ t s, FX2_second 45 m = some (z3 s) ∧ isTS (tl N (2 ^ nP N - 1)) t s := by
  obtain ⟨a1, a2, a3⟩ := HL_all hn h
  obtain ⟨sl, c1, c2, ⟨t, s, t1, t2, t3⟩, -⟩ := VL_sum a3
  refine ⟨t, s, ?_, t3⟩
  unfold FX2_second
  rw [a2, slotKnown_y a1 c1 c2, ob_some, mx_inb_i3 c1 (by omega), mx_chkT, i3_toNat (by omega)]
  exact congrArg some t2
theorem C_heaviestOf (hn : nP N ≤ 10) (h : HL m N) {k : Nat} (hk : k < 6) : ∃ t, FX2_heaviestOf 45 (i3 k) m = some (z3 t) ∧ isHv (tl N (2 ^ nP N - 1)) k t := by
  obtain ⟨a1, a2, a3⟩ := HL_all hn h
  obtain ⟨sl, c1, c2, -, w⟩ := VL_sum a3
  obtain ⟨w1, t, w2, w3⟩ := w k hk
  refine ⟨t, ?_, w3⟩
  unfold FX2_heaviestOf
  rw [if_neg (i3_ge0 (by omega)), if_neg (by show ¬ i3 6 ≤ i3 k; rw [i3_le (by omega) (by omega)]; omega), a2, slotKnown_y a1 c1 c2, ob_some]
  show mx_chk (mx_inb (i3 sl * i3 6 + i3 k) 864) _ = _
  rw [i3_mul, i3_add, mx_inb_i3 (by omega) (by omega), mx_chkT]
  show some (m.1 61 (Int32.toNatClampNeg (i3 sl * i3 6 + i3 k))) = _
  rw [i3_mul, i3_add, i3_toNat (by omega), w2]
theorem C_countOf (hn : nP N ≤ 10) (h : HL m N) {k : Nat} (hk : k < 6) : FX2_countOf 45 (i3 k) m = some (i3 (wy (tl N (2 ^ nP N - 1)) k)) := by
  obtain ⟨a1, a2, a3⟩ := HL_all hn h
  obtain ⟨sl, c1, c2, -, w⟩ := VL_sum a3
  obtain ⟨w1, t, w2, w3⟩ := w k hk
  unfold FX2_countOf
  rw [if_neg (i3_ge0 (by omega)), if_neg (by show ¬ i3 6 ≤ i3 k; rw [i3_le (by omega) (by omega)]; omega), a2, slotKnown_y a1 c1 c2, ob_some]
  show mx_chk (mx_inb (i3 sl * i3 6 + i3 k) 864) _ = _
  rw [i3_mul, i3_add, mx_inb_i3 (by omega) (by omega), mx_chkT]
  show some (m.1 60 (Int32.toNatClampNeg (i3 sl * i3 6 + i3 k))) = _
  rw [i3_mul, i3_add, i3_toNat (by omega), w1]
end TOPS
