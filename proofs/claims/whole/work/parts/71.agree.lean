/-! ===== both tell the same of all pairings ===== -/
section AGREE
variable {N : Rw} {m m' : mB}
theorem isB_TS {done : List (List (Nat × Nat))} {B : List (Nat × Nat)} {t t' s' : Int} (h : isB N done B t) (hne : done ≠ []) (ht : isTS (done.map (tk N)) t' s') : t = t' := by
  rcases h with ⟨e, -⟩ | ⟨a, b, e, h1, h2, h3⟩
  · exact absurd e hne
  · rcases ht with ⟨-, -, e2⟩ | ⟨⟨x, hx, i1⟩, i2, -⟩
    · rw [List.map_eq_nil_iff] at e2
      exact absurd e2 hne
    · have c1 := i2 (tk N B) (List.mem_map.mpr ⟨B, by rw [e]; simp, rfl⟩)
      obtain ⟨M, hM, rfl⟩ := List.mem_map.mp hx
      rw [e, List.mem_append, List.mem_cons] at hM
      rcases hM with w | w | w
      · have := h2 M w; omega
      · rw [w] at i1; omega
      · have := h3 M w; omega
theorem tl_map (x : Nat) : (en N x).map (tk N) = tl N x := rfl
theorem en_ne (g : GI N) (s : SI N) {x : Nat} (hx : x < 1024) : en N x ≠ [] := by
  intro q
  have := (tl_b g s x hx).2.1
  unfold tl at this
  rw [q] at this
  exact this rfl
theorem top_agree (g : GI N) (s : SI N) (h : HL m N) (h' : P1 N (en N (2 ^ nP N - 1)) m') : FX2_top 45 m = some (m'.1 222 41) := by
  have hn := g.1.2
  obtain ⟨t, s', e, ht⟩ := C_top hn h
  obtain ⟨-, -, ⟨t2, B, e2, hB, -⟩, -⟩ := h'
  have hpw : 2 ^ nP N - 1 < 2 ^ nP N := by have := Nat.two_pow_pos (nP N); omega
  rw [e, e2, isB_TS hB (en_ne g s (pow10 hn hpw)) ht]
theorem heavy_agree (g : GI N) (h : HL m N) (h' : P1 N (en N (2 ^ nP N - 1)) m') {k : Nat} (hk : k < 6) : FX2_heaviestOf 45 (i3 k) m = some (m'.1 241 k) := by
  obtain ⟨t, e, ht⟩ := C_heaviestOf g.1.2 h hk
  obtain ⟨-, t2, e2, ht2⟩ := h'.2.1 k hk
  rw [e, e2, isHv_uniq ht ht2]
theorem ways_agree (g : GI N) (h : HL m N) (h' : P1 N (en N (2 ^ nP N - 1)) m') {k : Nat} (hk : k < 6) : FX2_countOf 45 (i3 k) m = some (m'.1 242 k) := by
  rw [C_countOf g.1.2 h hk, (h'.2.1 k hk).1]
  rfl
end AGREE
