/-! ===== rows of numbers ===== -/
theorem rl10 {r : Nat} (h : r ≠ 187) : mx_rl r = 10 := by unfold mx_rl; rw [if_neg h]
theorem nI10 : nI 10 = i3 10 := rfl
theorem nI40 : nI 40 = i3 40 := rfl
theorem rl40 : mx_rl 187 = 40 := rfl
section ROW
variable {c c' d : mB} {r k cap : Nat}
/-- a row of k items, with room for cap -/
def Rl (c : mB) (r cap k : Nat) : Prop := c.1 r 1 = i3 k ∧ k ≤ cap ∧ mx_rl (r + 1) = cap ∧ nI cap = i3 cap ∧ cap ≤ 40
theorem R_at_y (h : Rl c r cap k) {i : Nat} (hi : i < k) : FX7_at r (i3 i) c = some (c.1 (r + 1) i) := by
  obtain ⟨h1, h2, h3, h4, h5⟩ := h
  unfold FX7_at
  rw [h3, h4, h1]
  simp (disch := omega) only [ob_some, mx_letI, mx_chkT, mx_inb_i3, mx_inb_lit, lit_toNat, i3_toNat, i3_le, i3_lt, i3_leL, i3_Lle, i3_ltL, i3_Llt, i3_neg, i3_eq, i3_eqL, i3_ne1, i3_add, i3_addL, i3_Ladd, i3_mul, i3_mulL, i3_Lmul, mx_b01_0, mx_b01_1, b2_01, b2_0, b2_1, se_inl, se_inr, if_true, if_false, e10, e01, e00, e11, em1, em1lt, Nat.not_lt_zero, if_pos, if_neg]
theorem R_at_n (h : Rl c r cap k) {x : Int32} (hx : ∀ i, i < k → x ≠ i3 i) : FX7_at r x c = some (-1) := by
  obtain ⟨h1, h2, h3, h4, h5⟩ := h
  unfold FX7_at
  rw [h3, h4, h1]
  rcases hasN hx (by omega) with q | ⟨j, rfl, hj, hj2⟩
  · rw [if_pos q]
  · simp (disch := omega) only [ob_some, mx_letI, mx_chkT, mx_inb_i3, mx_inb_lit, lit_toNat, i3_toNat, i3_le, i3_lt, i3_leL, i3_Lle, i3_ltL, i3_Llt, i3_neg, i3_eq, i3_eqL, i3_ne1, i3_add, i3_addL, i3_Ladd, i3_mul, i3_mulL, i3_Lmul, mx_b01_0, mx_b01_1, b2_01, b2_0, b2_1, se_inl, se_inr, if_true, if_false, e10, e01, e00, e11, em1, em1lt, Nat.not_lt_zero, if_pos, if_neg]
def radd (c : mB) (r k : Nat) (x : Int32) : mB := (mx_up (mx_up c.1 (r + 1) k x) r 1 (i3 (k + 1)), c.2)
theorem R_add (h : Rl c r cap k) (hk : k < cap) (x : Int32) : FX7_add r x c = some (radd c r k x) := by
  obtain ⟨h1, h2, h3, h4, h5⟩ := h
  unfold FX7_add
  rw [h3, h4, h1]
  simp (disch := omega) only [ob_some, mx_letI, mx_chkT, mx_inb_i3, mx_inb_lit, lit_toNat, i3_toNat, i3_le, i3_lt, i3_leL, i3_Lle, i3_ltL, i3_Llt, i3_neg, i3_eq, i3_eqL, i3_ne1, i3_add, i3_addL, i3_Ladd, i3_mul, i3_mulL, i3_Lmul, mx_b01_0, mx_b01_1, b2_01, b2_0, b2_1, se_inl, se_inr, if_true, if_false, e10, e01, e00, e11, em1, em1lt, Nat.not_lt_zero, if_pos, if_neg]
  unfold radd
  rw [mx_up_ne _ _ (fun q => by omega), h1, i3_succ]
theorem Rl_radd (h : Rl c r cap k) (hk : k < cap) (x : Int32) : Rl (radd c r k x) r cap (k + 1) := by
  obtain ⟨h1, h2, h3, h4, h5⟩ := h
  refine ⟨?_, hk, h3, h4, h5⟩
  show mx_up (mx_up c.1 (r + 1) k x) r 1 (i3 (k + 1)) r 1 = _
  rw [mx_up_self]
theorem radd_old {x : Int32} {i : Nat} (hi : i ≠ k) : (radd c r k x).1 (r + 1) i = c.1 (r + 1) i := by
  show mx_up (mx_up c.1 (r + 1) k x) r 1 (i3 (k + 1)) (r + 1) i = _
  rw [mx_up_ne _ _ (fun q => by omega), mx_up_ne _ _ (fun _ => hi)]
theorem radd_new {x : Int32} : (radd c r k x).1 (r + 1) k = x := by
  show mx_up (mx_up c.1 (r + 1) k x) r 1 (i3 (k + 1)) (r + 1) k = _
  rw [mx_up_ne _ _ (fun q => by omega), mx_up_self]
theorem radd_off {x : Int32} {b : Nat} (h1 : b ≠ r) (h2 : b ≠ r + 1) : (radd c r k x).1 b = c.1 b := by
  show mx_up (mx_up c.1 (r + 1) k x) r 1 (i3 (k + 1)) b = _
  rw [up_off _ h1, up_off _ h2]
theorem R_copy {p : Nat} {cap' : Nat} (hp : Rl c p cap' k) (hr : mx_rl (r + 1) = cap ∧ nI cap = i3 cap ∧ cap ≤ 40) (hk : k ≤ cap) (h1 : p ≠ r) (h2 : p ≠ r + 1) (h3 : p + 1 ≠ r) :
    ∃ c', FX7_copyFrom r p c = some c' ∧ Rl c' r cap k ∧ ∀ i, i < k → c'.1 (r + 1) i = c.1 (p + 1) i := by
  have key : hw (FX7_copyFrom_L7 r p mx_FU (i3 0) (mx_up c.1 r 1 0, c.2)) (fun c' => Rl c' r cap k ∧ ∀ i, i < k → c'.1 (r + 1) i = c.1 (p + 1) i) := by
    refine lp_inv (L := fun f y m => FX7_copyFrom_L7 r p f y m) (n := k) (fun j m => Rl m r cap j ∧ Rl m p cap' k ∧ m.1 (p + 1) = c.1 (p + 1) ∧ ∀ i, i < j → m.1 (r + 1) i = c.1 (p + 1) i) ?_ ?_ 0 mx_FU _ (by omega) (FU_lt (by have := hp.2.1; have := hp.2.2.2.2; omega)) ⟨⟨mx_up_self _ _ _ _, Nat.zero_le _, hr⟩, ⟨?_, hp.2⟩, up_off _ h3 _ _, fun i hi => absurd hi (Nat.not_lt_zero i)⟩
    · intro f m hm
      show hw (FX7_copyFrom_L7 r p (f + 1) (i3 k) m) _
      rw [FX7_copyFrom_L7, hm.2.1.1, if_pos (by rw [i3_le] <;> have := hp.2.1 <;> have := hp.2.2.2.2 <;> omega)]
      exact hw_some ⟨hm.1, hm.2.2.2⟩
    · intro f j m hj hm hs
      have hk40 := hp.2.1
      have hk41 := hp.2.2.2.2
      show hw (FX7_copyFrom_L7 r p (f + 1) (i3 j) m) _
      rw [FX7_copyFrom_L7, hm.2.1.1, if_neg (by rw [i3_le (by omega) (by omega)]; omega), R_at_y hm.2.1 hj, ob_some, R_add hm.1 (by omega), ob_some, mx_letI, i3_succ]
      refine hs _ ⟨Rl_radd hm.1 (by omega) _, ⟨?_, hm.2.1.2⟩, ?_, ?_⟩
      · rw [radd_off h1 h2]; exact hm.2.1.1
      · by_cases e : p + 1 = r + 1
        · omega
        · rw [radd_off h3 e]; exact hm.2.2.1
      · intro i hi
        by_cases e : i = j
        · subst e
          rw [radd_new, hm.2.2.1]
        · rw [radd_old e]
          exact hm.2.2.2 i (by omega)
    · show mx_up c.1 r 1 0 p 1 = _
      rw [up_off _ h1]; exact hp.1
  obtain ⟨c', e, h⟩ := key
  refine ⟨c', ?_, h⟩
  unfold FX7_copyFrom
  show Option.bind (FX7_copyFrom_L7 r p mx_FU (i3 0) (mx_up c.1 r 1 0, c.2)) _ = _
  rw [e]
  rfl
/-- a row of points -/
def Ri (c : mB) (r k : Nat) (f : Nat → Nat) : Prop := Rl c r 10 k ∧ ∀ i, i < k → c.1 (r + 1) i = i3 (f i) ∧ f i < 10
end ROW
