/-! ===== operation: tag ===== -/
section TAGB
variable {c c' d d' : mB} {k : Nat}
def TXk (c d : mB) (k : Nat) : Prop := Rl c 186 40 k ∧ d.1 222 51 = i3 k ∧ ∀ i, i < k → c.1 187 i = d.1 245 i
def WTa : Nat → Nat → Prop := fun b j => (b = 186 ∧ j = 1) ∨ b = 187
def WTb : Nat → Nat → Prop := fun b j => (b = 222 ∧ j = 51) ∨ b = 245
theorem T_wr1 (h : TXk c d k) (hk : k < 40) (x : Int32) : ∃ c' d', FX7_add 186 x c = some c' ∧ FX12_write 222 x d = some d' ∧ TXk c' d' (k + 1) ∧ mx_out WTa c c' ∧ mx_out WTb d d' := by
  obtain ⟨h1, h2, h3⟩ := h
  have za : mx_out WTa c (radd c 186 k x) := mx_out_up (mx_out_up mx_out.rf rfl (Or.inr rfl)) rfl (Or.inl ⟨rfl, rfl⟩)
  have zb : mx_out WTb d (mx_up (mx_up d.1 245 k x) 222 51 (i3 (k + 1)), d.2) := mx_out_up (mx_out_up mx_out.rf rfl (Or.inr rfl)) rfl (Or.inl ⟨rfl, rfl⟩)
  refine ⟨radd c 186 k x, (mx_up (mx_up d.1 245 k x) 222 51 (i3 (k + 1)), d.2), R_add h1 hk x, ?_, ⟨⟨?_, by omega, h1.2.2⟩, ?_, fun i hi => ?_⟩, za, zb⟩
  · unfold FX12_write
    have e2 : mx_up d.1 245 k x 222 51 = i3 k := by rw [up_off _ (by omega)]; exact h2
    rw [h2, mx_inb_i3 (by omega) (by omega), mx_chkT, mx_letI, i3_toNat (by omega), mx_letI]
    show some (mx_up (mx_up d.1 245 k x) 222 51 (mx_up d.1 245 k x 222 51 + 1), d.2) = _
    rw [e2, i3_succ]
  · exact mx_up_self (mx_up c.1 187 k x) 186 1 _
  · exact mx_up_self (mx_up d.1 245 k x) 222 51 _
  · show mx_up (mx_up c.1 187 k x) 186 1 (i3 (k + 1)) 187 i = mx_up (mx_up d.1 245 k x) 222 51 (i3 (k + 1)) 245 i
    rw [up_off _ (show 187 ≠ 186 by omega), up_off _ (show 245 ≠ 222 by omega), up_at, up_at]
    by_cases e : i = k
    · rw [if_pos e, if_pos e]
    · rw [if_neg e, if_neg e]; exact h3 i (by omega)
theorem T_wr : ∀ (cs : List Int32) {c d : mB} {k : Nat}, NE c d → TXk c d k → k + cs.length ≤ 40 → hb (wrl (FX7_add 186) cs c) (wrl (FX12_write 222) cs d) (fun c' d' => NE c' d' ∧ TXk c' d' (k + cs.length) ∧ mx_out WTa c c' ∧ mx_out WTb d d') := by
  intro cs
  induction cs with
  | nil => intro c d k h1 h2 _; exact hb_some ⟨h1, h2, mx_out.rf, mx_out.rf⟩
  | cons x r ih =>
    intro c d k h1 h2 hk
    rw [List.length_cons] at hk
    obtain ⟨c1, d1, e1, e2, t1, z1, z2⟩ := T_wr1 h2 (by omega) x
    show hb (Option.bind (FX7_add 186 x c) _) (Option.bind (FX12_write 222 x d) _) _
    rw [e1, e2, ob_some, ob_some]
    refine hb_mono (ih (NE_mv h1 (ag_of z1 (fun b j q => by unfold WTa; omega)) (ag_of z2 (fun b j q => by unfold WTb; omega))) t1 (by omega)) (fun a b q => ?_)
    obtain ⟨q1, q2, q3, q4⟩ := q
    exact ⟨q1, by rw [List.length_cons, show k + (r.length + 1) = k + 1 + r.length by omega]; exact q2, mx_out.tr z1 q3, mx_out.tr z2 q4⟩
/-- the digits of a number -/
def dgs (x : Int32) : List Int32 := (if x < 100 then [] else [48 + ((x / 100) - (x / 100) / 10 * 10)]) ++ ((if x < 10 then [] else [48 + ((x / 10) - (x / 10) / 10 * 10)]) ++ [48 + (x - x / 10 * 10)])
theorem C_addDigits (x : Int32) (m : mB) : FX7_addDigits 186 x m = wrl (FX7_add 186) (dgs x) m := by
  unfold FX7_addDigits dgs
  simp only [mx_letI]
  by_cases h1 : x < 100
  · simp only [if_pos h1]
    by_cases h2 : x < 10
    · simp only [if_pos h2]; rfl
    · simp only [if_neg h2]; rfl
  · simp only [if_neg h1]
    rw [wrl_app]
    show Option.bind (FX7_add 186 (48 + ((x / 100) - (x / 100) / 10 * 10)) m) _ = Option.bind (Option.bind (FX7_add 186 (48 + ((x / 100) - (x / 100) / 10 * 10)) m) _) _
    cases FX7_add 186 (48 + ((x / 100) - (x / 100) / 10 * 10)) m with
    | none => rfl
    | some m1 =>
      by_cases h2 : x < 10
      · simp only [if_pos h2]; rfl
      · simp only [if_neg h2]; rfl
theorem M_writeNumber {v : Nat} (hv : v ≤ 999) (m : mB) : FX12_writeNumber 64 222 (i3 v) m = wrl (FX12_write 222) (dgs (i3 v)) m := by
  have one : ∀ (D u : Nat) (m : mB), u ≤ 9 → FX12_writeNumber (D + 1) 222 (i3 u) m = wrl (FX12_write 222) [48 + (i3 u - i3 u / 10 * 10)] m := by
    intro D u m hu
    rw [FX12_writeNumber]
    unfold FX12_writeNumber_B
    rw [mx_letI, if_pos (show i3 u ≤ 9 by show i3 u ≤ i3 9; rw [i3_le (by omega) (by omega)]; omega)]
    rfl
  have more : ∀ (D u : Nat) (m : mB), 9 < u → u < 1000 → FX12_writeNumber (D + 1) 222 (i3 u) m = Option.bind (FX12_writeNumber D 222 (i3 (u / 10)) m) (fun m1 => wrl (FX12_write 222) [48 + (i3 u - i3 u / 10 * 10)] m1) := by
    intro D u m hu hu2
    rw [FX12_writeNumber]
    unfold FX12_writeNumber_B
    rw [mx_letI, if_neg (show ¬ i3 u ≤ 9 by show ¬ i3 u ≤ i3 9; rw [i3_le (by omega) (by omega)]; omega), show i3 u / 10 = i3 (u / 10) from i3_div (b := 10) (by omega) (by omega)]
    rfl
  have d10 : i3 v / 10 = i3 (v / 10) := i3_div (b := 10) (by omega) (by omega)
  have d100 : i3 v / 100 = i3 (v / 100) := i3_div (b := 100) (by omega) (by omega)
  have lt100 : i3 v < 100 ↔ v < 100 := by show i3 v < i3 100 ↔ _; rw [i3_lt (by omega) (by omega)]
  have lt10 : i3 v < 10 ↔ v < 10 := by show i3 v < i3 10 ↔ _; rw [i3_lt (by omega) (by omega)]
  unfold dgs
  by_cases h1 : v < 10
  · rw [if_pos (lt100.mpr (by omega)), if_pos (lt10.mpr h1), one 63 v m (by omega)]
    rfl
  · rw [more 63 v m (by omega) (by omega), if_neg (fun q => h1 (lt10.mp q))]
    by_cases h2 : v < 100
    · rw [if_pos (lt100.mpr h2), one 62 (v / 10) m (by omega), List.nil_append, wrl_app, d10]
    · rw [if_neg (fun q => h2 (lt100.mp q)), more 62 (v / 10) m (by omega) (by omega), one 61 (v / 10 / 10) m (by omega), Nat.div_div_eq_div_mul, ← List.append_assoc, wrl_app, wrl_app, d10, d100]
def wlt (w : List Nat) : List Int32 := w.map (fun l => i3 (96 + l))
theorem M_writeNext {w : List Nat} (hw : wok w) (m : mB) : FX12_writeNext 222 (Int64.ofNat (p27 w)) m = wrl (FX12_write 222) (32 :: wlt w) m := by
  unfold FX12_writeNext
  show Option.bind (FX12_write 222 32 m) _ = Option.bind (FX12_write 222 32 m) _
  congr 1
  funext m1
  rw [M_writeWord 64 w (by have := hw.2.1; omega) hw m1]
  show Option.bind (wrl (FX12_write 222) (wlt w) m1) _ = _
  cases wrl (FX12_write 222) (wlt w) m1 <;> rfl
theorem wlt_len {w : List Nat} (hw : wok w) : (wlt w).length ≤ 7 := by
  unfold wlt
  rw [List.length_map]
  exact hw.2.1
theorem dgs_len (x : Int32) : (dgs x).length ≤ 3 := by
  unfold dgs
  by_cases h1 : x < 100 <;> by_cases h2 : x < 10
  · rw [if_pos h1, if_pos h2]; exact (by simp)
  · rw [if_pos h1, if_neg h2]; exact (by simp)
  · rw [if_neg h1, if_pos h2]; exact (by simp)
  · rw [if_neg h1, if_neg h2]; exact (by simp)
theorem C_txt1 (m : mB) : FX7_addText 186 1 (mx_sl.getD 1 0) 0 m = wrl (FX7_add 186) [32, 108, 111, 110, 101] m := rfl
theorem C_txt2 (m : mB) : FX7_addText 186 2 (mx_sl.getD 2 0) 0 m = wrl (FX7_add 186) [32, 119, 105, 116, 104, 32] m := rfl
theorem C_txt3 (m : mB) : FX7_addText 186 3 (mx_sl.getD 3 0) 0 m = wrl (FX7_add 186) [32, 97, 116, 32] m := rfl
theorem w_lone : wok (wd 13) ∧ 32 :: wlt (wd 13) = [32, 108, 111, 110, 101] := ⟨by unfold wok; decide, by decide⟩
theorem w_with : wok (wd 15) ∧ 32 :: wlt (wd 15) = [32, 119, 105, 116, 104] := ⟨by unfold wok; decide, by decide⟩
theorem w_at : wok [1, 20] ∧ 32 :: wlt [1, 20] = [32, 97, 116] := ⟨by unfold wok; decide, by decide⟩
theorem M_at (m : mB) : FX12_spelt 97 116 0 0 0 0 m = some (Int64.ofNat (p27 [1, 20])) := by
  unfold FX12_spelt
  simp only [mx_letI, if_pos (show (0 : Int32) ≤ 0 by decide)]
  congr 1
end TAGB
