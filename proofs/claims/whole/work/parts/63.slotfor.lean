/-! ===== each set is looked at once ===== -/
def WM : Nat → Nat → Prop := fun b j => (b = 45 ∧ j = 5) ∨ b = 57 ∨ b = 58 ∨ b = 59 ∨ b = 60 ∨ b = 61
section SF
variable {m m1 : mB} {N : Rw} {n : Nat}
theorem FX2_least {free : Nat} (hf : free < 1024) (h0 : free ≠ 0) (m : mB) : FX2_leastOf (i3 free) m = some (i3 (lst free)) := by
  have e : FX2_leastOf_L2 (i3 free) m mx_FU (i3 0) = some (osum (ff (fun k => free.testBit k) 10)) := by
    refine lp_ff (L := fun f y => FX2_leastOf_L2 (i3 free) m f y) (n := 10) (fun k => free.testBit k) osum ?_ ?_ ?_ mx_FU (FU_lt (by omega))
    · intro f
      show FX2_leastOf_L2 (i3 free) m (f + 1) (i3 10) = _
      rw [FX2_leastOf_L2]
      rfl
    · intro f k hk hP
      show FX2_leastOf_L2 (i3 free) m (f + 1) (i3 k) = _
      rw [FX2_leastOf_L2]
      simp (disch := omega) only [bt_sh, bt_i3, hP, ob_some, mx_letI, mx_chkT, mx_inb_i3, mx_inb_lit, lit_toNat, i3_toNat, i3_le, i3_lt, i3_leL, i3_Lle, i3_ltL, i3_Llt, i3_neg, i3_eq, i3_eqL, i3_ne1, i3_add, i3_addL, i3_Ladd, i3_mul, i3_mulL, i3_Lmul, mx_b01_0, mx_b01_1, b2_01, b2_0, b2_1, se_inl, se_inr, if_true, if_false, e10, e01, e00, e11, em1, em1lt, Nat.not_lt_zero, osum, reduceCtorEq]
      rw [if_neg (by omega)]
    · intro f k hk hP
      show FX2_leastOf_L2 (i3 free) m (f + 1) (i3 k) = FX2_leastOf_L2 (i3 free) m f (i3 (k + 1))
      rw [FX2_leastOf_L2]
      simp (disch := omega) only [bt_sh, bt_i3, hP, ob_some, mx_letI, mx_chkT, mx_inb_i3, mx_inb_lit, lit_toNat, i3_toNat, i3_le, i3_lt, i3_leL, i3_Lle, i3_ltL, i3_Llt, i3_neg, i3_eq, i3_eqL, i3_ne1, i3_add, i3_addL, i3_Ladd, i3_mul, i3_mulL, i3_Lmul, mx_b01_0, mx_b01_1, b2_01, b2_0, b2_1, se_inl, se_inr, if_true, if_false, e10, e01, e00, e11, em1, em1lt, Nat.not_lt_zero, eq_self]
      rw [if_neg (by omega)]
  unfold FX2_leastOf
  rw [show (0 : Int32) = i3 0 from rfl, e]
  obtain ⟨l1, l2⟩ := lst_ok free hf h0
  unfold lst at l2 ⊢
  cases h : ff (fun k => free.testBit k) 10 with
  | some p => rfl
  | none => rfl
theorem clr_i3 {x p : Nat} (hx : x < 1024) (hp : p < 10) : i3 x &&& (pw p ^^^ (-1)) = i3 (clr x p) := by
  apply bt_ext
  intro j hj
  rw [bt_and, bt_xor, bt_m1 hj, bt_pwk (by omega) hj, bt_i3 hj, bt_i3 hj, clr_bit]
  cases decide (j = p) <;> simp
theorem slotKnown_y {g sl : Nat} (hg : g < 1024) (hs : sl < 144) (h : m.1 57 g = i3 sl) : FX2_slotKnown 45 (i3 g) m = some (i3 sl) := by
  unfold FX2_slotKnown
  simp (disch := omega) only [ob_some, mx_letI, mx_chkT, mx_inb_i3, mx_inb_lit, lit_toNat, i3_toNat, i3_le, i3_lt, i3_leL, i3_Lle, i3_ltL, i3_Llt, i3_neg, i3_eq, i3_eqL, i3_ne1, i3_add, i3_addL, i3_Ladd, i3_mul, i3_mulL, i3_Lmul, mx_b01_0, mx_b01_1, b2_01, b2_0, b2_1, se_inl, se_inr, if_true, if_false, e10, e01, e00, e11, em1, em1lt, Nat.not_lt_zero, if_pos, if_neg]
  show (if m.1 57 g < 0 then some 0 else if 144 ≤ m.1 57 g then some 0 else some (m.1 57 g)) = _
  rw [h]
  simp (disch := omega) only [ob_some, mx_letI, mx_chkT, mx_inb_i3, mx_inb_lit, lit_toNat, i3_toNat, i3_le, i3_lt, i3_leL, i3_Lle, i3_ltL, i3_Llt, i3_neg, i3_eq, i3_eqL, i3_ne1, i3_add, i3_addL, i3_Ladd, i3_mul, i3_mulL, i3_Lmul, mx_b01_0, mx_b01_1, b2_01, b2_0, b2_1, se_inl, se_inr, if_true, if_false, e10, e01, e00, e11, em1, em1lt, Nat.not_lt_zero, if_pos, if_neg]
/-- what a look leaves behind -/
def QM (N : Rw) (n free : Nat) (m : mB) : Int32 × mB → Prop := fun r => (∃ sl, sl < 144 ∧ r.1 = i3 sl ∧ r.2.1 57 free = i3 sl) ∧ MI r.2 n ∧ (∀ g, g ≤ free → r.2.1 57 g ≠ -1 → VL r.2 N g) ∧ (∀ sl, sl < KN m → sam m r.2 sl) ∧ (∀ g, g < 1024 → m.1 57 g ≠ -1 → r.2.1 57 g = m.1 57 g) ∧ (∀ g, free < g → r.2.1 57 g = m.1 57 g) ∧ mx_out WM m r.2 ∧ KN m ≤ KN r.2
theorem MI_slot (h : MI m n) {g : Nat} (hg : g < 1024) (h1 : m.1 57 g ≠ -1) : ∃ sl, sl < KN m ∧ m.1 57 g = i3 sl := by
  rcases h.2.1 g hg with w | w
  · exact absurd w h1
  · exact w.2
theorem KN_le (hn : n < 11) (h : MI m n) : KN m ≤ 144 := by
  have h3 : KN m ≤ cnt (rOK n) 1024 := cnt_le (fun k hk hal => by
    have hne : ¬ m.1 57 k = -1 := of_decide_eq_true hal
    rcases h.2.1 k hk with w | w
    · exact absurd w hne
    · exact w.1)
  have := rOK_cnt n hn
  omega
theorem KN_1024 (m : mB) : KN m ≤ 1024 := by
  have : ∀ (P : Nat → Bool) k, cnt P k ≤ k := by
    intro P k
    induction k with
    | zero => exact Nat.le_refl _
    | succ k ih => rw [cnt_succ]; split <;> omega
  exact this _ _
/-- while a set is being summed up: slot K is its own, the smaller ones stand -/
def IM (N : Rw) (n free : Nat) (m0 : mB) (m : mB) (L : List (Nat × Nat)) : Prop := MI m n ∧ m.1 57 free = i3 (KN m0) ∧ KN m0 < KN m ∧ SLT m (KN m0) L ∧ (∀ g, g < free → m.1 57 g ≠ -1 → VL m N g) ∧ (∀ sl, sl < KN m0 → sam m0 m sl) ∧ (∀ g, g < 1024 → m0.1 57 g ≠ -1 → m.1 57 g = m0.1 57 g) ∧ (∀ g, free < g → m.1 57 g = m0.1 57 g) ∧ mx_out WM m0 m
theorem IM_rec {free g0 : Nat} {m0 : mB} {L : List (Nat × Nat)} (hf : free < 1024) (hg0 : g0 < free) (h : IM N n free m0 m L) {r : Int32 × mB} (hr : QM N n g0 m r) : IM N n free m0 r.2 L := by
  obtain ⟨a1, a2, a3, a4, a5, a6, a7, a8, a9⟩ := h
  obtain ⟨-, b2, b3, b4, b5, b6, b7, b8⟩ := hr
  have k0 := KN_1024 m0
  have k1 := KN_1024 m
  have i1 := i3_ne1 (a := KN m0) (by omega)
  have hne : m.1 57 free ≠ -1 := by rw [a2]; exact fun q => i1.mp q
  refine ⟨b2, by rw [b5 free hf hne]; exact a2, by omega, SLT_sam a4 (b4 _ a3), fun g hg h1 => ?_, fun sl hsl => (a6 sl hsl).tr (b4 sl (by omega)), fun g hg h1 => ?_, fun g hg => by rw [b6 g (by omega)]; exact a8 g hg, mx_out.tr a9 b7⟩
  · by_cases c : g ≤ g0
    · exact b3 g c h1
    · rw [b6 g (by omega)] at h1
      obtain ⟨sl, L1, c1, c2, c3, c4, c6⟩ := a5 g hg h1
      obtain ⟨sl2, d1, d2⟩ := MI_slot a1 (by omega) h1
      rw [c2, i3_eq (by omega) (by omega)] at d2
      exact ⟨sl, L1, c1, by rw [b6 g (by omega)]; exact c2, SLT_sam c3 (b4 sl (by omega)), c4, CL_mv (by omega) c6 (fun j hj h => by rw [b5 j hj h]; exact h)⟩
  · have h2 := a7 g hg h1
    rw [b5 g hg (by rw [h2]; exact h1)]
    exact h2
theorem al_57 {m m' : mB} (h : m'.1 57 = m.1 57) : KN m' = KN m := by unfold KN al; rw [h]
theorem MI_57 {m m' : mB} (h : m'.1 57 = m.1 57) (h5 : m'.1 45 5 = m.1 45 5) (hm : MI m n) : MI m' n := by
  unfold MI
  rw [al_57 h, h, h5]
  exact hm
/-- one component more in the slot -/
theorem IM_add {free : Nat} {m0 : mB} {L L' : List (Nat × Nat)} {m1 : mB} (hn : n < 11) (hf : free < 1024) (h : IM N n free m0 m L) (z : mx_out (SE (KN m0)) m m1) (hS : SLT m1 (KN m0) L') : IM N n free m0 m1 L' := by
  obtain ⟨a1, a2, a3, a4, a5, a6, a7, a8, a9⟩ := h
  have k0 := KN_1024 m0
  have k1 := KN_1024 m
  have c57 : m1.1 57 = m.1 57 := z.cell 57 (fun j => by unfold SE; omega)
  have c5 : m1.1 45 5 = m.1 45 5 := z.fld 45 5 (by unfold SE; omega)
  refine ⟨MI_57 c57 c5 a1, by rw [c57]; exact a2, by rw [al_57 c57]; exact a3, hS, fun g hg h1 => ?_, fun sl hsl => (a6 sl hsl).tr (sam_SE z (by omega)), fun g hg h1 => by rw [c57]; exact a7 g hg h1, fun g hg => by rw [c57]; exact a8 g hg, mx_out.tr a9 (z.sub (fun b j q => by unfold SE at q; unfold WM; omega))⟩
  rw [c57] at h1
  obtain ⟨sl, L1, c1, c2, c3, c4, c6⟩ := a5 g hg h1
  refine ⟨sl, L1, c1, by rw [c57]; exact c2, SLT_sam c3 (sam_SE z ?_), c4, CL_mv (by omega) c6 (fun j hj h => by rw [c57]; exact h)⟩
  intro e
  rw [e, ← a2] at c2
  have := a1.2.2 g free (by omega) hf h1 c2
  omega
/-- the slot is made -/
theorem IM_new {free : Nat} {m0 : mB} (hn : n < 11) (hf : free < 1024) (hr : rOK n free = true) (hM : MI m0 n) (h1 : m0.1 57 free = -1) (hV : ∀ g, g ≤ free → m0.1 57 g ≠ -1 → VL m0 N g) (e : Bool) :
    ∃ m1, FX2_startSlot 45 (i3 (KN m0)) (b2 e) (mx_up (mx_up m0.1 45 5 (i3 (KN m0 + 1))) 57 free (i3 (KN m0)), m0.2) = some m1 ∧ IM N n free m0 m1 (if e = true then [(0, 0)] else []) := by
  have k1 := MI_lt hn hM hf hr h1
  have hz : mx_out WM m0 (mx_up (mx_up m0.1 45 5 (i3 (KN m0 + 1))) 57 free (i3 (KN m0)), m0.2) := mx_out_up (mx_out_up mx_out.rf rfl (Or.inl ⟨rfl, rfl⟩)) rfl (Or.inr (Or.inl rfl))
  obtain ⟨m1, e1, s1, z1⟩ := C_startSlot (m := (mx_up (mx_up m0.1 45 5 (i3 (KN m0 + 1))) 57 free (i3 (KN m0)), m0.2)) k1 e
  have r57 : ∀ j, m1.1 57 j = if j = free then i3 (KN m0) else m0.1 57 j := fun j => by
    rw [z1.fld 57 j (by unfold SE; omega)]
    show mx_up (mx_up m0.1 45 5 (i3 (KN m0 + 1))) 57 free (i3 (KN m0)) 57 j = _
    rw [up_at, up_off _ (by omega)]
  have r5 : m1.1 45 5 = i3 (KN m0 + 1) := by
    rw [z1.fld 45 5 (by unfold SE; omega)]
    show mx_up (mx_up m0.1 45 5 (i3 (KN m0 + 1))) 57 free (i3 (KN m0)) 45 5 = _
    rw [up_off _ (by omega), mx_up_self]
  have i1 := i3_ne1 (a := KN m0) (by omega)
  have hK : KN m1 = KN m0 + 1 := KN_up hf h1 (fun q => i1.mp q) r57
  have samA : ∀ sl, sl < KN m0 → sam m0 m1 sl := by
    intro sl hsl
    have w := sam_SE z1 (sl := sl) (by omega)
    refine sam.tr ⟨?_, ?_, fun j hj => ⟨?_, ?_⟩⟩ w
    · show mx_up (mx_up m0.1 45 5 (i3 (KN m0 + 1))) 57 free (i3 (KN m0)) 58 sl = _
      rw [up_off _ (by omega), up_off _ (by omega)]
    · show mx_up (mx_up m0.1 45 5 (i3 (KN m0 + 1))) 57 free (i3 (KN m0)) 59 sl = _
      rw [up_off _ (by omega), up_off _ (by omega)]
    · show mx_up (mx_up m0.1 45 5 (i3 (KN m0 + 1))) 57 free (i3 (KN m0)) 60 _ = _
      rw [up_off _ (by omega), up_off _ (by omega)]
    · show mx_up (mx_up m0.1 45 5 (i3 (KN m0 + 1))) 57 free (i3 (KN m0)) 61 _ = _
      rw [up_off _ (by omega), up_off _ (by omega)]
  refine ⟨m1, e1, ⟨by rw [r5, hK], fun g hg => ?_, fun g g' hg hg' h2 h3 => ?_⟩, by rw [r57, if_pos rfl], by omega, s1, fun g hg h2 => ?_, samA, fun g hg h2 => ?_, fun g hg => by rw [r57, if_neg (by omega)], mx_out.tr hz (z1.sub (fun b j q => by unfold SE at q; unfold WM; omega))⟩
  · rw [r57]
    by_cases c : g = free
    · rw [if_pos c]
      exact Or.inr ⟨by rw [c]; exact hr, KN m0, by omega, rfl⟩
    · rw [if_neg c]
      rcases hM.2.1 g hg with w | ⟨w1, sl, w2, w3⟩
      · exact Or.inl w
      · exact Or.inr ⟨w1, sl, by omega, w3⟩
  · rw [r57, r57] at h3
    rw [r57] at h2
    by_cases c : g = free
    · rw [if_pos c] at h3
      by_cases c2 : g' = free
      · rw [c, c2]
      · rw [if_neg c2] at h3
        exfalso
        obtain ⟨sl, w2, w3⟩ := MI_slot hM hg' (by rw [← h3]; exact fun q => i1.mp q)
        rw [← h3, i3_eq (by omega) (by omega)] at w3
        omega
    · rw [if_neg c] at h3 h2
      by_cases c2 : g' = free
      · rw [if_pos c2] at h3
        exfalso
        obtain ⟨sl, w2, w3⟩ := MI_slot hM hg h2
        rw [h3, i3_eq (by omega) (by omega)] at w3
        omega
      · rw [if_neg c2] at h3
        exact hM.2.2 g g' hg hg' h2 h3
  · rw [r57, if_neg (by omega)] at h2
    obtain ⟨sl, L1, c1, c2, c3, c4, c6⟩ := hV g (by omega) h2
    obtain ⟨sl2, d1, d2⟩ := MI_slot hM (by omega) h2
    rw [c2, i3_eq (by omega) (by omega)] at d2
    exact ⟨sl, L1, c1, by rw [r57, if_neg (by omega)]; exact c2, SLT_sam c3 (samA sl (by omega)), c4, CL_mv (by omega) c6 (fun j hj h => by rw [r57, if_neg (fun q => h (by rw [q]; exact h1))]; exact h)⟩
  · rw [r57, if_neg (fun q => h2 (by rw [q]; exact h1))]
/-- a set that is summed up -/
theorem IM_done {free : Nat} {m0 : mB} {L : List (Nat × Nat)} (hn : n < 11) (hr : rOK n free = true) (hM : MI m0 n) (hf : free < 1024) (h1 : m0.1 57 free = -1) (h : IM N n free m0 m L) (hp : L.Perm (tl N free)) (hc : CL m N free) : QM N n free m0 (i3 (KN m0), m) := by
  obtain ⟨a1, a2, a3, a4, a5, a6, a7, a8, a9⟩ := h
  have k1 := MI_lt hn hM hf hr h1
  refine ⟨⟨KN m0, k1, rfl, a2⟩, a1, fun g hg h2 => ?_, a6, a7, a8, a9, by show KN m0 ≤ KN m; omega⟩
  by_cases c : g = free
  · rw [c]; exact ⟨KN m0, L, k1, a2, a4, hp, hc⟩
  · exact a5 g (by omega) h2
end SF
