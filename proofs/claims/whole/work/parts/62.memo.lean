/-! ===== the class's memo ===== -/
/-- how many sets have a slot -/
def al (m : mB) : Nat → Bool := fun g => decide (¬ m.1 57 g = -1)
def KN (m : mB) : Nat := cnt (al m) 1024
/-- the memo's own order: n points; each set that has a slot is one that is met, each slot is of one set -/
def MI (m : mB) (n : Nat) : Prop := m.1 45 5 = i3 (KN m) ∧ (∀ g, g < 1024 → m.1 57 g = -1 ∨ (rOK n g = true ∧ ∃ sl, sl < KN m ∧ m.1 57 g = i3 sl)) ∧ ∀ g g', g < 1024 → g' < 1024 → m.1 57 g ≠ -1 → m.1 57 g = m.1 57 g' → g = g'
/-- the sets that a set is summed up from have slots too -/
def CL (m : mB) (N : Rw) (g : Nat) : Prop := g ≠ 0 → m.1 57 (clr g (lst g)) ≠ -1 ∧ ∀ q, q < 10 → (clr g (lst g)).testBit q = true → lk N (lst g) q = true → m.1 57 (clr (clr g (lst g)) q) ≠ -1
theorem CL_mv {m m' : mB} {N : Rw} {g : Nat} (hg : g < 1024) (h : CL m N g) (hk : ∀ j, j < 1024 → m.1 57 j ≠ -1 → m'.1 57 j ≠ -1) : CL m' N g := by
  intro h0
  obtain ⟨l1, l2⟩ := lst_ok g hg h0
  have c2 := clr_1024 g hg _ l1
  exact ⟨hk _ c2 (h h0).1, fun q hq hb hl => hk _ (clr_1024 _ c2 q hq) ((h h0).2 q hq hb hl)⟩
def VL (m : mB) (N : Rw) (g : Nat) : Prop := ∃ sl L, sl < 144 ∧ m.1 57 g = i3 sl ∧ SLT m sl L ∧ L.Perm (tl N g) ∧ CL m N g
/-- slot sl is as it was -/
def sam (m m' : mB) (sl : Nat) : Prop := m'.1 58 sl = m.1 58 sl ∧ m'.1 59 sl = m.1 59 sl ∧ ∀ j, j < 6 → m'.1 60 (sl * 6 + j) = m.1 60 (sl * 6 + j) ∧ m'.1 61 (sl * 6 + j) = m.1 61 (sl * 6 + j)
theorem sam.rf {m : mB} {sl : Nat} : sam m m sl := ⟨rfl, rfl, fun _ _ => ⟨rfl, rfl⟩⟩
theorem sam.tr {m m1 m2 : mB} {sl : Nat} (h : sam m m1 sl) (h' : sam m1 m2 sl) : sam m m2 sl := ⟨h'.1.trans h.1, h'.2.1.trans h.2.1, fun j hj => ⟨(h'.2.2 j hj).1.trans (h.2.2 j hj).1, (h'.2.2 j hj).2.trans (h.2.2 j hj).2⟩⟩
theorem sam_SE {m m1 : mB} {slot sl : Nat} (z : mx_out (SE slot) m m1) (h : sl ≠ slot) : sam m m1 sl := ⟨z.fld 58 sl (by unfold SE; omega), z.fld 59 sl (by unfold SE; omega), fun j hj => ⟨z.fld 60 _ (by unfold SE; omega), z.fld 61 _ (by unfold SE; omega)⟩⟩
theorem SLT_sam {m m1 : mB} {sl : Nat} {L : List (Nat × Nat)} (h : SLT m sl L) (s : sam m m1 sl) : SLT m1 sl L := SLT_mv h s.1 s.2.1 s.2.2
section MEMO
variable {m m1 : mB} {N : Rw} {n : Nat}
theorem MI_lt (hn : n < 11) (h : MI m n) {g : Nat} (hg : g < 1024) (hr : rOK n g = true) (h1 : m.1 57 g = -1) : KN m < 144 := by
  have h2 : cnt (rOK n) 1024 = cnt (fun j => rOK n j && decide (j ≠ g)) 1024 + 1 := cnt_rm hg hr
  have h3 : KN m ≤ cnt (fun j => rOK n j && decide (j ≠ g)) 1024 := cnt_le (fun k hk hal => by
    have hne : ¬ m.1 57 k = -1 := of_decide_eq_true hal
    rcases h.2.1 k hk with w | w
    · exact absurd w hne
    · rw [w.1]
      have : k ≠ g := fun e => hne (by rw [e]; exact h1)
      simp [this])
  have := rOK_cnt n hn
  omega
theorem KN_up {g : Nat} (hg : g < 1024) (h1 : m.1 57 g = -1) {x : Int32} (hx : x ≠ -1) (h57 : ∀ j, m1.1 57 j = if j = g then x else m.1 57 j) : KN m1 = KN m + 1 := by
  unfold KN
  have e1 : al m1 g = true := by unfold al; rw [h57, if_pos rfl]; exact decide_eq_true hx
  suffices e2 : cnt (fun j => al m1 j && decide (j ≠ g)) 1024 = cnt (al m) 1024 by
    rw [cnt_rm hg e1, e2]
  refine cnt_congr (fun k hk => ?_)
  unfold al
  rw [h57]
  by_cases e : k = g
  · subst e
    simp [h1]
  · simp [e]
theorem C_startSlot {slot : Nat} (hs : slot < 144) (e : Bool) : ∃ m1, FX2_startSlot 45 (i3 slot) (b2 e) m = some m1 ∧ SLT m1 slot (if e = true then [(0, 0)] else []) ∧ mx_out (SE slot) m m1 := by
  have key : hw (FX2_startSlot_L2 45 (i3 slot) (b2 e) mx_FU (i3 0) m) (fun m1 => mx_out (SE slot) m m1 ∧ ∀ j, j < 6 → m1.1 60 (slot * 6 + j) = i3 0 ∧ m1.1 61 (slot * 6 + j) = -1) := by
    refine lp_inv (L := fun fu y m => FX2_startSlot_L2 45 (i3 slot) (b2 e) fu y m) (n := 6) (fun k m1 => mx_out (SE slot) m m1 ∧ ∀ j, j < k → m1.1 60 (slot * 6 + j) = i3 0 ∧ m1.1 61 (slot * 6 + j) = -1) ?_ ?_ 0 mx_FU m (by omega) (FU_lt (by omega)) ⟨mx_out.rf, fun j hj => by omega⟩
    · intro fu m1 hm
      show hw (FX2_startSlot_L2 45 (i3 slot) (b2 e) (fu + 1) (i3 6) m1) _
      rw [FX2_startSlot_L2]
      exact hw_some hm
    · intro fu k m1 hk hm hs2
      show hw (FX2_startSlot_L2 45 (i3 slot) (b2 e) (fu + 1) (i3 k) m1) _
      rw [FX2_startSlot_L2]
      simp (disch := omega) only [Nat.reduceAdd, ob_some, mx_letI, mx_chkT, mx_inb_i3, mx_inb_lit, lit_toNat, i3_toNat, i3_le, i3_lt, i3_leL, i3_Lle, i3_ltL, i3_Llt, i3_neg, i3_eq, i3_eqL, i3_ne1, i3_add, i3_addL, i3_Ladd, i3_mul, i3_mulL, i3_Lmul, mx_b01_0, mx_b01_1, b2_01, b2_0, b2_1, se_inl, se_inr, if_true, if_false, e10, e01, e00, e11, em1, em1lt, Nat.not_lt_zero, if_pos, if_neg]
      refine hs2 _ ⟨mx_out_up (mx_out_up hm.1 rfl (Or.inr (Or.inr ⟨Or.inl rfl, by omega, by omega⟩))) rfl (Or.inr (Or.inr ⟨Or.inr rfl, by omega, by omega⟩)), fun j hj => ?_⟩
      by_cases c : j = k
      · subst c
        refine ⟨?_, ?_⟩
        · show mx_up (mx_up m1.1 60 (slot * 6 + j) 0) 61 (slot * 6 + j) (-1) 60 (slot * 6 + j) = _
          rw [up_off _ (by omega), mx_up_self]; rfl
        · exact mx_up_self (mx_up m1.1 60 (slot * 6 + j) 0) 61 (slot * 6 + j) (-1)
      · have := hm.2 j (by omega)
        refine ⟨?_, ?_⟩
        · show mx_up (mx_up m1.1 60 (slot * 6 + k) 0) 61 (slot * 6 + k) (-1) 60 (slot * 6 + j) = _
          rw [up_off _ (by omega), up_at, if_neg (by omega)]; exact this.1
        · show mx_up (mx_up m1.1 60 (slot * 6 + k) 0) 61 (slot * 6 + k) (-1) 61 (slot * 6 + j) = _
          rw [up_at, if_neg (by omega), up_off _ (by omega)]; exact this.2
  obtain ⟨m1, e1, z1, A1⟩ := key
  have zm : (-1 : Int32) = z3 (-1) := rfl
  have z0 : (0 : Int32) = z3 0 := rfl
  unfold FX2_startSlot
  show ∃ m9, Option.bind (FX2_startSlot_L2 45 (i3 slot) (b2 e) mx_FU (i3 0) m) _ = some m9 ∧ _
  rw [e1, ob_some, mx_inb_i3 hs (by omega), mx_chkT, i3_toNat (by omega), mx_letI, mx_letI]
  cases e with
  | false =>
    rw [if_pos (show b2 false = 0 from rfl)]
    refine ⟨_, rfl, ⟨⟨-1, -1, ?_, ?_, Or.inl ⟨rfl, rfl, rfl⟩⟩, fun j hj => ⟨?_, -1, ?_, Or.inl ⟨rfl, by simp⟩⟩⟩, mx_out_up (mx_out_up z1 rfl (Or.inl ⟨rfl, rfl⟩)) rfl (Or.inr (Or.inl ⟨rfl, rfl⟩))⟩
    · show mx_up (mx_up m1.1 58 slot (-1)) 59 slot (-1) 58 slot = _
      rw [up_off _ (by omega), mx_up_self]; rfl
    · exact mx_up_self (mx_up m1.1 58 slot (-1)) 59 slot (-1)
    · show mx_up (mx_up m1.1 58 slot (-1)) 59 slot (-1) 60 (slot * 6 + j) = _
      rw [up_off _ (by omega), up_off _ (by omega)]; exact (A1 j hj).1
    · show mx_up (mx_up m1.1 58 slot (-1)) 59 slot (-1) 61 (slot * 6 + j) = _
      rw [up_off _ (by omega), up_off _ (by omega)]; exact (A1 j hj).2
  | true =>
    rw [if_neg (show ¬ b2 true = 0 from by decide), i3_mulL]
    show ∃ m9, mx_chk (mx_inb (i3 (slot * 6)) 864) _ = some m9 ∧ _
    rw [mx_inb_i3 (by omega) (by omega), mx_chkT, i3_toNat (by omega)]
    simp only [mx_letI]
    refine ⟨_, rfl, ⟨⟨0, -1, ?_, ?_, Or.inr ⟨⟨(0, 0), by simp, rfl⟩, by simp, Or.inl ⟨rfl, by simp⟩⟩⟩, fun j hj => ?_⟩, ?_⟩
    · exact mx_up_self _ 58 slot 0
    · show mx_up (mx_up (mx_up (mx_up (mx_up m1.1 58 slot (-1)) 59 slot (-1)) 60 (slot * 6) 1) 61 (slot * 6) 0) 58 slot 0 59 slot = _
      rw [up_off _ (by omega), up_off _ (by omega), up_off _ (by omega), mx_up_self]; rfl
    · have r60 : (mx_up (mx_up (mx_up (mx_up (mx_up m1.1 58 slot (-1)) 59 slot (-1)) 60 (slot * 6) 1) 61 (slot * 6) 0) 58 slot 0) 60 (slot * 6 + j) = if slot * 6 + j = slot * 6 then 1 else m1.1 60 (slot * 6 + j) := by
        rw [up_off _ (by omega), up_off _ (by omega), up_at, up_off _ (by omega), up_off _ (by omega)]
      have r61 : (mx_up (mx_up (mx_up (mx_up (mx_up m1.1 58 slot (-1)) 59 slot (-1)) 60 (slot * 6) 1) 61 (slot * 6) 0) 58 slot 0) 61 (slot * 6 + j) = if slot * 6 + j = slot * 6 then 0 else m1.1 61 (slot * 6 + j) := by
        rw [up_off _ (by omega), up_at, up_off _ (by omega), up_off _ (by omega), up_off _ (by omega)]
      by_cases c : j = 0
      · subst c
        rw [if_pos (by omega)] at r60 r61
        exact ⟨r60, 0, r61, Or.inr ⟨(0, 0), by simp, rfl, rfl, by simp⟩⟩
      · rw [if_neg (by omega)] at r60 r61
        refine ⟨r60.trans ?_, -1, r61.trans ((A1 j hj).2.trans rfl), Or.inl ⟨rfl, by simp; omega⟩⟩
        rw [(A1 j hj).1]
        have : wy [(0, 0)] j = 0 := by
          have hne : ¬ 0 = j := fun q => c q.symm
          simp [wy, hne]
        simp only [if_true, this]
    · exact mx_out_up (mx_out_up (mx_out_up (mx_out_up (mx_out_up z1 rfl (Or.inl ⟨rfl, rfl⟩)) rfl (Or.inr (Or.inl ⟨rfl, rfl⟩))) rfl (Or.inr (Or.inr ⟨Or.inl rfl, by omega, by omega⟩))) rfl (Or.inr (Or.inr ⟨Or.inr rfl, by omega, by omega⟩))) rfl (Or.inl ⟨rfl, rfl⟩)
end MEMO
