/-! ===== a sentence is read: parts and nodes ===== -/
section SENA
variable {c c' d d' : mB} {n lim p L o w P : Nat} {t : Nat → Nat}
def Rn (d : mB) : Rw := fun x => if x < 192 then d.1 224 x else d.1 248 (x - 192)
/-- so many parts stand, and so many ones -/
def SX (c d : mB) (L o w : Nat) : Prop := c.1 179 4 = i3 L ∧ c.1 179 5 = i3 o ∧ d.1 222 58 = i3 L ∧ d.1 222 59 = i3 o ∧ d.1 222 60 = i3 w ∧ o ≤ 20 ∧ L + (stk (cdf (c.1 180)) L).length ≤ 2 * o ∧ ∀ i, i < L → SYP (c.1 180) (c.1 181) (c.1 182) (Rn d) i
def SB1 (L : Nat) : Nat → Nat → Prop := fun b j => U1 b j ∨ (b = 179 ∧ (j = 4 ∨ j = 5)) ∨ (180 ≤ b ∧ b ≤ 182 ∧ L ≤ j)
def SB2 (L : Nat) : Nat → Nat → Prop := fun b j => U2 b j ∨ (b = 222 ∧ 58 ≤ j ∧ j ≤ 61) ∨ (b = 248 ∧ 4 * L ≤ j)
def OS (c d : mB) (n lim : Nat) (t : Nat → Nat) (L o w : Nat) (r s : Int32 × mB) : Prop :=
  (∃ p' L' o', r.1 = 1 ∧ s.1 = 1 ∧ PR r.2 s.2 n lim t p' ∧ SX r.2 s.2 L' o' w ∧ L < L' ∧ o < o' ∧ stk (cdf (r.2.1 180)) L' = (L' - 1) :: stk (cdf (c.1 180)) L ∧ s.2.1 222 61 = i3 (L' - 1) ∧ L' + 1 + 2 * o ≤ L + 2 * o' ∧ mx_out (SB1 L) c r.2 ∧ mx_out (SB2 L) d s.2) ∨
  (r.1 = 0 ∧ s.1 = 0 ∧ FL r.2 s.2 ∧ mx_out (SB1 L) c r.2 ∧ mx_out (SB2 L) d s.2)
theorem cdf_cg {A A' : Nat → Int32} {i : Nat} (h : A' i = A i) : cdf A' i = cdf A i := by unfold cdf; rw [h]
theorem stk_cg {A A' : Nat → Int32} {k : Nat} (h : ∀ i, i < k → A' i = A i) : stk (cdf A') k = stk (cdf A) k := stk_congr (fun i hi => cdf_cg (h i hi))
theorem SB1_mono {L L' : Nat} (h : L ≤ L') (z : mx_out (SB1 L') c c') : mx_out (SB1 L) c c' := z.sub (fun b j q => by
  rcases q with q | q | q
  · exact Or.inl q
  · exact Or.inr (Or.inl q)
  · exact Or.inr (Or.inr (by omega)))
theorem SB2_mono {L L' : Nat} (h : L ≤ L') (z : mx_out (SB2 L') d d') : mx_out (SB2 L) d d' := z.sub (fun b j q => by
  rcases q with q | q | q
  · exact Or.inl q
  · exact Or.inr (Or.inl q)
  · exact Or.inr (Or.inr (by omega)))
theorem NmB_SB (h : NmB P c d) (zc : mx_out (SB1 L) c c') (zd : mx_out (SB2 L) d d') : NmB P c' d' := NmB_mv h zc zd (fun b j q => by unfold SB1 U1 at q; omega) (fun b j q => by unfold SB2 U2 at q; omega)
theorem SYP_mv {A B W A' B' W' : Nat → Int32} {R R' : Rw} {i : Nat} (h : SYP A B W R i) (hA : ∀ j, j ≤ i → A' j = A j) (hB : B' i = B i) (hW : W' i = W i) (h0 : R' 0 = R 0) (hR : ∀ x, 192 + 4 * i ≤ x → x < 196 + 4 * i → R' x = R x) : SYP A' B' W' R' i := by
  have hP : nP R' = nP R := by unfold nP; rw [h0]
  unfold SYP at h ⊢
  rw [hA i (Nat.le_refl _), hB, hW, hP, hR _ (by omega) (by omega), hR _ (by omega) (by omega), hR _ (by omega) (by omega), hR _ (by omega) (by omega), stk_cg (fun j hj => hA j (by omega))]
  exact h
theorem Rn_mv (zd : mx_out (SB2 L) d d') {i : Nat} (hi : i < L) : Rn d' 0 = Rn d 0 ∧ ∀ x, 192 + 4 * i ≤ x → x < 196 + 4 * i → Rn d' x = Rn d x := by
  unfold Rn
  refine ⟨?_, fun x h1 h2 => ?_⟩
  · rw [if_pos (by omega), if_pos (by omega), zd.fld 224 0 (by unfold SB2 U2; omega)]
  · rw [if_neg (by omega), if_neg (by omega), zd.fld 248 _ (by unfold SB2 U2; omega)]
/-- what stood goes on to stand -/
theorem SYP_SB {i : Nat} (h : SYP (c.1 180) (c.1 181) (c.1 182) (Rn d) i) (hi : i < L) (zc : mx_out (SB1 L) c c') (zd : mx_out (SB2 L) d d') : SYP (c'.1 180) (c'.1 181) (c'.1 182) (Rn d') i :=
  SYP_mv h (fun j hj => zc.fld 180 j (by unfold SB1 U1; omega)) (zc.fld 181 i (by unfold SB1 U1; omega)) (zc.fld 182 i (by unfold SB1 U1; omega)) (Rn_mv zd hi).1 (Rn_mv zd hi).2
theorem stk_SB (zc : mx_out (SB1 L) c c') : stk (cdf (c'.1 180)) L = stk (cdf (c.1 180)) L := stk_cg (fun j hj => zc.fld 180 j (by unfold SB1 U1; omega))
/-- a step that reads but puts nothing -/
theorem SX_U (h : SX c d L o w) (zc : mx_out U1 c c') (zd : mx_out U2 d d') : SX c' d' L o w := by
  obtain ⟨h1, h2, h3, h4, h5, h6, h7, h8⟩ := h
  have zc' : mx_out (SB1 L) c c' := zc.sub (fun b j q => Or.inl q)
  have zd' : mx_out (SB2 L) d d' := zd.sub (fun b j q => Or.inl q)
  exact ⟨by rw [zc.fld 179 4 (by unfold U1; omega)]; exact h1, by rw [zc.fld 179 5 (by unfold U1; omega)]; exact h2, by rw [zd.fld 222 58 (by unfold U2; omega)]; exact h3, by rw [zd.fld 222 59 (by unfold U2; omega)]; exact h4, by rw [zd.fld 222 60 (by unfold U2; omega)]; exact h5, h6, by rw [stk_SB zc']; exact h7, fun i hi => SYP_SB (h8 i hi) hi zc' zd'⟩
/-- a part is put -/
theorem S_put (h1 : c.1 179 4 = i3 L) (h2 : d.1 222 58 = i3 L) (hL : L < 40) (x0 x1 x2 y0 y1 y2 y3 : Int32) : ∃ c' d', FX8_put 179 x0 x1 x2 c = some (1, c') ∧ FX12_saysOne 222 y0 y1 y2 y3 d = some (i3 L, d') ∧ c'.1 179 4 = i3 (L + 1) ∧ d'.1 222 58 = i3 (L + 1) ∧ c'.1 180 L = x0 ∧ c'.1 181 L = x1 ∧ c'.1 182 L = x2 ∧ d'.1 248 (4 * L) = y0 ∧ d'.1 248 (4 * L + 1) = y1 ∧ d'.1 248 (4 * L + 2) = y2 ∧ d'.1 248 (4 * L + 3) = y3 ∧ mx_out (fun b j => (b = 179 ∧ j = 4) ∨ (180 ≤ b ∧ b ≤ 182 ∧ j = L)) c c' ∧ mx_out (fun b j => (b = 222 ∧ j = 58) ∨ (b = 248 ∧ 4 * L ≤ j ∧ j ≤ 4 * L + 3)) d d' := by
  have zc : mx_out (fun b j => (b = 179 ∧ j = 4) ∨ (180 ≤ b ∧ b ≤ 182 ∧ j = L)) c (mx_up (mx_up (mx_up (mx_up c.1 180 L x0) 181 L x1) 182 L x2) 179 4 (i3 (L + 1)), c.2) := mx_out_up (mx_out_up (mx_out_up (mx_out_up mx_out.rf rfl (by omega)) rfl (by omega)) rfl (by omega)) rfl (by omega)
  have zd : mx_out (fun b j => (b = 222 ∧ j = 58) ∨ (b = 248 ∧ 4 * L ≤ j ∧ j ≤ 4 * L + 3)) d (mx_up (mx_up (mx_up (mx_up (mx_up d.1 248 (4 * L) y0) 248 (4 * L + 1) y1) 248 (4 * L + 2) y2) 248 (4 * L + 3) y3) 222 58 (i3 (L + 1)), d.2) := mx_out_up (mx_out_up (mx_out_up (mx_out_up (mx_out_up mx_out.rf rfl (by omega)) rfl (by omega)) rfl (by omega)) rfl (by omega)) rfl (by omega)
  refine ⟨_, _, ?_, ?_, mx_up_self (mx_up (mx_up (mx_up c.1 180 L x0) 181 L x1) 182 L x2) 179 4 (i3 (L + 1)), mx_up_self (mx_up (mx_up (mx_up (mx_up d.1 248 (4 * L) y0) 248 (4 * L + 1) y1) 248 (4 * L + 2) y2) 248 (4 * L + 3) y3) 222 58 (i3 (L + 1)), ?_, ?_, ?_, ?_, ?_, ?_, ?_, zc, zd⟩
  · unfold FX8_put
    have e3 : mx_up c.1 180 L x0 179 4 = i3 L := by rw [up_off _ (by omega)]; exact h1
    have e5 : mx_up (mx_up c.1 180 L x0) 181 L x1 179 4 = i3 L := by rw [up_off _ (by omega)]; exact e3
    have e7 : mx_up (mx_up (mx_up c.1 180 L x0) 181 L x1) 182 L x2 179 4 = i3 L := by rw [up_off _ (by omega)]; exact e5
    rw [h1, if_neg (i3_ge0 (by omega)), if_pos (by show i3 L < i3 40; rw [i3_lt (by omega) (by omega)]; exact hL), mx_inb_i3 (by omega) (by omega), mx_chkT, mx_letI, i3_toNat (by omega)]
    show mx_chk (mx_inb (mx_up c.1 180 L x0 179 4) 40) (mx_let (mx_up (mx_up c.1 180 L x0) 181 (Int32.toNatClampNeg (mx_up c.1 180 L x0 179 4)) x1, c.2) _) = _
    rw [e3, mx_inb_i3 (by omega) (by omega), mx_chkT, mx_letI, i3_toNat (by omega)]
    show mx_chk (mx_inb (mx_up (mx_up c.1 180 L x0) 181 L x1 179 4) 40) (mx_let (mx_up (mx_up (mx_up c.1 180 L x0) 181 L x1) 182 (Int32.toNatClampNeg (mx_up (mx_up c.1 180 L x0) 181 L x1 179 4)) x2, c.2) _) = _
    rw [e5, mx_inb_i3 (by omega) (by omega), mx_chkT, mx_letI, i3_toNat (by omega), mx_letI]
    show some ((1 : Int32), (mx_up (mx_up (mx_up (mx_up c.1 180 L x0) 181 L x1) 182 L x2) 179 4 (mx_up (mx_up (mx_up c.1 180 L x0) 181 L x1) 182 L x2 179 4 + 1), c.2)) = _
    rw [e7, i3_succ]
  · unfold FX12_saysOne
    have e8 : mx_up (mx_up (mx_up (mx_up d.1 248 (4 * L) y0) 248 (4 * L + 1) y1) 248 (4 * L + 2) y2) 248 (4 * L + 3) y3 222 58 = i3 L := by rw [up_off _ (by omega), up_off _ (by omega), up_off _ (by omega), up_off _ (by omega)]; exact h2
    rw [h2, mx_letI, i3_Lmul, mx_inb_i3 (by omega) (by omega), mx_chkT, mx_letI, i3_succ, mx_inb_i3 (by omega) (by omega), mx_chkT, mx_letI, i3_addL, mx_inb_i3 (by omega) (by omega), mx_chkT, mx_letI, i3_addL, mx_inb_i3 (by omega) (by omega), mx_chkT, mx_letI, i3_toNat (by omega), i3_toNat (by omega), i3_toNat (by omega), i3_toNat (by omega), mx_letI]
    show some (mx_up (mx_up (mx_up (mx_up (mx_up d.1 248 (4 * L) y0) 248 (4 * L + 1) y1) 248 (4 * L + 2) y2) 248 (4 * L + 3) y3) 222 58 (mx_up (mx_up (mx_up (mx_up d.1 248 (4 * L) y0) 248 (4 * L + 1) y1) 248 (4 * L + 2) y2) 248 (4 * L + 3) y3 222 58 + 1) 222 58 - 1, (mx_up (mx_up (mx_up (mx_up (mx_up d.1 248 (4 * L) y0) 248 (4 * L + 1) y1) 248 (4 * L + 2) y2) 248 (4 * L + 3) y3) 222 58 (mx_up (mx_up (mx_up (mx_up d.1 248 (4 * L) y0) 248 (4 * L + 1) y1) 248 (4 * L + 2) y2) 248 (4 * L + 3) y3 222 58 + 1), d.2)) = _
    rw [e8, i3_succ, mx_up_self, i3_m1]
  · show mx_up (mx_up (mx_up (mx_up c.1 180 L x0) 181 L x1) 182 L x2) 179 4 (i3 (L + 1)) 180 L = _
    rw [up_off _ (by omega), up_off _ (by omega), up_off _ (by omega), mx_up_self]
  · show mx_up (mx_up (mx_up (mx_up c.1 180 L x0) 181 L x1) 182 L x2) 179 4 (i3 (L + 1)) 181 L = _
    rw [up_off _ (by omega), up_off _ (by omega), mx_up_self]
  · show mx_up (mx_up (mx_up (mx_up c.1 180 L x0) 181 L x1) 182 L x2) 179 4 (i3 (L + 1)) 182 L = _
    rw [up_off _ (by omega), mx_up_self]
  · show mx_up (mx_up (mx_up (mx_up (mx_up d.1 248 (4 * L) y0) 248 (4 * L + 1) y1) 248 (4 * L + 2) y2) 248 (4 * L + 3) y3) 222 58 (i3 (L + 1)) 248 (4 * L) = _
    rw [up_off _ (by omega), up_at, if_neg (by omega), up_at, if_neg (by omega), up_at, if_neg (by omega), mx_up_self]
  · show mx_up (mx_up (mx_up (mx_up (mx_up d.1 248 (4 * L) y0) 248 (4 * L + 1) y1) 248 (4 * L + 2) y2) 248 (4 * L + 3) y3) 222 58 (i3 (L + 1)) 248 (4 * L + 1) = _
    rw [up_off _ (by omega), up_at, if_neg (by omega), up_at, if_neg (by omega), mx_up_self]
  · show mx_up (mx_up (mx_up (mx_up (mx_up d.1 248 (4 * L) y0) 248 (4 * L + 1) y1) 248 (4 * L + 2) y2) 248 (4 * L + 3) y3) 222 58 (i3 (L + 1)) 248 (4 * L + 2) = _
    rw [up_off _ (by omega), up_at, if_neg (by omega), mx_up_self]
  · show mx_up (mx_up (mx_up (mx_up (mx_up d.1 248 (4 * L) y0) 248 (4 * L + 1) y1) 248 (4 * L + 2) y2) 248 (4 * L + 3) y3) 222 58 (i3 (L + 1)) 248 (4 * L + 3) = _
    rw [up_off _ (by omega), mx_up_self]
def PZ1 (L : Nat) : Nat → Nat → Prop := fun b j => (b = 179 ∧ j = 4) ∨ (180 ≤ b ∧ b ≤ 182 ∧ j = L)
def PZ2 (L : Nat) : Nat → Nat → Prop := fun b j => (b = 222 ∧ j = 58) ∨ (b = 248 ∧ 4 * L ≤ j ∧ j ≤ 4 * L + 3)
theorem PZ1_SB (z : mx_out (PZ1 L) c c') : mx_out (SB1 L) c c' := z.sub (fun b j q => by unfold PZ1 at q; unfold SB1; omega)
theorem PZ2_SB (z : mx_out (PZ2 L) d d') : mx_out (SB2 L) d d' := z.sub (fun b j q => by unfold PZ2 at q; unfold SB2; omega)
theorem SX_put (h : SX c d L o w) (hc : c'.1 179 4 = i3 (L + 1)) (hd : d'.1 222 58 = i3 (L + 1)) (zc : mx_out (PZ1 L) c c') (zd : mx_out (PZ2 L) d d') (hn : SYP (c'.1 180) (c'.1 181) (c'.1 182) (Rn d') L) (hp : L + 1 + (stk (cdf (c'.1 180)) (L + 1)).length ≤ 2 * o) : SX c' d' (L + 1) o w := by
  obtain ⟨h1, h2, h3, h4, h5, h6, h7, h8⟩ := h
  refine ⟨hc, by rw [zc.fld 179 5 (by unfold PZ1; omega)]; exact h2, hd, by rw [zd.fld 222 59 (by unfold PZ2; omega)]; exact h4, by rw [zd.fld 222 60 (by unfold PZ2; omega)]; exact h5, h6, hp, fun i hi => ?_⟩
  by_cases q : i = L
  · subst q; exact hn
  · exact SYP_SB (h8 i (by omega)) (by omega) (PZ1_SB zc) (PZ2_SB zd)
theorem Rn_hi {d : mB} (x : Nat) : Rn d (192 + x) = d.1 248 x := by
  unfold Rn
  rw [if_neg (by omega), Nat.add_sub_cancel_left]
theorem nP_Rn (hN : NmB P c d) : nP (Rn d) = P := by
  unfold nP Rn
  rw [if_pos (by omega), hN.2.2.1, i3_toNat (by have := hN.1; omega)]
end SENA
