/-! ===== operations: image, restore ===== -/
section OPJ
variable {c c' d d' : mB}
theorem stk_congr {f f' : Nat → Nat} : ∀ {k : Nat}, (∀ i, i < k → f i = f' i) → stk f k = stk f' k := by
  intro k
  induction k with
  | zero => intro _; rfl
  | succ k ih =>
    intro h
    rw [stk, stk, ih (fun i hi => h i (by omega)), h k (by omega)]
/-- a saying that is copied -/
theorem SYa_cp {a a' : Nat} {R R' : Rw} (h : SYa c a R) (h6 : c'.1 a' 6 = c.1 a 6) (h4 : c'.1 a' 4 = c.1 a 4) (h1 : ∀ j, j < 40 → c'.1 (a' + 1) j = c.1 (a + 1) j) (h2 : ∀ j, j < 40 → c'.1 (a' + 2) j = c.1 (a + 2) j) (h3 : ∀ j, j < 40 → c'.1 (a' + 3) j = c.1 (a + 3) j) (h0 : R' 0 = R 0) (hR : ∀ x, 190 ≤ x → x < 432 → R' x = R x) : SYa c' a' R' := by
  unfold SYa
  rw [h6, h4, hR 190 (by omega) (by omega), hR 191 (by omega) (by omega)]
  rcases h with h | ⟨e1, e2, k, tp, e3, e4, e5, e6, e7⟩
  · exact Or.inl h
  · have hP : nP R' = nP R := by unfold nP; rw [h0]
    have hs : ∀ i, i ≤ k → stk (cdf (c'.1 (a' + 1))) i = stk (cdf (c.1 (a + 1))) i := fun i hi => stk_congr (fun j hj => by unfold cdf; rw [h1 j (by omega)])
    refine Or.inr ⟨e1, e2, k, tp, e3, e4, e5, by rw [hs k (Nat.le_refl _)]; exact e6, fun i hi => ?_⟩
    have := e7 i hi
    unfold SYP at this ⊢
    rw [hR _ (by omega) (by omega), hR _ (by omega) (by omega), hR _ (by omega) (by omega), hR _ (by omega) (by omega), hP, hs i (by omega), h1 i (by omega), h2 i (by omega), h3 i (by omega)]
    exact this
theorem C_sayCopy {a p0 : Nat} (hap : p0 + 5 ≤ a ∨ a + 5 ≤ p0) (hb1 : c.1 p0 6 = 0 ∨ c.1 p0 6 = 1) : ∃ c1, FX8_copyFrom a p0 c = some c1 ∧ c1.1 a 6 = c.1 p0 6 ∧ c1.1 a 4 = c.1 p0 4 ∧ (∀ j, j < 40 → c1.1 (a + 1) j = c.1 (p0 + 1) j) ∧ (∀ j, j < 40 → c1.1 (a + 2) j = c.1 (p0 + 2) j) ∧ (∀ j, j < 40 → c1.1 (a + 3) j = c.1 (p0 + 3) j) ∧ mx_out (fun b j => (b = a ∧ (j = 4 ∨ j = 5 ∨ j = 6)) ∨ (a + 1 ≤ b ∧ b ≤ a + 3)) c c1 := by
  have e6 : mx_up (mx_up c.1 a 4 (c.1 p0 4)) a 5 (mx_up c.1 a 4 (c.1 p0 4) p0 5) p0 6 = c.1 p0 6 := by rw [up_off _ (by omega), up_off _ (by omega)]
  have eF : FX8_copyFrom a p0 c = some (mx_cp (mx_cp (mx_cp (mx_up (mx_up (mx_up c.1 a 4 (c.1 p0 4)) a 5 (mx_up c.1 a 4 (c.1 p0 4) p0 5)) a 6 (c.1 p0 6)) (p0 + 1) (a + 1) 40) (p0 + 2) (a + 2) 40) (p0 + 3) (a + 3) 40, c.2) := by
    unfold FX8_copyFrom
    rw [mx_letI, mx_letI]
    dsimp only
    rw [e6, mx_chkI _ (by rcases hb1 with q | q <;> rw [q] <;> decide)]
    rfl
  have z := ZX8_copyFrom eF
  refine ⟨_, eF, ?_, ?_, fun j hj => ?_, fun j hj => ?_, fun j hj => ?_, z.sub (fun b j q => by unfold WSX8_copyFrom at q; omega)⟩
  · dsimp only
    rw [cp_off _ (by omega), cp_off _ (by omega), cp_off _ (by omega), mx_up_self]
  · dsimp only
    rw [cp_off _ (by omega), cp_off _ (by omega), cp_off _ (by omega), up_at, if_neg (by omega), up_at, if_neg (by omega), mx_up_self]
  · dsimp only
    rw [cp_off _ (by omega), cp_off _ (by omega), cp_at, if_pos hj, up_off _ (by omega), up_off _ (by omega), up_off _ (by omega)]
  · dsimp only
    rw [cp_off _ (by omega), cp_at, if_pos hj, cp_off _ (by omega), up_off _ (by omega), up_off _ (by omega), up_off _ (by omega)]
  · dsimp only
    rw [cp_at, if_pos hj, cp_off _ (by omega), cp_off _ (by omega), up_off _ (by omega), up_off _ (by omega), up_off _ (by omega)]
theorem SYa_b {a : Nat} {R : Rw} (h : SYa c a R) : c.1 a 6 = 0 ∨ c.1 a 6 = 1 := by
  rcases h with h | h
  · exact Or.inl h.1
  · exact Or.inr h.1
theorem M_keep {x : Nat} (hx : x < 2) (d : mB) : ∃ d1 d2, FX12_image_L18 222 (i3 x) mx_FU (i3 0) d = some d1 ∧ FX12_image_L51 222 (i3 x) mx_FU (i3 0) d1 = some d2 ∧ (∀ j, d2.1 226 j = if 432 * x ≤ j ∧ j < 432 * x + 432 then d.1 224 (j - 432 * x) else d.1 226 j) ∧ (∀ j, d2.2 232 j = if 10 * x ≤ j ∧ j < 10 * x + 10 then d.2 230 (j - 10 * x) else d.2 232 j) ∧ mx_out (fun b _ => b = 226 ∨ b = 232) d d2 := by
  have k1 : hw (FX12_image_L18 222 (i3 x) mx_FU (i3 0) d) (fun m => mx_out (fun b _ => b = 226) d m ∧ ∀ j, m.1 226 j = if 432 * x ≤ j ∧ j < 432 * x + 432 then d.1 224 (j - 432 * x) else d.1 226 j) := by
    refine lp_inv (L := fun fu y m => FX12_image_L18 222 (i3 x) fu y m) (n := 432) (fun k m => mx_out (fun b _ => b = 226) d m ∧ ∀ j, m.1 226 j = if 432 * x ≤ j ∧ j < 432 * x + k then d.1 224 (j - 432 * x) else d.1 226 j) ?_ ?_ 0 mx_FU _ (by omega) (FU_lt (by omega)) ⟨mx_out.rf, fun j => by rw [if_neg (by omega)]⟩
    · intro fu m hI
      show hw (FX12_image_L18 222 (i3 x) (fu + 1) (i3 432) m) _
      rw [FX12_image_L18]
      exact hw_some hI
    · intro fu k m hk hI hs
      show hw (FX12_image_L18 222 (i3 x) (fu + 1) (i3 k) m) _
      rw [FX12_image_L18]
      simp (disch := omega) only [Nat.reduceAdd, ob_some, mx_letI, mx_chkT, mx_inb_i3, mx_inb_lit, lit_toNat, i3_toNat, i3_le, i3_lt, i3_leL, i3_Lle, i3_ltL, i3_Llt, i3_neg, i3_eq, i3_eqL, i3_ne1, i3_add, i3_addL, i3_Ladd, i3_mul, i3_mulL, i3_Lmul, mx_b01_0, mx_b01_1, b2_01, b2_0, b2_1, se_inl, se_inr, if_true, if_false, e10, e01, e00, e11, em1, em1lt, Nat.not_lt_zero, if_pos, if_neg]
      refine hs _ ⟨mx_out_up hI.1 rfl rfl, fun j => ?_⟩
      show mx_up m.1 226 (432 * x + k) (m.1 224 k) 226 j = _
      rw [up_at, hI.1.cell 224 (fun j => by omega)]
      by_cases q : j = 432 * x + k
      · rw [if_pos q, if_pos (by omega), show j - 432 * x = k by omega]
      · rw [if_neg q, hI.2 j]
        by_cases q2 : 432 * x ≤ j ∧ j < 432 * x + k
        · rw [if_pos q2, if_pos (by omega)]
        · rw [if_neg q2, if_neg (by omega)]
  obtain ⟨d1, e1, z1, v1⟩ := k1
  have k2 : hw (FX12_image_L51 222 (i3 x) mx_FU (i3 0) d1) (fun m => mx_out (fun b _ => b = 232) d1 m ∧ ∀ j, m.2 232 j = if 10 * x ≤ j ∧ j < 10 * x + 10 then d1.2 230 (j - 10 * x) else d1.2 232 j) := by
    refine lp_inv (L := fun fu y m => FX12_image_L51 222 (i3 x) fu y m) (n := 10) (fun k m => mx_out (fun b _ => b = 232) d1 m ∧ ∀ j, m.2 232 j = if 10 * x ≤ j ∧ j < 10 * x + k then d1.2 230 (j - 10 * x) else d1.2 232 j) ?_ ?_ 0 mx_FU _ (by omega) (FU_lt (by omega)) ⟨mx_out.rf, fun j => by rw [if_neg (by omega)]⟩
    · intro fu m hI
      show hw (FX12_image_L51 222 (i3 x) (fu + 1) (i3 10) m) _
      rw [FX12_image_L51]
      exact hw_some hI
    · intro fu k m hk hI hs
      show hw (FX12_image_L51 222 (i3 x) (fu + 1) (i3 k) m) _
      rw [FX12_image_L51]
      simp (disch := omega) only [Nat.reduceAdd, ob_some, mx_letI, mx_chkT, mx_inb_i3, mx_inb_lit, lit_toNat, i3_toNat, i3_le, i3_lt, i3_leL, i3_Lle, i3_ltL, i3_Llt, i3_neg, i3_eq, i3_eqL, i3_ne1, i3_add, i3_addL, i3_Ladd, i3_mul, i3_mulL, i3_Lmul, mx_b01_0, mx_b01_1, b2_01, b2_0, b2_1, se_inl, se_inr, if_true, if_false, e10, e01, e00, e11, em1, em1lt, Nat.not_lt_zero, if_pos, if_neg]
      refine hs _ ⟨mx_out_ul hI.1 rfl rfl, fun j => ?_⟩
      show mx_ul m.2 232 (10 * x + k) (m.2 230 k) 232 j = _
      rw [ul_at, hI.1.cellL 230 (fun j => by omega)]
      by_cases q : j = 10 * x + k
      · rw [if_pos q, if_pos (by omega), show j - 10 * x = k by omega]
      · rw [if_neg q, hI.2 j]
        by_cases q2 : 10 * x ≤ j ∧ j < 10 * x + k
        · rw [if_pos q2, if_pos (by omega)]
        · rw [if_neg q2, if_neg (by omega)]
  obtain ⟨d2, e2, z2, v2⟩ := k2
  refine ⟨d1, d2, e1, e2, fun j => ?_, fun j => ?_, mx_out.tr (z1.sub (fun b j q => Or.inl q)) (z2.sub (fun b j q => Or.inr q))⟩
  · rw [z2.cell 226 (fun j => by omega)]; exact v1 j
  · rw [v2 j, z1.cellL 230 (fun j => by omega), z1.cellL 232 (fun j => by omega)]
theorem O_image (h : RR c d) (x : Int32) : Sm (FX11_image 0 x c) (FX12_image 222 x d) := by
  have h0 := th0 h 0
  unfold FX12_image
  rw [mx_letI]
  generalize (mx_up d.1 222 0 0, d.2) = d0 at h0 ⊢
  unfold FX11_image FX6_take
  show Sm _ (Option.bind (FX12_isIn x (i3 0) (i3 1) d0) _)
  rcases M_in (x := x) (lo := 0) (hi := 1) (by omega) (by omega) d0 with ⟨w, rfl, w1, w2, e⟩ | ⟨w1, e⟩
  · rw [e, ob_some, if_neg (show ¬ (1 : Int32) = 0 by decide), if_neg (i3_ge0 (by omega)), if_neg (by show ¬ i3 2 ≤ i3 w; rw [i3_le (by omega) (by omega)]; omega), mx_inb_i3 (by omega) (by omega), mx_chkT, i3_toNat (by omega)]
    have hNE := h0.2.2.1
    have hSY := h0.2.2.2.2.2.2.2.2.2.2.2.1
    have hPI := h0.2.2.2.2.2.2.2.2.2.2.2.2.1
    obtain ⟨c1, e1, n1, l1⟩ := C_copyFrom (a := 189 + 17 * w) hNE.1 (by omega)
    have z1 := ZX4_copyFrom e1
    have hb1 : c1.1 174 6 = 0 ∨ c1.1 174 6 = 1 := by rw [z1.fld 174 6 (by unfold WSX4_copyFrom; omega)]; exact SYa_b hSY
    obtain ⟨c2, e2, s6, s4, s1, s2, s3, z2⟩ := C_sayCopy (c := c1) (a := 200 + 17 * w) (p0 := 174) (by omega) hb1
    obtain ⟨d1, d2, f1, f2, v1, v2, zd⟩ := M_keep (x := w) (by omega) d0
    have z3' : mx_out (fun b j => b = 188 + 17 * w ∧ j = 2) c2 (mx_up c2.1 (188 + 17 * w) 2 1, c2.2) := mx_out_up mx_out.rf rfl ⟨rfl, rfl⟩
    have zd3 : mx_out (fun b j => b = 233 ∧ j = w) d2 (mx_up d2.1 233 w 1, d2.2) := mx_out_up mx_out.rf rfl ⟨rfl, rfl⟩
    show Sm (Option.bind (Option.bind (FX4_copyFrom (0 + 188 + 17 * w + 1) 4 c) _) _) _
    rw [show 0 + 188 + 17 * w + 1 = 189 + 17 * w by omega, e1, ob_some]
    show Sm (Option.bind (Option.bind (FX8_copyFrom (0 + 188 + 17 * w + 12) 174 c1) _) _) _
    rw [show 0 + 188 + 17 * w + 12 = 200 + 17 * w by omega, e2, ob_some, mx_letI, ob_some]
    rw [show 0 + 188 + 17 * w = 188 + 17 * w by omega]
    show Sm _ (Option.bind (FX12_image_L18 222 (i3 w) mx_FU (i3 0) d0) _)
    rw [f1, ob_some]
    show Sm _ (Option.bind (FX12_image_L51 222 (i3 w) mx_FU (i3 0) d1) _)
    rw [f2, ob_some, mx_chkT, mx_letI]
    have zc : mx_out (fun b j => (189 + 17 * w ≤ b ∧ b ≤ 203 + 17 * w) ∨ (b = 188 + 17 * w ∧ j = 2)) c (mx_up c2.1 (188 + 17 * w) 2 1, c2.2) := mx_out.tr (z1.sub (fun b j q => by unfold WSX4_copyFrom at q; omega)) (mx_out.tr (z2.sub (fun b j q => by omega)) (z3'.sub (fun b j q => Or.inr q)))
    have zdA : mx_out (fun b j => b = 226 ∨ b = 232 ∨ (b = 233 ∧ j = w)) d0 (mx_up d2.1 233 w 1, d2.2) := mx_out.tr (zd.sub (fun b j q => by omega)) (zd3.sub (fun b j q => Or.inr (Or.inr q)))
    refine hb_some ⟨rfl, RR_pi h0 (ag_of zc (fun b j q => by omega)) (ag_of zdA (fun b j q => by omega)) (fun i hi => ?_) (RN_mv h0.2.2.2.2.2.2.2.2.2.2.2.2.2 (ag_of zc (fun b j q => by omega)) (ag_of zdA (fun b j q => by omega)))⟩
    by_cases q : i = w
    · subst q
      have e233 : (mx_up d2.1 233 i 1, d2.2).1 233 i = 1 := mx_up_self d2.1 233 i 1
      have epx : ∀ x, x < 432 → pix (mx_up d2.1 233 i 1, d2.2) i x = d0.1 224 x := fun x hx => by
        unfold pix
        rw [zd3.cell 226 (fun j => by omega), v1, if_pos (by omega), show 432 * i + x - 432 * i = x by omega]
      have enm : ∀ p, p < 10 → (mx_up d2.1 233 i 1, d2.2).2 232 (10 * i + p) = d0.2 230 p := fun p hp => by
        rw [zd3.cellL 232 (fun j => by omega), v2, if_pos (by omega), show 10 * i + p - 10 * i = p by omega]
      rw [e233]
      refine ⟨mx_up_self c2.1 (188 + 17 * i) 2 1, Or.inr rfl, fun _ => ⟨⟨Nt_congr (Nt_mem n1 (fun b h1 h2 => ?_)) (fun x hx => epx x (by omega)) (fun x h1 h2 => epx x (by omega)), fun p hp => ?_⟩, SYa_cp (c := c1) (a := 174) (R := d0.1 224) (SYa_mv hSY (ag_of z1 (fun b j q => by unfold WSX4_copyFrom; omega)) rfl (fun _ _ _ => rfl)) ?_ ?_ (fun j hj => ?_) (fun j hj => ?_) (fun j hj => ?_) (epx 0 (by omega)) (fun x h1 h2 => epx x h2)⟩⟩
      · rw [z3'.cell b (fun j => by omega), z2.cell b (fun j => by omega)]
      · have hP : nP (pix (mx_up d2.1 233 i 1, d2.2) i) = nP (d0.1 224) := by unfold nP; rw [epx 0 (by omega)]
        rw [hP] at hp
        have hp10 : p < 10 := by have := hNE.1.1.1.2; omega
        dsimp only
        rw [enm p hp10]
        show nr (c2.2 (189 + 17 * i + 1) p) _
        rw [z2.cellL (189 + 17 * i + 1) (fun j => by omega), l1 p hp10]
        exact hNE.2 p hp
      · rw [z3'.fld _ _ (by omega)]; exact s6
      · rw [z3'.fld _ _ (by omega)]; exact s4
      · rw [z3'.fld _ _ (by omega)]; exact s1 j hj
      · rw [z3'.fld _ _ (by omega)]; exact s2 j hj
      · rw [z3'.fld _ _ (by omega)]; exact s3 j hj
    · obtain ⟨o1, o2, o3⟩ := hPI i hi
      have e233 : (mx_up d2.1 233 w 1, d2.2).1 233 i = d0.1 233 i := zdA.fld 233 i (by omega)
      have epx : ∀ x, x < 432 → pix (mx_up d2.1 233 w 1, d2.2) i x = pix d0 i x := fun x hx => by
        unfold pix
        rw [zd3.cell 226 (fun j => by omega), v1, if_neg (by omega)]
      have enm : ∀ p, p < 10 → (mx_up d2.1 233 w 1, d2.2).2 232 (10 * i + p) = d0.2 232 (10 * i + p) := fun p hp => by
        rw [zd3.cellL 232 (fun j => by omega), v2, if_neg (by omega)]
      rw [e233, zc.fld (188 + 17 * i) 2 (by omega)]
      refine ⟨o1, o2, fun q1 => ⟨⟨Nt_congr (Nt_mem (o3 q1).1.1 (fun b h1 h2 => zc.cell b (fun j => by omega))) (fun x hx => epx x (by omega)) (fun x h1 h2 => epx x (by omega)), fun p hp => ?_⟩, SYa_mv (o3 q1).2 (ag_of zc (fun b j q => by omega)) (epx 0 (by omega)) (fun x h1 h2 => epx x h2)⟩⟩
      have hP : nP (pix (mx_up d2.1 233 w 1, d2.2) i) = nP (pix d0 i) := by unfold nP; rw [epx 0 (by omega)]
      rw [hP] at hp
      have hp10 : p < 10 := by have := (o3 q1).1.1.1.1.2; omega
      dsimp only
      rw [enm p hp10]
      have := (o3 q1).1.2 p hp
      rw [zc.cellL _ (fun j => by omega)]
      exact this
  · rw [e, ob_some, if_pos rfl]
    rcases w1 with q | q
    · have q' : x < 0 := q
      rw [if_pos q']; exact hb_some ⟨rfl, h0⟩
    · by_cases q0 : x < 0
      · rw [if_pos q0]; exact hb_some ⟨rfl, h0⟩
      · obtain ⟨k, rfl, hk⟩ := i3_of q0
        rw [i3_lt (by omega) hk] at q
        rw [if_neg q0, if_pos (by show i3 2 ≤ i3 k; rw [i3_le (by omega) hk]; omega)]
        exact hb_some ⟨rfl, h0⟩
end OPJ
