/-! ===== operation: sentence ===== -/
section SENS
variable {c c' d d' : mB} {n lim p L o w P : Nat} {t : Nat → Nat}
theorem S_ends (h : PR c d n lim t p) : (FX10_endsHere 1 c = some (1, c) ∧ d.1 222 7 = 0) ∨ (d.1 222 7 ≠ 0 ∧ ∃ c' d', FX10_endsHere 1 c = some (0, c') ∧ FX12_bad 222 1 d = some (0, d') ∧ RF c d c' d') := by
  by_cases h6 : c.1 1 6 = 0
  · rcases PR_ends h h6 with q | ⟨q, r⟩
    · exact Or.inl q
    · exact Or.inr ⟨by rw [q]; decide, r⟩
  · right
    obtain ⟨c', d', e1, e2, q⟩ := PR_no h (x := 1) (fun _ => rfl)
    refine ⟨fun h7 => ?_, c', d', ?_, e2, q⟩
    · rcases PR_view h with ⟨⟨q1, -⟩, -⟩ | ⟨-, ⟨-, q⟩ | ⟨i, -, -, q, -⟩ | ⟨w, -, -, -, -, q, -⟩ | ⟨v, -, -, -, q, -⟩ | ⟨v, -, -, q, -⟩⟩
      · exact h6 q1
      all_goals
        rw [h7] at q
        exact absurd q (by decide)
    · unfold FX10_endsHere
      rw [mx_letI, if_neg h6, e1, ob_some, if_pos rfl]
theorem M_scopy : ∀ (f y : Nat) (m : mB), y ≤ 240 → 240 - y < f → ∃ m', FX12_sentence_L79 222 f (i3 y) m = some m' ∧ (∀ x, y ≤ x → x < 240 → m'.1 224 (192 + x) = m.1 248 x) ∧ mx_out (fun b j => b = 224 ∧ 192 + y ≤ j ∧ j < 432) m m' := by
  intro f
  induction f with
  | zero => intro y m _ h; omega
  | succ f ih =>
    intro y m hy hf
    rw [FX12_sentence_L79]
    by_cases e : y = 240
    · subst e
      rw [if_pos (show 240 ≤ i3 240 by decide)]
      exact ⟨m, rfl, fun x h1 h2 => by omega, mx_out.rf⟩
    · rw [if_neg (show ¬ 240 ≤ i3 y by show ¬ i3 240 ≤ i3 y; rw [i3_le (by omega) (by omega)]; omega), mx_inb_i3 (by omega) (by omega), mx_chkT, i3_Ladd, mx_inb_i3 (by omega) (by omega), mx_chkT, mx_letI, mx_letI, i3_succ, i3_toNat (by omega), i3_toNat (by omega)]
      have z1 : mx_out (fun b j => b = 224 ∧ 192 + y ≤ j ∧ j < 432) m (mx_up m.1 224 (192 + y) (m.1 248 y), m.2) := mx_out_up mx_out.rf rfl (by omega)
      obtain ⟨m', e1, e2, e3⟩ := ih (y + 1) (mx_up m.1 224 (192 + y) (m.1 248 y), m.2) (by omega) (by omega)
      refine ⟨m', e1, fun x h1 h2 => ?_, mx_out.tr z1 (e3.sub (fun b j q => by omega))⟩
      by_cases ex : x = y
      · subst ex
        rw [e3.fld 224 (192 + x) (by omega)]
        exact mx_up_self m.1 224 (192 + x) _
      · rw [e2 x (by omega) h2]
        show mx_up m.1 224 (192 + y) (m.1 248 y) 248 x = _
        rw [up_off _ (by omega)]
theorem C_scopy (h6 : c.1 179 6 = 1) : ∃ c', FX8_copyFrom 174 179 c = some c' ∧ c'.1 174 4 = c.1 179 4 ∧ c'.1 174 5 = c.1 179 5 ∧ c'.1 174 6 = 1 ∧ (∀ i, i < 40 → c'.1 175 i = c.1 180 i ∧ c'.1 176 i = c.1 181 i ∧ c'.1 177 i = c.1 182 i) ∧ mx_out (fun b _ => 174 ≤ b ∧ b ≤ 177) c c' := by
  have z1 : mx_out (fun b _ => 174 ≤ b ∧ b ≤ 177) c (mx_up c.1 174 4 (c.1 179 4), c.2) := mx_out_up mx_out.rf rfl (by omega)
  have w1 : (mx_up c.1 174 4 (c.1 179 4), c.2).1 174 4 = c.1 179 4 := mx_up_self c.1 174 4 _
  unfold FX8_copyFrom
  rw [mx_letI]
  generalize (mx_up c.1 174 4 (c.1 179 4), c.2) = c1 at z1 w1 ⊢
  have z2 : mx_out (fun b _ => 174 ≤ b ∧ b ≤ 177) c (mx_up c1.1 174 5 (c1.1 179 5), c1.2) := mx_out_up z1 rfl (by omega)
  have w2 : (mx_up c1.1 174 5 (c1.1 179 5), c1.2).1 174 5 = c.1 179 5 := (mx_up_self c1.1 174 5 _).trans (z1.fld 179 5 (by omega))
  have w3 : (mx_up c1.1 174 5 (c1.1 179 5), c1.2).1 174 4 = c.1 179 4 := by
    show mx_up c1.1 174 5 (c1.1 179 5) 174 4 = _
    rw [up_at, if_neg (by omega)]; exact w1
  rw [mx_letI]
  generalize (mx_up c1.1 174 5 (c1.1 179 5), c1.2) = c2 at z2 w2 w3 ⊢
  have k6 : c2.1 179 6 = 1 := by rw [z2.fld 179 6 (by omega)]; exact h6
  rw [k6, show mx_b01 1 = true from rfl, mx_chkT, mx_letI, mx_letI, mx_letI, mx_letI]
  refine ⟨_, rfl, ?_, ?_, ?_, fun i hi => ⟨?_, ?_, ?_⟩, ?_⟩
  · show mx_cp (mx_cp (mx_cp (mx_up c2.1 174 6 1) 180 175 40) 181 176 40) 182 177 40 174 4 = _
    rw [cp_off _ (by omega), cp_off _ (by omega), cp_off _ (by omega), up_at, if_neg (by omega)]; exact w3
  · show mx_cp (mx_cp (mx_cp (mx_up c2.1 174 6 1) 180 175 40) 181 176 40) 182 177 40 174 5 = _
    rw [cp_off _ (by omega), cp_off _ (by omega), cp_off _ (by omega), up_at, if_neg (by omega)]; exact w2
  · show mx_cp (mx_cp (mx_cp (mx_up c2.1 174 6 1) 180 175 40) 181 176 40) 182 177 40 174 6 = _
    rw [cp_off _ (by omega), cp_off _ (by omega), cp_off _ (by omega), up_at, if_pos rfl]
  · show mx_cp (mx_cp (mx_cp (mx_up c2.1 174 6 1) 180 175 40) 181 176 40) 182 177 40 175 i = _
    rw [cp_off _ (by omega), cp_off _ (by omega), cp_at, if_pos hi, up_off _ (by omega), z2.fld 180 i (by omega)]
  · show mx_cp (mx_cp (mx_cp (mx_up c2.1 174 6 1) 180 175 40) 181 176 40) 182 177 40 176 i = _
    rw [cp_off _ (by omega), cp_at, if_pos hi, cp_off _ (by omega), up_off _ (by omega), z2.fld 181 i (by omega)]
  · show mx_cp (mx_cp (mx_cp (mx_up c2.1 174 6 1) 180 175 40) 181 176 40) 182 177 40 177 i = _
    rw [cp_at, if_pos hi, cp_off _ (by omega), cp_off _ (by omega), up_off _ (by omega), z2.fld 182 i (by omega)]
  · intro b j q
    show mx_cp (mx_cp (mx_cp (mx_up c2.1 174 6 1) 180 175 40) 181 176 40) 182 177 40 b j = _ ∧ c2.2 b j = _
    rw [cp_off _ (by omega), cp_off _ (by omega), cp_off _ (by omega), up_off _ (by omega)]
    exact z2 b j q
def ZS1 : Nat → Nat → Prop := fun b j => (b = 1 ∧ 2 ≤ j) ∨ (b = 179 ∧ 4 ≤ j) ∨ (180 ≤ b ∧ b ≤ 182)
def ZS2 : Nat → Nat → Prop := fun b j => (b = 222 ∧ (j = 0 ∨ (2 ≤ j ∧ j ≤ 13) ∨ (58 ≤ j ∧ j ≤ 61))) ∨ b = 248
theorem O_sentence (h : RR c d) : Sm (FX11_sentence 0 c) (FX12_sentence 222 d) := by
  obtain ⟨n, t, hT⟩ := h.1
  have hNE := h.2.2.1
  have g := hNE.1.1
  obtain ⟨c0, e0, z0, k4, k5⟩ : ∃ c0, FX8_clear 179 c = some c0 ∧ mx_out (fun b j => b = 179 ∧ 4 ≤ j) c c0 ∧ c0.1 179 4 = 0 ∧ c0.1 179 5 = 0 := by
    refine ⟨(mx_up (mx_up (mx_up c.1 179 6 0) 179 4 0) 179 5 0, c.2), rfl, mx_out_up (mx_out_up (mx_out_up mx_out.rf rfl ⟨rfl, by omega⟩) rfl ⟨rfl, by omega⟩) rfl ⟨rfl, by omega⟩, ?_, mx_up_self (mx_up (mx_up c.1 179 6 0) 179 4 0) 179 5 0⟩
    show mx_up (mx_up (mx_up c.1 179 6 0) 179 4 0) 179 5 0 179 4 = 0
    rw [up_at, if_neg (by omega), mx_up_self]
  have hT0 : Txt c0 d n t := ⟨hT.1, by rw [z0.fld 1 2 (by omega)]; exact hT.2.1, hT.2.2.1, fun j hj => by rw [z0.fld 2 j (by omega)]; exact hT.2.2.2.1 j hj, fun i hi => by rw [z0.cellL 3 (fun j => by omega)]; exact hT.2.2.2.2 i hi⟩
  obtain ⟨c1, d1, e1, e2, hP, zV1, zV2, hd2⟩ := PR_begin hT0 (lim := 200) (by omega)
  have yd : mx_out (fun b j => b = 222 ∧ 58 ≤ j ∧ j ≤ 60) d1 (mx_up (mx_up (mx_up d1.1 222 58 0) 222 59 0) 222 60 0, d1.2) := mx_out_up (mx_out_up (mx_out_up mx_out.rf rfl ⟨rfl, by omega⟩) rfl ⟨rfl, by omega⟩) rfl ⟨rfl, by omega⟩
  have v60 : (mx_up (mx_up (mx_up d1.1 222 58 0) 222 59 0) 222 60 0, d1.2).1 222 60 = 0 := mx_up_self (mx_up (mx_up d1.1 222 58 0) 222 59 0) 222 60 0
  have v59 : (mx_up (mx_up (mx_up d1.1 222 58 0) 222 59 0) 222 60 0, d1.2).1 222 59 = 0 := by
    show mx_up (mx_up (mx_up d1.1 222 58 0) 222 59 0) 222 60 0 222 59 = 0
    rw [up_at, if_neg (by omega), mx_up_self]
  have v58 : (mx_up (mx_up (mx_up d1.1 222 58 0) 222 59 0) 222 60 0, d1.2).1 222 58 = 0 := by
    show mx_up (mx_up (mx_up d1.1 222 58 0) 222 59 0) 222 60 0 222 58 = 0
    rw [up_at, if_neg (by omega), up_at, if_neg (by omega), mx_up_self]
  unfold FX11_sentence FX8_read FX12_sentence
  show Sm (Option.bind (Option.bind (FX8_clear 179 c) (fun r1 => Option.bind (FX10_begin 1 (i3 200) r1) _)) _) (Option.bind (FX12_begin 222 (i3 200) d) _)
  rw [e0, ob_some, e1, ob_some, e2, ob_some, mx_letI, mx_letI, mx_letI]
  show Sm _ (Option.bind (FX12_readOr (FX12_readSaid 64) 222 (mx_up (mx_up (mx_up d1.1 222 58 0) 222 59 0) 222 60 0, d1.2)) _)
  generalize (mx_up (mx_up (mx_up d1.1 222 58 0) 222 59 0) 222 60 0, d1.2) = d2 at yd v58 v59 v60 ⊢
  have ZC1 : mx_out ZS1 c c1 := mx_out.tr (z0.sub (fun b j q => by unfold ZS1; omega)) (zV1.sub (fun b j q => by unfold V1 at q; unfold ZS1; omega))
  have ZD2 : mx_out ZS2 d d2 := mx_out.tr (zV2.sub (fun b j q => by unfold V2 at q; unfold ZS2; omega)) (yd.sub (fun b j q => by unfold ZS2; omega))
  have hP2 : PR c1 d2 n 200 t 0 := PR_mv hP (S := fun _ _ => False) mx_out.rf yd (fun b j q => q.elim) (fun b j q => by omega)
  have hN2 : NmB (nP (d.1 224)) c1 d2 := NmB_mv (c := c) (d := d) ⟨g.1.2, by rw [hNE.1.2.2.1.1.1]; exact g.1.1, g.1.1, fun i hi => hNE.2 i hi⟩ ZC1 ZD2 (fun b j q => by unfold ZS1 at q; omega) (fun b j q => by unfold ZS2 at q; omega)
  have hS0 : SX c1 d2 0 0 0 := ⟨by rw [zV1.fld 179 4 (by unfold V1; omega)]; exact k4, by rw [zV1.fld 179 5 (by unfold V1; omega)]; exact k5, v58, v59, v60, by omega, Nat.le_refl _, fun i hi => by omega⟩
  obtain ⟨⟨r3, c3⟩, ⟨s3, d3⟩, e3, e4, q⟩ := S_cond (D := 64) (x := i3 1) (fun h hN hS => S_one (nP (d.1 224)) n 200 t 64 (w := 0) (by omega) (by omega) h hN hS) hP2 hN2 hS0
  have e3' : FX8_readCond (FX8_readOne 64) (0 + 179) (0 + 1) (0 + 4) 1 c1 = some (r3, c3) := e3
  rw [e3', e4, ob_some, ob_some]
  dsimp only
  have hd22 : d2.1 222 2 = 0 := by rw [yd.fld 222 2 (by omega)]; exact hd2
  have bad : ∀ (cF dF : mB), FL cF dF → mx_out ZS1 c cF → mx_out ZS2 d dF → dF.1 222 2 = 0 → ∃ cX, RR cX dF ∧ cX.1 1 11 = dF.1 222 11 ∧ Option.bind (FX10_cut 1 0 (mx_up cF.1 179 6 0, cF.2)) (fun r2 => Option.bind (FX10_faultAt 1 r2) (fun r6 => some (-1 - r6, r2))) = some (-1 - cX.1 1 11, cX) := by
    intro cF dF hF zc zd h2
    refine ⟨(mx_up (mx_up cF.1 179 6 0) 1 2 0, cF.2), ?_, ?_, rfl⟩
    · have z1 : mx_out ZS1 c (mx_up (mx_up cF.1 179 6 0) 1 2 0, cF.2) := mx_out_up (mx_out_up zc rfl (by unfold ZS1; omega)) rfl (by unfold ZS1; omega)
      refine RR_tf h (ag_of z1 (fun b j q => by unfold SC at q; unfold ZS1; omega)) (ag_of zd (fun b j q => by unfold SD at q; unfold ZS2; omega)) (TP_0 h.1 (mx_up_self (mx_up cF.1 179 6 0) 1 2 0) h2 (by rw [z1.cellL 3 (fun j => by unfold ZS1; omega)])) ?_
      show mx_up (mx_up cF.1 179 6 0) 1 2 0 1 10 = _
      rw [up_at, if_neg (by omega), up_off _ (by omega)]
      exact hF.1
    · show mx_up (mx_up cF.1 179 6 0) 1 2 0 1 11 = _
      rw [up_at, if_neg (by omega), up_off _ (by omega)]
      exact hF.2
  have rd0 : ∀ (cF : mB) (K : Int32 × mB → Option (Int32 × mB)), Option.bind (mx_let (mx_up cF.1 (0 + 179) 6 0, cF.2) (fun m5 => mx_chk (mx_b01 (m5.1 (0 + 179) 6)) (some (m5.1 (0 + 179) 6, m5)))) K = K (0, (mx_up cF.1 179 6 0, cF.2)) := fun cF K => by
    rw [mx_letI]
    show Option.bind (mx_chk (mx_b01 (mx_up cF.1 179 6 0 179 6)) (some (mx_up cF.1 179 6 0 179 6, (mx_up cF.1 179 6 0, cF.2)))) K = _
    rw [mx_up_self, show mx_b01 0 = true from rfl, mx_chkT, ob_some]
  rcases q with ⟨p', L', o', a1, a2, a3, a4, a5, a6, a7, a8, a9, a10, a11⟩ | ⟨a1, a2, a3, a4, a5⟩
  · dsimp only at a1 a2 a3 a4 a7 a8 a10 a11
    subst a1 a2
    rw [if_neg (show ¬ (1 : Int32) = 0 by decide), if_neg (show ¬ (1 : Int32) = 0 by decide)]
    have ZC3 : mx_out ZS1 c c3 := mx_out.tr ZC1 (a10.sub (fun b j q => by unfold SB1 U1 at q; unfold ZS1; omega))
    have ZD3 : mx_out ZS2 d d3 := mx_out.tr ZD2 (a11.sub (fun b j q => by unfold SB2 U2 at q; unfold ZS2; omega))
    have h32 : d3.1 222 2 = 0 := by rw [a11.fld 222 2 (by unfold SB2 U2; omega)]; exact hd22
    rcases S_ends a3 with ⟨b1, b2'⟩ | ⟨b0, c4, d4, b1, b2', b3, b4, b5⟩
    · have b1' : FX10_endsHere (0 + 1) c3 = some (1, c3) := b1
      rw [b1', ob_some, if_pos b2']
      dsimp only
      rw [if_neg (show ¬ (1 : Int32) = 0 by decide)]
      have ho := a4.2.2.2.2.2.1
      have hpt := a4.2.2.2.2.2.2.1
      -- the class
      have z5 : mx_out ZS1 c (mx_up (mx_up c3.1 179 6 1) 1 2 0, c3.2) := mx_out_up (mx_out_up ZC3 rfl (by unfold ZS1; omega)) rfl (by unfold ZS1; omega)
      have v6 : (mx_up (mx_up c3.1 179 6 1) 1 2 0, c3.2).1 179 6 = 1 := by
        show mx_up (mx_up c3.1 179 6 1) 1 2 0 179 6 = 1
        rw [up_off _ (by omega), mx_up_self]
      have v2 : (mx_up (mx_up c3.1 179 6 1) 1 2 0, c3.2).1 1 2 = 0 := mx_up_self (mx_up c3.1 179 6 1) 1 2 0
      have y5 : mx_out (fun b j => (b = 1 ∧ j = 2) ∨ (b = 179 ∧ j = 6)) c3 (mx_up (mx_up c3.1 179 6 1) 1 2 0, c3.2) := mx_out_up (mx_out_up mx_out.rf rfl (by omega)) rfl (by omega)
      have rd1 : ∀ (K : Int32 × mB → Option (Int32 × mB)), Option.bind (mx_let (mx_up c3.1 (0 + 179) 6 1, c3.2) (fun m5 => mx_chk (mx_b01 (m5.1 (0 + 179) 6)) (some (m5.1 (0 + 179) 6, m5)))) K = K (1, (mx_up c3.1 179 6 1, c3.2)) := fun K => by
        rw [mx_letI]
        show Option.bind (mx_chk (mx_b01 (mx_up c3.1 179 6 1 179 6)) (some (mx_up c3.1 179 6 1 179 6, (mx_up c3.1 179 6 1, c3.2)))) K = _
        rw [mx_up_self, show mx_b01 1 = true from rfl, mx_chkT, ob_some]
      rw [rd1]
      dsimp only
      unfold FX10_cut
      rw [mx_letI, ob_some, if_neg (show ¬ (1 : Int32) = 0 by decide)]
      show Sm (Option.bind (FX8_copyFrom 174 179 (mx_up (mx_up c3.1 179 6 1) 1 2 0, c3.2)) (fun r4 => Option.bind (FX8_ones 174 r4) (fun r5 => some (r5, r4)))) _
      generalize (mx_up (mx_up c3.1 179 6 1) 1 2 0, c3.2) = c5 at z5 v6 v2 y5 ⊢
      obtain ⟨c6, f1, u4, u5, u6, ui, z6⟩ := C_scopy v6
      rw [f1, ob_some]
      unfold FX8_ones
      rw [ob_some]
      -- the reference
      rw [mx_letI, mx_letI]
      have x1 : mx_out (fun b j => b = 224 ∧ 190 ≤ j) d3 (mx_up d3.1 224 190 1, d3.2) := mx_out_up mx_out.rf rfl ⟨rfl, Nat.le_refl _⟩
      have w1 : (mx_up d3.1 224 190 1, d3.2).1 224 190 = 1 := mx_up_self d3.1 224 190 1
      show Sm _ (Option.bind (FX12_sentence_L79 222 mx_FU (i3 0) (mx_up (mx_up d3.1 224 190 1, d3.2).1 224 191 ((mx_up d3.1 224 190 1, d3.2).1 222 61), (mx_up d3.1 224 190 1, d3.2).2)) _)
      generalize (mx_up d3.1 224 190 1, d3.2) = d4 at x1 w1 ⊢
      have x2 : mx_out (fun b j => b = 224 ∧ 190 ≤ j) d3 (mx_up d4.1 224 191 (d4.1 222 61), d4.2) := mx_out_up x1 rfl ⟨rfl, by omega⟩
      have w2 : (mx_up d4.1 224 191 (d4.1 222 61), d4.2).1 224 190 = 1 := by
        show mx_up d4.1 224 191 (d4.1 222 61) 224 190 = 1
        rw [up_at, if_neg (by omega)]; exact w1
      have w3 : (mx_up d4.1 224 191 (d4.1 222 61), d4.2).1 224 191 = i3 (L' - 1) := by
        refine (mx_up_self d4.1 224 191 _).trans ?_
        rw [x1.fld 222 61 (by omega)]; exact a8
      generalize (mx_up d4.1 224 191 (d4.1 222 61), d4.2) = d5 at x2 w2 w3 ⊢
      obtain ⟨d6, g1, g2, g3⟩ := M_scopy mx_FU 0 d5 (by omega) (FU_lt (by omega))
      rw [g1, ob_some]
      have x3 : mx_out (fun b j => b = 224 ∧ 190 ≤ j) d3 d6 := mx_out.tr x2 (g3.sub (fun b j q => by omega))
      have eRn : ∀ x, 192 ≤ x → x < 432 → d6.1 224 x = Rn d3 x := fun x h1 h2 => by
        have := g2 (x - 192) (by omega) (by omega)
        rw [show 192 + (x - 192) = x by omega] at this
        rw [this, x2.fld 248 _ (by omega)]
        unfold Rn
        rw [if_neg (by omega)]
      refine hb_some ⟨?_, ?_⟩
      · show c6.1 174 5 = d6.1 222 59
        rw [u5, x3.fld 222 59 (by omega), a4.2.2.2.1, y5.fld 179 5 (by omega)]
        exact a4.2.1
      · have ZC6 : ag (fun b j => SC b j ∧ ¬ ((b = 1 ∧ (j = 2 ∨ j = 10)) ∨ (4 ≤ b ∧ b ≤ 14) ∨ (68 ≤ b ∧ b ≤ 168) ∨ (174 ≤ b ∧ b ≤ 177))) c c6 := ag_tr (ag_of z5 (fun b j q => by unfold SC at q; unfold ZS1; omega)) (ag_of z6 (fun b j q => by omega))
        have aC : ag (fun b _ => (4 ≤ b ∧ b ≤ 14) ∨ (68 ≤ b ∧ b ≤ 168)) c c6 := ag_tr (ag_of z5 (fun b j q => by unfold ZS1; omega)) (ag_of z6 (fun b j q => by omega))
        have aD : ag (fun b j => (b = 224 ∧ j < 190) ∨ b = 230 ∨ b = 227 ∨ (b = 222 ∧ j = 25)) d d6 := ag_tr (ag_of ZD3 (fun b j q => by unfold ZS2; omega)) (ag_of x3 (fun b j q => by omega))
        refine RR_nw h ZC6 (ag_tr (ag_of ZD3 (fun b j q => by unfold SD at q; unfold ZS2; omega)) (ag_of x3 (fun b j q => by omega))) (TP_0 h.1 (by show c6.1 1 2 = 0; rw [z6.fld 1 2 (by omega)]; exact v2) (by show d6.1 222 2 = 0; rw [x3.fld 222 2 (by omega)]; exact h32) (by show c6.2 3 = _; rw [z6.cellL 3 (fun j => by omega), z5.cellL 3 (fun j => by unfold ZS1; omega)])) ?_ (NE_mv hNE (ag_sub aC (fun b j q => by omega)) (ag_sub aD (fun b j q => by omega))) (HI_mv h.2.2.2.1 (ag_sub aC (fun b j q => by omega)) (ag_sub aD (fun b j q => by omega))) ?_
        · show c6.1 1 10 = d6.1 222 10
          rw [z6.fld 1 10 (by omega), y5.fld 1 10 (by omega), x3.fld 222 10 (by omega)]
          exact a3.2.2.2.2.2.2.2.2.2.1.trans a3.2.2.2.2.2.2.2.2.2.2.symm
        · have ea : ∀ i, i < 40 → c6.1 175 i = c3.1 180 i ∧ c6.1 176 i = c3.1 181 i ∧ c6.1 177 i = c3.1 182 i := fun i hi => by
            rw [(ui i hi).1, (ui i hi).2.1, (ui i hi).2.2, y5.fld 180 i (by omega), y5.fld 181 i (by omega), y5.fld 182 i (by omega)]
            exact ⟨rfl, rfl, rfl⟩
          rw [a7, List.length_cons] at hpt
          refine Or.inr ⟨u6, ?_, L', L' - 1, by omega, ?_, ?_, ?_, fun i hi => ?_⟩
          · show d6.1 224 190 = 1
            rw [g3.fld 224 190 (by omega)]; exact w2
          · show c6.1 174 4 = _
            rw [u4, y5.fld 179 4 (by omega)]; exact a4.1
          · show d6.1 224 191 = _
            rw [g3.fld 224 191 (by omega)]; exact w3
          · show stk (cdf (c6.1 175)) L' = _
            rw [stk_cg (A := c3.1 180) (fun i hi => (ea i (by omega)).1), a7]
            rfl
          · show SYP (c6.1 175) (c6.1 176) (c6.1 177) (d6.1 224) i
            refine SYP_mv (a4.2.2.2.2.2.2.2 i hi) (fun j hj => (ea j (by omega)).1) (ea i (by omega)).2.1 (ea i (by omega)).2.2 ?_ (fun x h1 h2 => eRn x (by omega) (by omega))
            unfold Rn
            rw [if_pos (by omega), x3.fld 224 0 (by omega)]
    · have b1' : FX10_endsHere (0 + 1) c3 = some (0, c4) := b1
      rw [b1', ob_some, if_neg b0, b2', ob_some]
      dsimp only
      rw [if_pos rfl, rd0]
      dsimp only
      obtain ⟨cX, y1, y2, y3⟩ := bad c4 d4 b3 (mx_out.tr ZC3 (b4.sub (fun b j q => by unfold U1 at q; unfold ZS1; omega))) (mx_out.tr ZD3 (b5.sub (fun b j q => by unfold U2 at q; unfold ZS2; omega))) (by rw [b5.fld 222 2 (by unfold U2; omega)]; exact h32)
      simp only [eq_self_iff_true, if_true]
      show Sm (Option.bind (FX10_cut 1 0 (mx_up c4.1 179 6 0, c4.2)) (fun r2 => Option.bind (FX10_faultAt 1 r2) (fun r6 => some (-1 - r6, r2)))) _
      rw [y3]
      exact hb_some ⟨by rw [y2], y1⟩
  · dsimp only at a1 a2 a3 a4 a5
    subst a1 a2
    rw [if_pos rfl, if_pos rfl, rd0]
    dsimp only
    obtain ⟨cX, y1, y2, y3⟩ := bad c3 d3 a3 (mx_out.tr ZC1 (a4.sub (fun b j q => by unfold SB1 U1 at q; unfold ZS1; omega))) (mx_out.tr ZD2 (a5.sub (fun b j q => by unfold SB2 U2 at q; unfold ZS2; omega))) (by rw [a5.fld 222 2 (by unfold SB2 U2; omega)]; exact hd22)
    simp only [eq_self_iff_true, if_true]
    show Sm (Option.bind (FX10_cut 1 0 (mx_up c3.1 179 6 0, c3.2)) (fun r2 => Option.bind (FX10_faultAt 1 r2) (fun r6 => some (-1 - r6, r2)))) _
    rw [y3]
    exact hb_some ⟨by rw [y2], y1⟩
end SENS
