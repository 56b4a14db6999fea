/-! ===== operation: network ===== -/
section NETP
variable {c c' d d' : mB} {n : Nat} {t : Nat → Nat}
theorem Txt_of (h : TP c d) : ∃ n t, Txt c d n t := h
/-- an empty tape -/
theorem TP_0 (h : TP c d) (hc2 : c'.1 1 2 = 0) (hd2 : d'.1 222 2 = 0) (h3 : c'.2 3 = c.2 3) : TP c' d' := by
  obtain ⟨n, t, h1, h2, h4, h5, h6⟩ := h
  exact ⟨0, fun _ => 0, by omega, hc2, hd2, fun j hj => by omega, fun i hi => by rw [h3]; exact h6 i hi⟩
theorem M_heads (d : mB) (y1 : Int32) : ∃ d1 d2, FX12_network_L97 222 y1 mx_FU (i3 0) d = some d1 ∧ FX12_network_L123 222 y1 mx_FU (i3 0) d1 = some d2 ∧ (∀ x, x < 125 → d2.1 224 x = d.1 225 x) ∧ (∀ p, p < 10 → d2.2 230 p = d.2 231 p) := by
  have k1 : hw (FX12_network_L97 222 y1 mx_FU (i3 0) d) (fun m => mx_out (fun b _ => b = 224) d m ∧ ∀ j, j < 125 → m.1 224 j = d.1 225 j) := by
    refine lp_inv (L := fun fu y m => FX12_network_L97 222 y1 fu y m) (n := 125) (fun k m => mx_out (fun b _ => b = 224) d m ∧ ∀ j, j < k → m.1 224 j = d.1 225 j) ?_ ?_ 0 mx_FU _ (by omega) (FU_lt (by omega)) ⟨mx_out.rf, fun j hj => by omega⟩
    · intro fu m hI
      show hw (FX12_network_L97 222 y1 (fu + 1) (i3 125) m) _
      rw [FX12_network_L97]
      exact hw_some hI
    · intro fu k m hk hI hs
      show hw (FX12_network_L97 222 y1 (fu + 1) (i3 k) m) _
      rw [FX12_network_L97]
      simp (disch := omega) only [Nat.reduceAdd, ob_some, mx_letI, mx_chkT, mx_inb_i3, mx_inb_lit, lit_toNat, i3_toNat, i3_le, i3_lt, i3_leL, i3_Lle, i3_ltL, i3_Llt, i3_neg, i3_eq, i3_eqL, i3_ne1, i3_add, i3_addL, i3_Ladd, i3_mul, i3_mulL, i3_Lmul, mx_b01_0, mx_b01_1, b2_01, b2_0, b2_1, se_inl, se_inr, if_true, if_false, e10, e01, e00, e11, em1, em1lt, Nat.not_lt_zero, if_pos, if_neg]
      refine hs _ ⟨mx_out_up hI.1 rfl rfl, fun j hj => ?_⟩
      show mx_up m.1 224 k (m.1 225 k) 224 j = _
      rw [up_at, hI.1.cell 225 (fun j => by omega)]
      by_cases q : j = k
      · rw [if_pos q, q]
      · rw [if_neg q]; exact hI.2 j (by omega)
  obtain ⟨d1, e1, z1, v1⟩ := k1
  have k2 : hw (FX12_network_L123 222 y1 mx_FU (i3 0) d1) (fun m => mx_out (fun b _ => b = 230) d1 m ∧ ∀ j, j < 10 → m.2 230 j = d1.2 231 j) := by
    refine lp_inv (L := fun fu y m => FX12_network_L123 222 y1 fu y m) (n := 10) (fun k m => mx_out (fun b _ => b = 230) d1 m ∧ ∀ j, j < k → m.2 230 j = d1.2 231 j) ?_ ?_ 0 mx_FU _ (by omega) (FU_lt (by omega)) ⟨mx_out.rf, fun j hj => by omega⟩
    · intro fu m hI
      show hw (FX12_network_L123 222 y1 (fu + 1) (i3 10) m) _
      rw [FX12_network_L123]
      exact hw_some hI
    · intro fu k m hk hI hs
      show hw (FX12_network_L123 222 y1 (fu + 1) (i3 k) m) _
      rw [FX12_network_L123]
      simp (disch := omega) only [Nat.reduceAdd, ob_some, mx_letI, mx_chkT, mx_inb_i3, mx_inb_lit, lit_toNat, i3_toNat, i3_le, i3_lt, i3_leL, i3_Lle, i3_ltL, i3_Llt, i3_neg, i3_eq, i3_eqL, i3_ne1, i3_add, i3_addL, i3_Ladd, i3_mul, i3_mulL, i3_Lmul, mx_b01_0, mx_b01_1, b2_01, b2_0, b2_1, se_inl, se_inr, if_true, if_false, e10, e01, e00, e11, em1, em1lt, Nat.not_lt_zero, if_pos, if_neg]
      refine hs _ ⟨mx_out_ul hI.1 rfl rfl, fun j hj => ?_⟩
      show mx_ul m.2 230 k (m.2 231 k) 230 j = _
      rw [ul_at, hI.1.cellL 231 (fun j => by omega)]
      by_cases q : j = k
      · rw [if_pos q, q]
      · rw [if_neg q]; exact hI.2 j (by omega)
  obtain ⟨d2, e2, z2, v2⟩ := k2
  refine ⟨d1, d2, e1, e2, fun x hx => ?_, fun p hp => ?_⟩
  · rw [z2.cell 224 (fun j => by omega)]; exact v1 x hx
  · rw [v2 p hp, z1.cellL 231 (fun j => by omega)]
theorem O_network (h : RR c d) : Sm (FX11_network 0 c) (FX12_network 222 d) := by
  obtain ⟨n, t, hT⟩ := h.1
  have hT9 := hT.1
  obtain ⟨c1, e1, v27, v35, z1⟩ := C_clear c
  have z1b : mx_out (fun b j => b = 26 ∧ j = 2) c1 (mx_up c1.1 26 2 0, c1.2) := mx_out_up mx_out.rf rfl ⟨rfl, rfl⟩
  have z2 : mx_out (fun b _ => 26 ≤ b ∧ b ≤ 37) c (mx_up c1.1 26 2 0, c1.2) := mx_out.tr (z1.sub (fun b j q => by unfold WSX4_clear at q; omega)) (z1b.sub (fun b j q => by omega))
  have hT2 : Txt (mx_up c1.1 26 2 0, c1.2) d n t := by
    obtain ⟨t1, t2, t3, t4, t5⟩ := hT
    refine ⟨t1, by rw [z2.fld 1 2 (by omega)]; exact t2, t3, fun j hj => ?_, fun i hi => ?_⟩
    · rw [z2.fld 2 j (by omega)]; exact t4 j hj
    · rw [z2.cellL 3 (fun j => by omega)]; exact t5 i hi
  obtain ⟨c3, d3, e3, f3, PR3, zc3, zd3, d32⟩ := PR_begin (lim := 900) hT2 (by omega)
  have z3b : mx_out (fun b j => b = 26 ∧ j = 1) c3 (mx_up c3.1 26 1 0, c3.2) := mx_out_up mx_out.rf rfl ⟨rfl, rfl⟩
  obtain ⟨d4, d5, f4, f5, v225, v234, zd5⟩ := M_rows d3
  have PR5 : PR (mx_up c3.1 26 1 0, c3.2) d5 n 900 t 0 := PR_mv PR3 z3b zd5 (fun b j q => by omega) (fun b j q => by omega)
  have NP5 : NP (mx_up c3.1 26 1 0, c3.2) d5 := by
    refine NP_0 (fun j hj => ?_) (fun j hj => ?_) ?_ v225 v234
    · rw [z3b.fld 27 j (by omega), zc3.fld 27 j (by unfold V1; omega), z1b.fld 27 j (by omega)]; exact v27 j hj
    · rw [z3b.fld 35 j (by omega), zc3.fld 35 j (by unfold V1; omega), z1b.fld 35 j (by omega)]; exact v35 j hj
    · rw [z3b.fld 26 2 (by omega), zc3.fld 26 2 (by unfold V1; omega)]; exact mx_up_self c1.1 26 2 0
  obtain ⟨r, s, g1, g2, hq⟩ := L_lines (n := n) (lim := 900) (t := t) mx_FU (ln := 0) PR5 NP5 (FU_lt (by omega)) (mx_up_self c3.1 26 1 0) (by omega) (Or.inr (by omega))
  have zr := ZX5_read_L24 mx_FU g1
  have zs := ZX12_network_L61 mx_FU g2
  have zcA : mx_out (fun b j => (b = 1 ∧ 3 ≤ j) ∨ (26 ≤ b ∧ b ≤ 37)) c (Sum.elim (fun rr => rr.2) (fun u => u) r) := mx_out.tr (z2.sub (fun b j q => Or.inr q)) (mx_out.tr (zc3.sub (fun b j q => by unfold V1 at q; omega)) (mx_out.tr (z3b.sub (fun b j q => by omega)) (zr.sub (fun b j q => by unfold WSX5_read_L24 at q; omega))))
  have zdA : mx_out (fun b j => (b = 222 ∧ (j = 0 ∨ (2 ≤ j ∧ j ≤ 13))) ∨ b = 225 ∨ b = 231 ∨ b = 234) d (Sum.elim (fun rr => rr.2) (fun u => u.2) s) := mx_out.tr (zd3.sub (fun b j q => by unfold V2 at q; omega)) (mx_out.tr (zd5.sub (fun b j q => by omega)) (zs.sub (fun b j q => by unfold WSX12_network_L61 at q; omega)))
  have dA2 : (Sum.elim (fun rr => rr.2) (fun u => u.2) s : mB).1 222 2 = 0 := by
    rw [zs.fld 222 2 (by unfold WSX12_network_L61; omega), zd5.fld 222 2 (by omega)]; exact d32
  -- both fail
  have bad : ∀ (ca da : mB), mx_out (fun b j => (b = 1 ∧ 3 ≤ j) ∨ (26 ≤ b ∧ b ≤ 37)) c ca → mx_out (fun b j => (b = 222 ∧ (j = 0 ∨ (2 ≤ j ∧ j ≤ 13))) ∨ b = 225 ∨ b = 231 ∨ b = 234) d da → da.1 222 2 = 0 → FL ca da → Sm (Option.bind (FX10_faultAt (0 + 1) (mx_up ca.1 1 2 0, ca.2)) (fun r8 => some ((-1) - r8, (mx_up ca.1 1 2 0, ca.2)))) (some ((-1) - da.1 222 11, da)) := by
    intro ca da zca zda hda2 hfl
    have zx : mx_out (fun b j => b = 1 ∧ j = 2) ca (mx_up ca.1 1 2 0, ca.2) := mx_out_up mx_out.rf rfl ⟨rfl, rfl⟩
    unfold FX10_faultAt
    rw [ob_some]
    refine hb_some ⟨?_, RR_tf h (ag_tr (ag_of zca (fun b j q => by unfold SC at q; omega)) (ag_of zx (fun b j q => by omega))) (ag_of zda (fun b j q => by unfold SD at q; omega)) (TP_0 h.1 (mx_up_self ca.1 1 2 0) hda2 (zca.cellL 3 (fun j => by omega))) ?_⟩
    · show (-1) - mx_up ca.1 1 2 0 1 11 = (-1) - da.1 222 11
      rw [up_at, if_neg (by omega), hfl.2]
    · show mx_up ca.1 1 2 0 1 10 = da.1 222 10
      rw [up_at, if_neg (by omega)]; exact hfl.1
  unfold FX11_network FX12_network FX5_read FX10_cut
  show Sm (Option.bind (Option.bind (FX4_clear 27 c) _) _) (Option.bind (FX12_begin 222 (i3 900) d) _)
  rw [e1, f3, ob_some, ob_some, mx_letI]
  show Sm (Option.bind (Option.bind (FX10_begin 1 (i3 900) (mx_up c1.1 26 2 0, c1.2)) _) _) (Option.bind (FX12_network_L9 222 mx_FU (i3 0) d3) _)
  rw [e3, f4, ob_some, ob_some, mx_letI]
  show Sm (Option.bind (Option.bind (FX5_read_L24 26 1 mx_FU (mx_up c3.1 26 1 0, c3.2)) _) _) (Option.bind (FX12_network_L30 222 mx_FU (i3 0) d4) _)
  rw [g1, f5, ob_some, ob_some]
  show Sm _ (Option.bind (FX12_network_L61 222 mx_FU (i3 0) d5) _)
  rw [g2, ob_some]
  rcases hq with ⟨ca, da, ln, q1, q2, q3, q4, q5, q6, q7⟩ | ⟨ca, da, q1, q2, q3⟩ | ⟨ca, da, c2, q1, q2, q3, q4⟩
  · subst q1 q2
    dsimp only [Sum.elim_inr] at zcA zdA dA2
    rw [se_inr, se_inr]
    show Sm (Option.bind (Option.bind (FX10_endsHere 1 ca) _) _) _
    rw [q5, ob_some]
    show Sm (Option.bind (some ((1 : Int32), ca)) _) _
    rw [ob_some, mx_letI, ob_some]
    dsimp only
    rw [if_neg (show ¬ (1 : Int32) = 0 by decide)]
    have zx : mx_out (fun b j => b = 1 ∧ j = 2) ca (mx_up ca.1 1 2 0, ca.2) := mx_out_up mx_out.rf rfl ⟨rfl, rfl⟩
    have hNa : Nt (mx_up ca.1 1 2 0, ca.2) 27 (stN (da.1 225)) := Nt_mem q4.1 (fun b h1 h2 => zx.cell b (fun j => by omega))
    obtain ⟨c7, k1, k2, k3⟩ := C_copyFrom (a := 4) hNa (by omega)
    have z7 := ZX4_copyFrom k1
    show Sm (Option.bind (FX4_copyFrom 4 27 (mx_up ca.1 1 2 0, ca.2)) _) _
    rw [k1, ob_some]
    unfold FX8_clear FX3_forget FX5_lines
    rw [mx_letI, mx_letI, mx_letI, ob_some, mx_letI, ob_some, ob_some]
    obtain ⟨d7, d8, j1, j2, j3, j4⟩ := M_heads da (i3 ln)
    obtain ⟨d9, j5, j6⟩ := M_start j3
    have zd7 : mx_out (fun b _ => b = 224) da d7 := (ZX12_network_L97 mx_FU j1).sub (fun b j q => by unfold WSX12_network_L97 at q; omega)
    have zd8 : mx_out (fun b _ => b = 230) d7 d8 := (ZX12_network_L123 mx_FU j2).sub (fun b j q => by unfold WSX12_network_L123 at q; omega)
    have zd9 : mx_out (fun b _ => b = 224) d8 d9 := (ZX12_startSo j5).sub (fun b j q => by unfold WSX12_startSo at q; omega)
    dsimp only
    show Sm _ (Option.bind (FX12_network_L97 222 (i3 ln) mx_FU (i3 0) da) _)
    rw [j1, ob_some]
    show Sm _ (Option.bind (FX12_network_L123 222 (i3 ln) mx_FU (i3 0) d7) _)
    rw [j2, ob_some, j5, ob_some, mx_letI]
    have z10 : mx_out (fun b j => b = 222 ∧ j = 25) d9 (mx_up d9.1 222 25 0, d9.2) := mx_out_up mx_out.rf rfl ⟨rfl, rfl⟩
    have z11 : mx_out (fun b j => (b = 174 ∧ (j = 4 ∨ j = 5 ∨ j = 6)) ∨ (b = 68 ∧ j = 2)) c7 (mx_up (mx_up (mx_up (mx_up c7.1 174 6 0) 174 4 0) 174 5 0) 68 2 0, c7.2) := mx_out_up (mx_out_up (mx_out_up (mx_out_up mx_out.rf rfl (by omega)) rfl (by omega)) rfl (by omega)) rfl (by omega)
    have zcB : mx_out (fun b j => (b = 1 ∧ 2 ≤ j) ∨ (26 ≤ b ∧ b ≤ 37) ∨ (4 ≤ b ∧ b ≤ 14) ∨ (b = 174 ∧ (j = 4 ∨ j = 5 ∨ j = 6)) ∨ (b = 68 ∧ j = 2)) c (mx_up (mx_up (mx_up (mx_up c7.1 174 6 0) 174 4 0) 174 5 0) 68 2 0, c7.2) := mx_out.tr (zcA.sub (fun b j q => by omega)) (mx_out.tr (zx.sub (fun b j q => by omega)) (mx_out.tr (z7.sub (fun b j q => by unfold WSX4_copyFrom at q; omega)) (z11.sub (fun b j q => by omega))))
    have zdB : mx_out (fun b j => (b = 222 ∧ (j = 0 ∨ (2 ≤ j ∧ j ≤ 13) ∨ j = 25)) ∨ b = 224 ∨ b = 225 ∨ b = 230 ∨ b = 231 ∨ b = 234) d (mx_up d9.1 222 25 0, d9.2) := mx_out.tr (zdA.sub (fun b j q => by omega)) (mx_out.tr (zd7.sub (fun b j q => by omega)) (mx_out.tr (zd8.sub (fun b j q => by omega)) (mx_out.tr (zd9.sub (fun b j q => by omega)) (z10.sub (fun b j q => by omega)))))
    have e1c : c7.1 1 10 = 0 := by rw [z7.fld 1 10 (by unfold WSX4_copyFrom; omega), zx.fld 1 10 (by omega)]; exact q6
    have e224 : (mx_up d9.1 222 25 0, d9.2).1 224 = d9.1 224 := z10.cell 224 (fun j => by omega)
    have e230 : ∀ p, p < 10 → (mx_up d9.1 222 25 0, d9.2).2 230 p = da.2 231 p := fun p hp => by
      rw [z10.cellL 230 (fun j => by omega), zd9.cellL 230 (fun j => by omega)]; exact j4 p hp
    refine hb_some ⟨?_, RR_nw h (ag_of zcB (fun b j q => by unfold SC at q; omega)) (ag_of zdB (fun b j q => by unfold SD at q; omega)) (TP_0 h.1 ?_ ?_ (zcB.cellL 3 (fun j => by omega))) ?_ ?_ ?_ ?_⟩
    · show mx_up (mx_up (mx_up (mx_up c7.1 174 6 0) 174 4 0) 174 5 0) 68 2 0 26 1 = i3 ln
      rw [up_off _ (by omega), up_off _ (by omega), up_off _ (by omega), up_off _ (by omega), z7.fld 26 1 (by unfold WSX4_copyFrom; omega), zx.fld 26 1 (by omega)]
      exact q3
    · show mx_up (mx_up (mx_up (mx_up c7.1 174 6 0) 174 4 0) 174 5 0) 68 2 0 1 2 = 0
      rw [up_off _ (by omega), up_off _ (by omega), up_off _ (by omega), up_off _ (by omega), z7.fld 1 2 (by unfold WSX4_copyFrom; omega)]
      exact mx_up_self ca.1 1 2 0
    · rw [z10.fld 222 2 (by omega), zd9.fld 222 2 (by omega), zd8.fld 222 2 (by omega), zd7.fld 222 2 (by omega)]
      exact dA2
    · show mx_up (mx_up (mx_up (mx_up c7.1 174 6 0) 174 4 0) 174 5 0) 68 2 0 1 10 = mx_up d9.1 222 25 0 222 10
      rw [up_off _ (by omega), up_off _ (by omega), up_off _ (by omega), up_off _ (by omega), e1c, up_at, if_neg (by omega), zd9.fld 222 10 (by omega), zd8.fld 222 10 (by omega), zd7.fld 222 10 (by omega), q7]
    · refine ⟨Nt_congr (Nt_mem k2 (fun b h1 h2 => z11.cell b (fun j => by omega))) (fun x hx => by rw [e224]; exact j6 x (by omega)) (fun x h1 h2 => by rw [e224]; exact j6 x (by omega)), fun p hp => ?_⟩
      have hP : nP ((mx_up d9.1 222 25 0, d9.2).1 224) = nP (stN (da.1 225)) := by unfold nP; rw [e224, j6 0 (by omega)]
      rw [hP] at hp
      have hp10 : p < 10 := by have := k2.1.1.2; omega
      rw [z11.cellL (4 + 1) (fun j => by omega), k3 p hp10, e230 p hp10]
      exact q4.2.1 p hp
    · obtain ⟨a, k, hH, hk⟩ := h.2.2.2.1
      refine ⟨a, 0, ⟨hH.1, by omega, ?_, mx_up_self (mx_up (mx_up (mx_up c7.1 174 6 0) 174 4 0) 174 5 0) 68 2 0, fun j hj => by omega⟩, mx_up_self d9.1 222 25 0⟩
      rw [zcB.fld 68 1 (by omega)]; exact hH.2.2.1
    · refine Or.inl ⟨?_, ?_⟩
      · show mx_up (mx_up (mx_up (mx_up c7.1 174 6 0) 174 4 0) 174 5 0) 68 2 0 174 6 = 0
        rw [up_off _ (by omega), up_at, if_neg (by omega), up_at, if_neg (by omega), up_at, if_pos rfl]
      · rw [e224, j6 190 (by omega)]
        unfold stN
        rw [if_neg (by omega), if_neg (by omega), if_neg (by omega), if_neg (by omega)]
  · subst q1 q2
    dsimp only [Sum.elim_inl] at zcA zdA dA2
    rw [se_inl, se_inl, ob_some, mx_letI, ob_some]
    dsimp only
    rw [if_pos rfl]
    exact bad ca da zcA zdA dA2 q3
  · subst q1 q2
    dsimp only [Sum.elim_inl, Sum.elim_inr] at zcA zdA dA2
    rw [se_inr, se_inl]
    show Sm (Option.bind (Option.bind (FX10_endsHere 1 ca) _) _) _
    rw [q3, ob_some]
    show Sm (Option.bind (some ((0 : Int32), c2)) _) _
    rw [ob_some, mx_letI, ob_some]
    dsimp only
    rw [if_pos rfl]
    have ze : mx_out (WSX10_endsHere 1) ca c2 := ZX10_endsHere q3
    exact bad c2 da (mx_out.tr zcA (ze.sub (fun b j q => by unfold WSX10_endsHere at q; omega))) zdA dA2 q4
end NETP
