/-! ===== operations: the heaviest pairings ===== -/
section OPE
variable {c c' d d' : mB}
/-- all but what is known of the links, and the best partners -/
def SCh : Nat → Nat → Prop := fun b j => SC b j ∧ ¬ (45 ≤ b ∧ b ≤ 65)
theorem RR_hv (h : RR c d) (hc : ag SCh c c') (hv : HV c') : RR c' d := by
  obtain ⟨h1, h2, h3, h4, h5, h6, h7, h8, h9, h10, h11, h12, h13, h14⟩ := h
  exact ⟨TP_mv h1 (ag_sub hc (fun b j q => by unfold SCh SC; omega)) ag_rf, FA_mv h2 (ag_sub hc (fun b j q => by unfold SCh SC; omega)) ag_rf, NE_mv h3 (ag_sub hc (fun b j q => by unfold SCh SC; omega)) ag_rf, HI_mv h4 (ag_sub hc (fun b j q => by unfold SCh SC; omega)) ag_rf, RW_mv h5 (ag_sub hc (fun b j q => by unfold SCh SC; omega)) ag_rf, RW_mv h6 (ag_sub hc (fun b j q => by unfold SCh SC; omega)) ag_rf, PF_mv h7 (ag_sub hc (fun b j q => by unfold SCh SC; omega)) ag_rf, AD_mv h8 (ag_sub hc (fun b j q => by unfold SCh SC; omega)) ag_rf, RN_mv h9 (ag_sub hc (fun b j q => by unfold SCh SC; omega)) ag_rf, hv, BK_mv h11 (ag_sub hc (fun b j q => by unfold SCh SC; omega)) ag_rf, SY_mv h12 (ag_sub hc (fun b j q => by unfold SCh SC; omega)) ag_rf, PI_mv h13 (ag_sub hc (fun b j q => by unfold SCh SC; omega)) ag_rf, RN_mv h14 (ag_sub hc (fun b j q => by unfold SCh SC; omega)) ag_rf⟩
theorem look (h : RR c d) : ∃ c1, FX2_lookAt 45 4 c = some c1 ∧ HL c1 (d.1 224) ∧ (c1.1 45 2 = 0 ∨ FT c1 (d.1 224)) ∧ RR c1 d := by
  obtain ⟨c1, e1, h1, f1⟩ := C_lookAt (by omega) h.2.2.1.1 h.2.2.2.2.2.2.2.2.2.1
  have z := ZX2_lookAt e1
  exact ⟨c1, e1, h1, f1, RR_hv h (ag_of z (fun b j q => by unfold SCh at q; unfold WSX2_lookAt; omega)) (HV_of h.2.2.1.1.1 h.2.2.1.1.2.1 h1 f1)⟩
/-- the reference's surveys change nothing that matters -/
theorem RR_sv (h : RR c d) (z : mx_out (WSX12_survey 222) d d') : RR c d' := RR_mv h ag_rf (ag_of z (fun b j q => by unfold SD at q; unfold WSX12_survey; omega))
theorem RR_sm (h : RR c d) (z : mx_out (WSX12_surveyMost 222) d d') : RR c d' := RR_mv h ag_rf (ag_of z (fun b j q => by unfold SD at q; unfold WSX12_surveyMost; omega))
theorem O_heavy (h : RR c d) (x : Int32) : Sm (FX11_heavy 0 x c) (FX12_heavy 222 x d) := by
  have h0 := th0 h 0
  unfold FX11_heavy FX12_heavy
  rw [mx_letI]
  generalize (mx_up d.1 222 0 0, d.2) = d0 at h0 ⊢
  obtain ⟨c1, e1, l1, -, R1⟩ := look h0
  obtain ⟨g, s, hg, hs⟩ := h0.2.2.1.1
  show Sm (Option.bind (FX2_lookAt 45 4 c) _) (Option.bind (FX12_isIn x (i3 0) (i3 5) d0) _)
  rw [e1, ob_some]
  show Sm (Option.bind (FX2_heaviestOf 45 x c1) _) _
  rcases M_in (x := x) (lo := 0) (hi := 5) (by omega) (by omega) d0 with ⟨w, rfl, w1, w2, e⟩ | ⟨w1, e⟩
  · obtain ⟨d1, e2, P, n1, -⟩ := M_survey g s rfl
    rw [e, ob_some, if_neg (show ¬ (1 : Int32) = 0 by decide), e2, ob_some, mx_inb_i3 (by omega) (by omega), mx_chkT, i3_toNat (by omega), heavy_agree g l1 P (by omega), ob_some]
    exact hb_some ⟨rfl, RR_sv R1 (ZX12_survey e2)⟩
  · have e3 : FX2_heaviestOf 45 x c1 = some (-1) := by
      unfold FX2_heaviestOf
      rcases w1 with q | q
      · have q' : x < 0 := q
        rw [if_pos q']
      · by_cases q0 : x < 0
        · rw [if_pos q0]
        · obtain ⟨k, rfl, hk⟩ := i3_of q0
          rw [i3_lt (by omega) hk] at q
          rw [if_neg q0, if_pos (by show i3 6 ≤ i3 k; rw [i3_le (by omega) hk]; omega)]
    rw [e, ob_some, if_pos rfl, e3, ob_some]
    exact hb_some ⟨rfl, R1⟩
theorem O_ways (h : RR c d) (x : Int32) : Sm (FX11_ways 0 x c) (FX12_ways 222 x d) := by
  have h0 := th0 h 0
  unfold FX11_ways FX12_ways
  rw [mx_letI]
  generalize (mx_up d.1 222 0 0, d.2) = d0 at h0 ⊢
  obtain ⟨c1, e1, l1, -, R1⟩ := look h0
  obtain ⟨g, s, hg, hs⟩ := h0.2.2.1.1
  show Sm (Option.bind (FX2_lookAt 45 4 c) _) (Option.bind (FX12_isIn x (i3 0) (i3 5) d0) _)
  rw [e1, ob_some]
  show Sm (Option.bind (FX2_countOf 45 x c1) _) _
  rcases M_in (x := x) (lo := 0) (hi := 5) (by omega) (by omega) d0 with ⟨w, rfl, w1, w2, e⟩ | ⟨w1, e⟩
  · obtain ⟨d1, e2, P, n1, -⟩ := M_survey g s rfl
    rw [e, ob_some, if_neg (show ¬ (1 : Int32) = 0 by decide), e2, ob_some, mx_inb_i3 (by omega) (by omega), mx_chkT, i3_toNat (by omega), ways_agree g l1 P (by omega), ob_some]
    exact hb_some ⟨rfl, RR_sv R1 (ZX12_survey e2)⟩
  · have e3 : FX2_countOf 45 x c1 = some 0 := by
      unfold FX2_countOf
      rcases w1 with q | q
      · have q' : x < 0 := q
        rw [if_pos q']
      · by_cases q0 : x < 0
        · rw [if_pos q0]
        · obtain ⟨k, rfl, hk⟩ := i3_of q0
          rw [i3_lt (by omega) hk] at q
          rw [if_neg q0, if_pos (by show i3 6 ≤ i3 k; rw [i3_le (by omega) hk]; omega)]
    rw [e, ob_some, if_pos rfl, e3, ob_some]
    exact hb_some ⟨rfl, R1⟩
theorem RR_47 (h : RR c d) (v : Int32) : RR c (mx_up d.1 222 47 v, d.2) := RR_mv h ag_rf (ag_of (S := fun b j => b = 222 ∧ j = 47) (mx_out_up mx_out.rf rfl ⟨rfl, rfl⟩) (fun b j q => by unfold SD at q; omega))
theorem O_next (h : RR c d) : Sm (FX11_next 0 c) (FX12_next 222 d) := by
  have h0 := th0 h 0
  unfold FX11_next FX12_next
  rw [mx_letI]
  generalize (mx_up d.1 222 0 0, d.2) = d0 at h0 ⊢
  rw [mx_letI]
  have h1 := RR_47 h0 0
  have a47 : (mx_up d0.1 222 47 0, d0.2).1 222 47 = i3 (2 * 0) := mx_up_self d0.1 222 47 0
  generalize (mx_up d0.1 222 47 0, d0.2) = d1 at h1 a47 ⊢
  obtain ⟨c1, e1, l1, -, R1⟩ := look h1
  obtain ⟨g, s, hg, hs⟩ := h1.2.2.1.1
  obtain ⟨d2, e2, P, n2⟩ := M_surveyMost (nq := 0) (qp := fun _ => 0) (qv := fun _ => 0) g s rfl ⟨a47, by omega, fun k hk => by omega⟩
  show Sm (Option.bind (FX2_lookAt 45 4 c) _) _
  rw [e1, ob_some, e2, ob_some]
  show Sm (Option.bind (FX2_second 45 c1) _) _
  rw [next_agree g s l1 P, ob_some]
  exact hb_some ⟨rfl, RR_sm R1 (ZX12_surveyMost e2)⟩
theorem O_gain (h : RR c d) : Sm (FX11_gain 0 c) (FX12_gain 222 d) := by
  obtain ⟨g, s, hg, hs⟩ := h.2.2.1.1
  obtain ⟨G, d1, e1, m1⟩ := M_gain g s (d := d) rfl
  obtain ⟨G2, c1, e2, m2⟩ := C_gain (by omega) h.2.2.1.1
  unfold FX11_gain
  show Sm (Option.bind (FX9_greatestGain 38 4 c) _) _
  rw [e1, e2, ob_some, isMax_uniq m1 m2]
  have zc : mx_out (WSX9_greatestGain 38 4) c c1 := ZX9_greatestGain e2
  have zd : mx_out (WSX12_gain 222) d d1 := ZX12_gain e1
  have hc : ag SC c c1 := ag_of zc (fun b j q => by unfold SC at q; unfold WSX9_greatestGain; omega)
  have hd : ag SD d d1 := ag_of zd (fun b j q => by unfold SD at q; unfold WSX12_gain; omega)
  exact hb_some ⟨rfl, RR_mv h hc hd⟩
theorem O_best (h : RR c d) : Sm (FX11_best 0 c) (FX12_best 222 d) := by
  have h0 := th0 h 0
  unfold FX11_best FX12_best
  rw [mx_letI]
  generalize (mx_up d.1 222 0 0, d.2) = d0 at h0 ⊢
  obtain ⟨c1, e1, l1, f1, R1⟩ := look h0
  obtain ⟨g, s, hg, hs⟩ := h0.2.2.1.1
  have hn := g.1.2
  obtain ⟨c2, e2, l2, r2, v2⟩ := C_bestInto g s l1
  have zc := ZX2_bestInto e2
  obtain ⟨d1, e3, P, n1, -⟩ := M_survey g s rfl
  have zd := ZX12_survey e3
  show Sm (Option.bind (FX2_lookAt 45 4 c) _) _
  rw [e1, ob_some, e3, ob_some]
  show Sm (Option.bind (FX2_bestInto 45 66 c1) _) _
  rw [e2, ob_some]
  show Sm (Option.bind (FX2_top 45 c2) _) _
  rw [top_agree g s l2 P, ob_some, mx_letI]
  have e224 : d1.1 (222 + 2) 0 = i3 (nP (d0.1 224)) := by show d1.1 224 0 = _; rw [n1, g.1.1]
  rw [e224]
  have z45 : mx_out (fun b j => b = 222 ∧ j = 45) d1 (mx_up d1.1 222 45 (i3 (nP (d0.1 224))), d1.2) := mx_out_up mx_out.rf rfl ⟨rfl, rfl⟩
  have key : hw (FX12_best_L21 222 mx_FU (i3 0) (mx_up d1.1 222 45 (i3 (nP (d0.1 224))), d1.2)) (fun d2 => mx_out (fun b _ => b = 240) (mx_up d1.1 222 45 (i3 (nP (d0.1 224))), d1.2) d2 ∧ ∀ i, i < nP (d0.1 224) → d2.1 240 i = d1.1 239 i) := by
    refine lp_inv (L := fun fu y m => FX12_best_L21 222 fu y m) (n := nP (d0.1 224)) (fun k m => mx_out (fun b _ => b = 240) (mx_up d1.1 222 45 (i3 (nP (d0.1 224))), d1.2) m ∧ ∀ i, i < k → m.1 240 i = d1.1 239 i) ?_ ?_ 0 mx_FU _ (by omega) (FU_lt (by omega)) ⟨mx_out.rf, fun i hi => by omega⟩
    · intro fu m hI
      show hw (FX12_best_L21 222 (fu + 1) (i3 (nP (d0.1 224))) m) _
      have e45 : m.1 222 45 = i3 (nP (d0.1 224)) := by rw [hI.1.fld 222 45 (by omega)]; exact mx_up_self d1.1 222 45 _
      rw [FX12_best_L21, e45, if_pos (by rw [i3_le (by omega) (by omega)]; omega)]
      exact hw_some hI
    · intro fu k m hk hI hs2
      show hw (FX12_best_L21 222 (fu + 1) (i3 k) m) _
      have e45 : m.1 222 45 = i3 (nP (d0.1 224)) := by rw [hI.1.fld 222 45 (by omega)]; exact mx_up_self d1.1 222 45 _
      have e239 : m.1 (222 + 17) k = d1.1 239 k := by
        show m.1 239 k = _
        rw [hI.1.cell 239 (fun j => by omega), z45.cell 239 (fun j => by omega)]
      rw [FX12_best_L21, e45, if_neg (by rw [i3_le (by omega) (by omega)]; omega), mx_inb_i3 (by omega) (by omega), mx_chkT, i3_toNat (by omega), e239, mx_letI, mx_letI, i3_succ]
      refine hs2 _ ⟨mx_out_up hI.1 rfl rfl, fun i hi => ?_⟩
      show mx_up m.1 240 k (d1.1 239 k) 240 i = _
      rw [up_at]
      by_cases q : i = k
      · rw [if_pos q, q]
      · rw [if_neg q]; exact hI.2 i (by omega)
  obtain ⟨d2, e4, z4, v4⟩ := key
  show Sm _ (Option.bind (FX12_best_L21 222 mx_FU (i3 0) (mx_up d1.1 222 45 (i3 (nP (d0.1 224))), d1.2)) _)
  rw [e4, ob_some]
  refine hb_some ⟨?_, ?_⟩
  · show d1.1 222 41 = d2.1 222 41
    rw [z4.fld 222 41 (by omega), z45.fld 222 41 (by omega)]
  · obtain ⟨h1, h2, h3, h4, h5, h6, h7, h8, h9, h10, h11, h12, h13, h14⟩ := R1
    have zd2 : mx_out (fun b j => (b = 222 ∧ j = 45) ∨ b = 240 ∨ WSX12_survey 222 b j) d0 d2 := mx_out.tr (zd.sub (fun b j q => Or.inr (Or.inr q))) (mx_out.tr (z45.sub (fun b j q => Or.inl q)) (z4.sub (fun b j q => Or.inr (Or.inl q))))
    have hc : ag (fun b j => ¬ (b = 63 ∨ (b = 66 ∧ j = 1) ∨ b = 67)) c1 c2 := ag_of zc (fun b j q => by unfold WSX2_bestInto; omega)
    have hd : ag (fun b j => SD b j ∧ ¬ ((b = 222 ∧ j = 45) ∨ b = 240)) d0 d2 := ag_of zd2 (fun b j q => by unfold SD at q; unfold WSX12_survey; omega)
    obtain ⟨t, B, t1, t2, t3⟩ := P.2.2.1
    have hB := (fb_isB (en_ne g s (all_lt g)) t2).1
    refine ⟨TP_mv h1 (ag_sub hc (fun b j q => by omega)) (ag_sub hd (fun b j q => by unfold SD; omega)), FA_mv h2 (ag_sub hc (fun b j q => by omega)) (ag_sub hd (fun b j q => by unfold SD; omega)), NE_mv h3 (ag_sub hc (fun b j q => by omega)) (ag_sub hd (fun b j q => by unfold SD; omega)), HI_mv h4 (ag_sub hc (fun b j q => by omega)) (ag_sub hd (fun b j q => by unfold SD; omega)), RW_mv h5 (ag_sub hc (fun b j q => by omega)) (ag_sub hd (fun b j q => by unfold SD; omega)), RW_mv h6 (ag_sub hc (fun b j q => by omega)) (ag_sub hd (fun b j q => by unfold SD; omega)), PF_mv h7 (ag_sub hc (fun b j q => by omega)) (ag_sub hd (fun b j q => by unfold SD; omega)), AD_mv h8 (ag_sub hc (fun b j q => by omega)) (ag_sub hd (fun b j q => by unfold SD; omega)), ⟨nP (d0.1 224), r2, ?_, fun i hi => ?_⟩, HV_of g s l2 ?_, BK_mv h11 (ag_sub hc (fun b j q => by omega)) (ag_sub hd (fun b j q => by unfold SD; omega)), SY_mv h12 (ag_sub hc (fun b j q => by omega)) (ag_sub hd (fun b j q => by unfold SD; omega)), PI_mv h13 (ag_sub hc (fun b j q => by omega)) (ag_sub hd (fun b j q => by unfold SD; omega)), RN_mv h14 (ag_sub hc (fun b j q => by omega)) (ag_sub hd (fun b j q => by unfold SD; omega))⟩
    · show d2.1 222 45 = _
      rw [z4.fld 222 45 (by omega)]; exact mx_up_self d1.1 222 45 _
    · show c2.1 67 i = d2.1 240 i
      rw [v2 i hi, v4 i hi, t3 i hi (en_ne g s (all_lt g)), hB]
    · rw [zc.fld 45 2 (by unfold WSX2_bestInto; omega)]
      refine f1.imp id (fun q l hl => ?_)
      rw [zc.cell 65 (fun j => by unfold WSX2_bestInto; omega)]; exact q l hl
end OPE
