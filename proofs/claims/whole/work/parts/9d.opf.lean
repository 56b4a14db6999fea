/-! ===== operations: the tape; proof; links ===== -/
section OPF
variable {c c' d d' : mB} {n : Nat} {t : Nat → Nat}
/-- all but the tape -/
theorem RR_tp (h : RR c d) (hc : ag (fun b j => SC b j ∧ ¬ ((b = 1 ∧ j = 2) ∨ b = 2)) c c') (hd : ag (fun b j => SD b j ∧ ¬ ((b = 222 ∧ j = 2) ∨ b = 223)) d d') (ht : TP c' d') : RR c' d' := by
  obtain ⟨h1, h2, h3, h4, h5, h6, h7, h8, h9, h10, h11, h12, h13, h14⟩ := h
  exact ⟨ht, FA_mv h2 (ag_sub hc (fun b j q => by unfold SC; omega)) (ag_sub hd (fun b j q => by unfold SD; omega)), NE_mv h3 (ag_sub hc (fun b j q => by unfold SC; omega)) (ag_sub hd (fun b j q => by unfold SD; omega)), HI_mv h4 (ag_sub hc (fun b j q => by unfold SC; omega)) (ag_sub hd (fun b j q => by unfold SD; omega)), RW_mv h5 (ag_sub hc (fun b j q => by unfold SC; omega)) (ag_sub hd (fun b j q => by unfold SD; omega)), RW_mv h6 (ag_sub hc (fun b j q => by unfold SC; omega)) (ag_sub hd (fun b j q => by unfold SD; omega)), PF_mv h7 (ag_sub hc (fun b j q => by unfold SC; omega)) (ag_sub hd (fun b j q => by unfold SD; omega)), AD_mv h8 (ag_sub hc (fun b j q => by unfold SC; omega)) (ag_sub hd (fun b j q => by unfold SD; omega)), RN_mv h9 (ag_sub hc (fun b j q => by unfold SC; omega)) (ag_sub hd (fun b j q => by unfold SD; omega)), HV_mv h10 (fun b q1 q2 => (ag_cell hc b (fun j => by unfold SC; omega)).1), BK_mv h11 (ag_sub hc (fun b j q => by unfold SC; omega)) (ag_sub hd (fun b j q => by unfold SD; omega)), SY_mv h12 (ag_sub hc (fun b j q => by unfold SC; omega)) (ag_sub hd (fun b j q => by unfold SD; omega)), PI_mv h13 (ag_sub hc (fun b j q => by unfold SC; omega)) (ag_sub hd (fun b j q => by unfold SD; omega)), RN_mv h14 (ag_sub hc (fun b j q => by unfold SC; omega)) (ag_sub hd (fun b j q => by unfold SD; omega))⟩
theorem and255 (z : Int32) : ∃ v, v < 256 ∧ z &&& 255 = i3 v := by
  refine ⟨(z &&& 255).toBitVec.toNat, ?_, ?_⟩
  · show (z.toBitVec &&& 255#32).toNat < 256
    rw [BitVec.toNat_and]
    exact Nat.lt_of_le_of_lt Nat.and_le_right (by decide)
  · apply Int32.toBitVec_inj.mp
    show _ = BitVec.ofNat 32 _
    rw [BitVec.ofNat_toNat]
    simp
theorem Txt_put (h : Txt c d n t) (hn : n < 940) {v : Nat} (hv : v < 256) : Txt (mx_up (mx_up c.1 2 n (i3 v)) 1 2 (i3 (n + 1)), c.2) (mx_up (mx_up d.1 223 n (i3 v)) 222 2 (i3 (n + 1)), d.2) (n + 1) (fun j => if j = n then v else t j) := by
  obtain ⟨h1, h2, h3, h4, h5⟩ := h
  refine ⟨by omega, mx_up_self (mx_up c.1 2 n (i3 v)) 1 2 _, mx_up_self (mx_up d.1 223 n (i3 v)) 222 2 _, fun j hj => ?_, h5⟩
  show (if j = n then v else t j) < 256 ∧ mx_up (mx_up c.1 2 n (i3 v)) 1 2 (i3 (n + 1)) 2 j = i3 (if j = n then v else t j) ∧ mx_up (mx_up d.1 223 n (i3 v)) 222 2 (i3 (n + 1)) 223 j = i3 (if j = n then v else t j)
  rw [up_off _ (by omega), up_at, up_off _ (by omega), up_at]
  by_cases q : j = n
  · rw [if_pos q, if_pos q, if_pos q]; exact ⟨hv, rfl, rfl⟩
  · rw [if_neg q, if_neg q, if_neg q]; exact h4 j (by omega)
theorem put_st (h : Txt c d n t) (hn : n < 940) (x : Int32) {y : Int32} (hy : ¬ y < 0) (f : Nat) : ∃ v, v < 256 ∧ FX10_putFour_L3 1 x (f + 1) y c = FX10_putFour_L3 1 x f (y + (-8)) (mx_up (mx_up c.1 2 n (i3 v)) 1 2 (i3 (n + 1)), c.2) ∧ FX12_come_L3 222 x (f + 1) y d = FX12_come_L3 222 x f (y + (-8)) (mx_up (mx_up d.1 223 n (i3 v)) 222 2 (i3 (n + 1)), d.2) := by
  obtain ⟨h1, h2, h3, h4, h5⟩ := h
  obtain ⟨v, hv, ev⟩ := and255 (UInt32.toInt32 (Int32.toUInt32 x >>> (Int32.toUInt32 y &&& Int32.toUInt32 31)))
  refine ⟨v, hv, ?_, ?_⟩
  · rw [FX10_putFour_L3, if_neg hy, h2, if_neg (i3_ge0 (by omega)), if_neg (by show ¬ i3 940 ≤ _; rw [i3_le (by omega) (by omega)]; omega), mx_inb_i3 (by omega) (by omega), mx_chkT, i3_toNat (by omega), ev, mx_letI, mx_letI, mx_letI]
    have e : mx_up c.1 2 n (i3 v) 1 2 = i3 n := by rw [up_off _ (by omega)]; exact h2
    show FX10_putFour_L3 1 x f (y + -8) (mx_up (mx_up c.1 2 n (i3 v)) 1 2 (mx_up c.1 2 n (i3 v) 1 2 + 1), c.2) = _
    rw [e, i3_succ]
  · rw [FX12_come_L3, if_neg hy, h3, mx_inb_i3 (by omega) (by omega), mx_chkT, i3_toNat (by omega), ev, mx_letI, mx_letI, mx_letI]
    have e : mx_up d.1 223 n (i3 v) 222 2 = i3 n := by rw [up_off _ (by omega)]; exact h3
    show FX12_come_L3 222 x f (y + -8) (mx_up (mx_up d.1 223 n (i3 v)) 222 2 (mx_up d.1 223 n (i3 v) 222 2 + 1), d.2) = _
    rw [e, i3_succ]
theorem four (h : Txt c d n t) (hn : n + 4 ≤ 940) (x : Int32) : ∃ c' d' t', FX10_putFour 1 x c = some c' ∧ FX12_come 222 x d = some d' ∧ Txt c' d' (n + 4) t' := by
  obtain ⟨v1, b1, p1, q1⟩ := put_st h (by omega) x (y := 24) (by decide) 99999
  have h1 := Txt_put h (by omega) b1
  obtain ⟨v2, b2', p2, q2⟩ := put_st h1 (by omega) x (y := 24 + -8) (by decide) 99998
  have h2 := Txt_put h1 (by omega) b2'
  obtain ⟨v3, b3, p3, q3⟩ := put_st h2 (by omega) x (y := 24 + -8 + -8) (by decide) 99997
  have h3 := Txt_put h2 (by omega) b3
  obtain ⟨v4, b4, p4, q4⟩ := put_st h3 (by omega) x (y := 24 + -8 + -8 + -8) (by decide) 99996
  have h4 := Txt_put h3 (by omega) b4
  refine ⟨_, _, _, ?_, ?_, h4⟩
  · unfold FX10_putFour
    show Option.bind (FX10_putFour_L3 1 x (99999 + 1) 24 c) _ = _
    rw [p1]
    show Option.bind (FX10_putFour_L3 1 x (99998 + 1) (24 + -8) _) _ = _
    rw [p2]
    show Option.bind (FX10_putFour_L3 1 x (99997 + 1) (24 + -8 + -8) _) _ = _
    rw [p3]
    show Option.bind (FX10_putFour_L3 1 x (99996 + 1) (24 + -8 + -8 + -8) _) _ = _
    rw [p4]
    show Option.bind (FX10_putFour_L3 1 x (99995 + 1) (24 + -8 + -8 + -8 + -8) _) _ = _
    rw [FX10_putFour_L3, if_pos (by decide)]
    rfl
  · unfold FX12_come
    show Option.bind (FX12_come_L3 222 x (99999 + 1) 24 d) _ = _
    rw [q1]
    show Option.bind (FX12_come_L3 222 x (99998 + 1) (24 + -8) _) _ = _
    rw [q2]
    show Option.bind (FX12_come_L3 222 x (99997 + 1) (24 + -8 + -8) _) _ = _
    rw [q3]
    show Option.bind (FX12_come_L3 222 x (99996 + 1) (24 + -8 + -8 + -8) _) _ = _
    rw [q4]
    show Option.bind (FX12_come_L3 222 x (99995 + 1) (24 + -8 + -8 + -8 + -8) _) _ = _
    rw [FX12_come_L3, if_pos (by decide)]
    rfl
theorem O_feed (h : RR c d) (x0 x1 x2 x3 x4 : Int32) : Sm (FX11_feed 0 x0 x1 x2 x3 x4 c) (FX12_feed 222 x0 x1 x2 x3 x4 d) := by
  have h0 := th0 h 0
  unfold FX11_feed FX12_feed FX10_length
  rw [mx_letI]
  generalize (mx_up d.1 222 0 0, d.2) = d0 at h0 ⊢
  obtain ⟨n, t, hT⟩ := h0.1
  have hn := hT.1
  rw [ob_some]
  have e1 : c.1 (0 + 1) 2 = i3 n := hT.2.1
  rw [e1, hT.2.2.1, i3_addL]
  by_cases q : n + 20 ≤ 940
  · have q' : i3 (n + 20) ≤ 940 := by show _ ≤ i3 940; rw [i3_le (by omega) (by omega)]; exact q
    obtain ⟨c1, d1, t1, a1, b1, T1⟩ := four hT (by omega) x0
    obtain ⟨c2, d2, t2, a2, b2', T2⟩ := four T1 (by omega) x1
    obtain ⟨c3, d3, t3, a3, b3, T3⟩ := four T2 (by omega) x2
    obtain ⟨c4, d4, t4, a4, b4, T4⟩ := four T3 (by omega) x3
    obtain ⟨c5, d5, t5, a5, b5, T5⟩ := four T4 (by omega) x4
    rw [if_pos q', if_pos q']
    show Sm (Option.bind (FX10_putFour 1 x0 c) _) _
    rw [a1, b1, ob_some, ob_some]
    show Sm (Option.bind (FX10_putFour 1 x1 c1) _) _
    rw [a2, b2', ob_some, ob_some]
    show Sm (Option.bind (FX10_putFour 1 x2 c2) _) _
    rw [a3, b3, ob_some, ob_some]
    show Sm (Option.bind (FX10_putFour 1 x3 c3) _) _
    rw [a4, b4, ob_some, ob_some]
    show Sm (Option.bind (FX10_putFour 1 x4 c4) _) _
    rw [a5, b5, ob_some, ob_some, ob_some]
    have zc : mx_out (WSX10_putFour 1) c c5 := mx_out.tr (ZX10_putFour a1) (mx_out.tr (ZX10_putFour a2) (mx_out.tr (ZX10_putFour a3) (mx_out.tr (ZX10_putFour a4) (ZX10_putFour a5))))
    have zd : mx_out (WSX12_come 222) d0 d5 := mx_out.tr (ZX12_come b1) (mx_out.tr (ZX12_come b2') (mx_out.tr (ZX12_come b3) (mx_out.tr (ZX12_come b4) (ZX12_come b5))))
    refine hb_some ⟨?_, RR_tp h0 (ag_of zc (fun b j q => by unfold WSX10_putFour; omega)) (ag_of zd (fun b j q => by unfold WSX12_come; omega)) ⟨_, t5, T5⟩⟩
    show c5.1 1 2 = d5.1 222 2
    rw [T5.2.1, T5.2.2.1]
  · have q' : ¬ i3 (n + 20) ≤ 940 := by show ¬ _ ≤ i3 940; rw [i3_le (by omega) (by omega)]; exact q
    rw [if_neg q', if_neg q']
    exact hb_some ⟨rfl, h0⟩
theorem O_end (h : RR c d) (x : Int32) : Sm (FX11_end 0 x c) (FX12_end 222 x d) := by
  have h0 := th0 h 0
  unfold FX12_end
  rw [mx_letI]
  generalize (mx_up d.1 222 0 0, d.2) = d0 at h0 ⊢
  unfold FX11_end FX10_length FX10_cut
  obtain ⟨n, t, hT⟩ := h0.1
  have hn := hT.1
  by_cases q : x < 0
  · rw [if_pos q, if_pos q]; exact hb_some ⟨rfl, h0⟩
  · obtain ⟨k, rfl, hk⟩ := i3_of q
    have e1 : c.1 (0 + 1) 2 = i3 n := hT.2.1
    rw [if_neg q, if_neg q, ob_some, e1, hT.2.2.1]
    by_cases q2 : k ≤ n
    · have q' : i3 k ≤ i3 n := by rw [i3_le hk (by omega)]; exact q2
      rw [if_pos q', if_pos q', mx_letI, mx_letI, ob_some]
      have zc : mx_out (fun b j => b = 1 ∧ j = 2) c (mx_up c.1 1 2 (i3 k), c.2) := mx_out_up mx_out.rf rfl ⟨rfl, rfl⟩
      have zd : mx_out (fun b j => b = 222 ∧ j = 2) d0 (mx_up d0.1 222 2 (i3 k), d0.2) := mx_out_up mx_out.rf rfl ⟨rfl, rfl⟩
      refine hb_some ⟨rfl, RR_tp h0 (ag_of zc (fun b j q => by omega)) (ag_of zd (fun b j q => by omega)) ⟨k, t, by omega, mx_up_self c.1 1 2 _, mx_up_self d0.1 222 2 _, fun j hj => ?_, ?_⟩⟩
      · rw [zc.fld 2 j (by omega), zd.fld 223 j (by omega)]; exact hT.2.2.2.1 j (by omega)
      · exact hT.2.2.2.2
    · have q' : ¬ i3 k ≤ i3 n := by rw [i3_le hk (by omega)]; exact q2
      rw [if_neg q', if_neg q']
      exact hb_some ⟨rfl, h0⟩
theorem O_link (h : RR c d) (x y : Int32) : Sm (FX11_link 0 x y c) (FX12_link 222 x y d) := by
  have h0 := th0 h 0
  unfold FX11_link FX12_link
  rw [mx_letI]
  generalize (mx_up d.1 222 0 0, d.2) = d0 at h0 ⊢
  obtain ⟨g, s, hg, hs⟩ := h0.2.2.1.1
  have hL := g.2.1.2
  show Sm (Option.bind (FX4_hasLink 4 x c) _) _
  rcases i3_cases x (nL (d0.1 224)) (by omega) with ⟨l, hl, rfl⟩ | ⟨-, hx⟩
  · obtain ⟨a1, a2, -⟩ := g.2.2.1 l hl
    rw [C_hasLink_y g hg hl, M_isLink_y g rfl hl, ob_some, ob_some, if_neg (show ¬ (1 : Int32) = 0 by decide), if_neg (show ¬ (1 : Int32) = 0 by decide)]
    by_cases c0 : y = 0
    · rw [if_pos c0, if_pos c0]
      show Sm (Option.bind (FX4_fromOf 4 (i3 l) c) _) _
      rw [C_fromOf_y g hg hl, ob_some, i3_Ladd, mx_inb_i3 (by omega) (by omega), mx_chkT, i3_toNat (by omega)]
      exact hb_some ⟨a1.symm, h0⟩
    · rw [if_neg c0, if_neg c0]
      by_cases c1 : y = 1
      · rw [if_pos c1, if_pos c1]
        show Sm (Option.bind (FX4_toOf 4 (i3 l) c) _) _
        rw [C_toOf_y g hg hl, ob_some, i3_Ladd, mx_inb_i3 (by omega) (by omega), mx_chkT, i3_toNat (by omega)]
        exact hb_some ⟨a2.symm, h0⟩
      · rw [if_neg c1, if_neg c1]
        by_cases c2 : y = 2
        · rw [if_pos c2, if_pos c2]
          show Sm (Option.bind (FX4_weightAt 4 (i3 l) c) _) _
          rw [C_weightAt_y g hg hl, ob_some, i3_Ladd, mx_inb_i3 (by omega) (by omega), mx_chkT, i3_toNat (by omega)]
          exact hb_some ⟨rfl, h0⟩
        · rw [if_neg c2, if_neg c2]
          by_cases c3 : y = 3
          · rw [if_pos c3, if_pos c3]
            show Sm (Option.bind (FX4_isPair 4 (i3 l) c) _) _
            rw [C_isPair_y g hg hs hl, M_isOfPair_y g rfl hl, ob_some, ob_some]
            cases prd (d0.1 224) l
            · exact hb_some ⟨rfl, h0⟩
            · exact hb_some ⟨rfl, h0⟩
          · rw [if_neg c3, if_neg c3]
            by_cases c4 : y = 4
            · rw [if_pos c4, if_pos c4]
              obtain ⟨c1, e1, l1, f1, R1⟩ := look h0
              obtain ⟨c2, e2, l2, f2⟩ := C_fateOf g s l1 f1 hl
              obtain ⟨d1, e3⟩ := M_fateOf g s (d := d0) rfl hl
              show Sm (Option.bind (FX2_lookAt 45 4 c) _) _
              rw [e1, ob_some]
              show Sm (Option.bind (FX2_fateOf 45 (i3 l) c1) _) _
              rw [e2, e3, ob_some, ob_some]
              have zc : mx_out (WSX2_fateOf 45) c1 c2 := ZX2_fateOf e2
              have zd : mx_out (WSX12_fateOf 222) d0 d1 := ZX12_fateOf e3
              have hc : ag SCh c1 c2 := ag_of zc (fun b j q => by unfold SCh SC at q; unfold WSX2_fateOf; omega)
              have hd : ag SD d0 d1 := ag_of zd (fun b j q => by unfold SD at q; unfold WSX12_fateOf; omega)
              exact hb_some ⟨rfl, RR_mv (RR_hv R1 hc (HV_of g s l2 (Or.inr f2))) ag_rf hd⟩
            · rw [if_neg c4, if_neg c4]; exact hb_some ⟨rfl, h0⟩
  · rw [C_hasLink_n g hg hx, M_isLink_n g rfl hx, ob_some, ob_some, if_pos rfl, if_pos rfl]
    exact hb_some ⟨rfl, h0⟩
end OPF
