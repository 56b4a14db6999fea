/-! ===== operation: tag, whole ===== -/
section TAGO
variable {c c' d d' : mB} {k : Nat}
/-- where the tag goes on behind the first name and the second -/
theorem T_tail {p : Nat} (hp : p < nP (d.1 224)) (hN : NE c d) (hT : TXk c d k) (hk : k ≤ 20) : hb (Option.bind (FX7_addText (0 + 186) 3 (mx_sl.getD 3 0) 0 c) (fun r10 => Option.bind (FX4_priceOf (0 + 4) (i3 p) r10) (fun r11 => Option.bind (FX7_addDigits (0 + 186) r11 r10) (fun r12 => Option.bind (FX7_size (0 + 186) r12) (fun r13 => (some (r13, r12)))))))
    (Option.bind (FX12_spelt 97 116 0 0 0 0 d) (fun r11 => Option.bind (FX12_writeNext 222 r11 d) (fun r12 => Option.bind (FX12_write 222 32 r12) (fun r13 => mx_chk (mx_inb (168 + i3 p) 432) (Option.bind (FX12_writeNumber 64 222 (r13.1 (222 + 2) (Int32.toNatClampNeg (168 + i3 p))) r13) (fun r15 => (some ((r15.1 222 51), r15)))))))) (fun r s => r.1 = s.1 ∧ (∃ k', TXk r.2 s.2 k') ∧ mx_out WTa c r.2 ∧ mx_out WTb d s.2) := by
  have hp10 : p < 10 := Nat.lt_of_lt_of_le hp hN.1.1.1.2
  have eq1 : FX7_addText (0 + 186) 3 (mx_sl.getD 3 0) 0 c = wrl (FX7_add 186) [32, 97, 116, 32] c := C_txt3 c
  obtain ⟨c1, d1, e1, e2, n1, t1, z1, z2⟩ := T_wr [32, 97, 116, 32] hN hT (by simp; omega)
  have em : Option.bind (wrl (FX12_write 222) (32 :: wlt [1, 20]) d) (fun r12 => FX12_write 222 32 r12) = some d1 := by
    rw [w_at.2, ← e2, show ([32, 97, 116, 32] : List Int32) = [32, 97, 116] ++ [32] from rfl, wrl_app]
    congr 1
    funext m1
    show _ = Option.bind (FX12_write 222 32 m1) (fun m2 => some m2)
    cases FX12_write 222 32 m1 <;> rfl
  have em2 : ∀ K : mB → Option (Int32 × mB), Option.bind (wrl (FX12_write 222) (32 :: wlt [1, 20]) d) (fun r12 => Option.bind (FX12_write 222 32 r12) K) = K d1 := fun K => by
    cases ew : wrl (FX12_write 222) (32 :: wlt [1, 20]) d with
    | none => rw [ew] at em; cases em
    | some m1 =>
      rw [ew, ob_some] at em
      rw [ob_some, em, ob_some]
  obtain ⟨g, s, hg, hs⟩ := n1.1
  have nn : nP (d1.1 224) = nP (d.1 224) := by rw [z2.cell 224 (fun j => by unfold WTb; omega)]
  have hp1 : p < nP (d1.1 224) := by rw [nn]; exact hp
  obtain ⟨w, hw1, hw2⟩ := s.2.2.2.1 p hp1
  have epr : FX4_priceOf (0 + 4) (i3 p) c1 = some (i3 w) := by rw [← hw1]; exact C_priceOf_y g hg hs hp1
  rw [eq1, e1, ob_some, epr, ob_some, M_at, ob_some, M_writeNext w_at.1, em2, i3_Ladd, mx_inb_i3 (by omega) (by omega), mx_chkT, i3_toNat (by omega)]
  show hb (Option.bind (FX7_addDigits 186 (i3 w) c1) _) (Option.bind (FX12_writeNumber 64 222 (d1.1 224 (168 + p)) d1) _) _
  rw [hw1, C_addDigits, M_writeNumber (by omega)]
  have hl := dgs_len (i3 w)
  obtain ⟨c2, d2, f1, f2, n2, t2, y1, y2⟩ := T_wr (dgs (i3 w)) n1 t1 (by simp; omega)
  rw [f1, f2, ob_some, ob_some]
  unfold FX7_size
  rw [ob_some]
  refine hb_some ⟨?_, ⟨_, t2⟩, mx_out.tr z1 y1, mx_out.tr z2 y2⟩
  show c2.1 186 1 = d2.1 222 51
  rw [t2.1.1, t2.2.1]
theorem C_nameOf_y {N : Rw} (g : GI N) (h : CG c 4 N) {p : Nat} (hp : p < nP N) : FX4_nameOf (0 + 4) (i3 p) c = some (c.2 5 p) := by
  have hp10 : p < 10 := Nat.lt_of_lt_of_le hp g.1.2
  unfold FX4_nameOf
  show Option.bind (FX4_hasPoint 4 (i3 p) c) _ = _
  rw [C_hasPoint_y g h hp, ob_some, if_neg (show ¬ (1 : Int32) = 0 by decide), mx_inb_i3 (by omega) (by omega), mx_chkT, i3_toNat (by omega)]
theorem O_tag (h : RR c d) (x : Int32) : Sm (FX11_tag 0 x c) (FX12_tag 222 x d) := by
  have h0 := th0 h 0
  unfold FX12_tag
  rw [mx_letI]
  generalize (mx_up d.1 222 0 0, d.2) = d0 at h0 ⊢
  have hNE : NE c d0 := h0.2.2.1
  obtain ⟨g, s, hg, hs⟩ := hNE.1
  unfold FX11_tag
  by_cases hx : ∃ p, p < nP (d0.1 224) ∧ x = i3 p
  · obtain ⟨p, hp, rfl⟩ := hx
    have hp10 : p < 10 := Nat.lt_of_lt_of_le hp g.1.2
    have e0 : FX4_hasPoint (0 + 4) (i3 p) c = some 1 := C_hasPoint_y g hg hp
    rw [e0, M_isPoint_y g rfl hp, ob_some, ob_some, if_neg (show ¬ (1 : Int32) = 0 by decide), if_neg (show ¬ (1 : Int32) = 0 by decide)]
    unfold FX7_clear
    rw [mx_letI, ob_some, mx_letI, mx_inb_i3 (by omega) (by omega), mx_chkT, i3_toNat (by omega)]
    show Sm (Option.bind (FX4_nameOf (0 + 4) (i3 p) (mx_up c.1 186 1 0, c.2)) _) (Option.bind (FX12_writeWord 64 222 (d0.2 230 p) (mx_up d0.1 222 51 0, d0.2)) _)
    have za : mx_out WTa c (mx_up c.1 186 1 0, c.2) := mx_out_up mx_out.rf rfl (Or.inl ⟨rfl, rfl⟩)
    have zb : mx_out WTb d0 (mx_up d0.1 222 51 0, d0.2) := mx_out_up mx_out.rf rfl (Or.inl ⟨rfl, rfl⟩)
    have hRN := h0.2.2.2.2.2.2.2.2.2.2.2.2.2
    obtain ⟨kk, hRl, -⟩ := hRN
    have T0 : TXk (mx_up c.1 186 1 0, c.2) (mx_up d0.1 222 51 0, d0.2) 0 := ⟨⟨mx_up_self c.1 186 1 0, by omega, hRl.2.2⟩, mx_up_self d0.1 222 51 0, fun i hi => by omega⟩
    have ed : d0.2 230 = (mx_up d0.1 222 51 0, d0.2).2 230 := rfl
    rw [ed]
    generalize (mx_up c.1 186 1 0, c.2) = c1 at za T0 ⊢
    generalize (mx_up d0.1 222 51 0, d0.2) = d1 at zb T0 ⊢
    have N1 : NE c1 d1 := NE_mv hNE (ag_of za (fun b j q => by unfold WTa; omega)) (ag_of zb (fun b j q => by unfold WTb; omega))
    have q224 : d1.1 224 = d0.1 224 := zb.cell 224 (fun j => by unfold WTb; omega)
    have hp1 : p < nP (d1.1 224) := by rw [q224]; exact hp
    obtain ⟨w, hw, w1, w2⟩ := N1.2 p hp1
    rw [C_nameOf_y N1.1.1 N1.1.2.2.1 hp1, ob_some, w1, w2]
    show Sm (Option.bind (FX7_addName 186 (Int64.ofNat (p32 w)) c1) _) _
    rw [C_addName 186 hw c1, M_writeWord 64 w (by have := hw.2.1; omega) hw d1]
    have lw := wlt_len hw
    obtain ⟨c2, d2, f1, f2, N2, T2, y1, y2⟩ := T_wr (wlt w) N1 T0 (by omega)
    have f1' : wrl (FX7_add 186) (w.map (fun l => i3 (96 + l))) c1 = some c2 := f1
    have f2' : wrl (FX12_write 222) (w.map (fun l => i3 (96 + l))) d1 = some d2 := f2
    rw [f1', f2', ob_some, ob_some]
    have q2 : d2.1 224 = d1.1 224 := y2.cell 224 (fun j => by unfold WTb; omega)
    have hp2 : p < nP (d2.1 224) := by rw [q2]; exact hp1
    obtain ⟨g2, s2, hg2, hs2⟩ := N2.1
    have el : FX4_isLone (0 + 4) (i3 p) c2 = some (b2 (decide (d2.1 224 (158 + p) = -1))) := C_isLone_y g2 hg2 hs2 hp2
    have em : FX12_isLone 222 (i3 p) d2 = some (b2 (decide (d2.1 224 (158 + p) = -1))) := M_isLone_y g2 rfl hp2
    rw [el, em, ob_some, ob_some, mx_letI, mx_letI]
    have fin : ∀ {X Y : Option (Int32 × mB)} {c3 d3 : mB}, hb X Y (fun r s => r.1 = s.1 ∧ (∃ k', TXk r.2 s.2 k') ∧ mx_out WTa c3 r.2 ∧ mx_out WTb d3 s.2) → mx_out WTa c2 c3 → mx_out WTb d2 d3 → Sm X Y := by
      intro X Y c3 d3 hX x1 x2
      refine hb_mono hX (fun r s q => ⟨q.1, ?_⟩)
      obtain ⟨-, ⟨k', t1, t2, t3⟩, v1, v2⟩ := q
      have ZA : mx_out WTa c r.2 := mx_out.tr za (mx_out.tr y1 (mx_out.tr x1 v1))
      have ZB : mx_out WTb d0 s.2 := mx_out.tr zb (mx_out.tr y2 (mx_out.tr x2 v2))
      exact RR_pi h0 (ag_of ZA (fun b j q => by unfold SC at q; unfold WTa; omega)) (ag_of ZB (fun b j q => by unfold SD at q; unfold WTb; omega)) (PI_mv h0.2.2.2.2.2.2.2.2.2.2.2.2.1 (ag_of ZA (fun b j q => by unfold WTa; omega)) (ag_of ZB (fun b j q => by unfold WTb; omega))) ⟨k', t1, t2, t3⟩
    by_cases hl : d2.1 224 (158 + p) = -1
    · rw [decide_eq_true hl, show b2 true = 1 from rfl, if_neg (show ¬ (1 : Int32) = 0 by decide), if_neg (show ¬ (1 : Int32) = 0 by decide)]
      have ew : FX12_wordOf 13 d2 = some (Int64.ofNat (p27 (wd 13))) := M_wordOf d2 13 (by omega)
      have et : FX7_addText (0 + 186) 1 (mx_sl.getD 1 0) 0 c2 = wrl (FX7_add 186) [32, 108, 111, 110, 101] c2 := C_txt1 c2
      obtain ⟨c3, d3, u1, u2, N3, T3, x1, x2⟩ := T_wr [32, 108, 111, 110, 101] N2 T2 (by simp; omega)
      rw [et, u1, ob_some, ew, ob_some, M_writeNext w_lone.1, w_lone.2, u2, ob_some]
      exact fin (T_tail (by rw [x2.cell 224 (fun j => by unfold WTb; omega)]; exact hp2) N3 T3 (by simp; omega)) x1 x2
    · rw [decide_eq_false hl, show b2 false = 0 from rfl, if_pos rfl, if_pos rfl]
      have ew : FX12_wordOf 15 d2 = some (Int64.ofNat (p27 (wd 15))) := M_wordOf d2 15 (by omega)
      have et : FX7_addText (0 + 186) 2 (mx_sl.getD 2 0) 0 c2 = wrl (FX7_add 186) [32, 119, 105, 116, 104, 32] c2 := C_txt2 c2
      rcases s2.2.2.1 p hp2 with q | ⟨q, hq, hqe, -⟩
      · exact absurd q hl
      · have hq10 : q < 10 := Nat.lt_of_lt_of_le hq g2.1.2
        obtain ⟨wq, hwq, wq1, wq2⟩ := N2.2 q hq
        have lq := wlt_len hwq
        obtain ⟨c3, d3, u1, u2, N3, T3, x1, x2⟩ := T_wr [32, 119, 105, 116, 104, 32] N2 T2 (by simp; omega)
        have q3 : d3.1 224 = d2.1 224 := x2.cell 224 (fun j => by unfold WTb; omega)
        have hq3 : q < nP (d3.1 224) := by rw [q3]; exact hq
        have ep : FX4_partnerOf (0 + 4) (i3 p) c3 = some (i3 q) := by
          have := C_partnerOf_y N3.1.1 N3.1.2.2.1 N3.1.2.2.2 (p := p) (by rw [q3]; exact hp2)
          rw [q3, hqe] at this
          exact this
        have ec5 : c3.2 5 q = Int64.ofNat (p32 wq) := by rw [x1.cellL 5 (fun j => by unfold WTa; omega)]; exact wq1
        obtain ⟨c4, d4, k1, k2, N4, T4, v1, v2⟩ := T_wr (wlt wq) N3 T3 (by simp; omega)
        -- the reference: ' with', then ' ' and the name
        have big : wrl (FX12_write 222) ([32, 119, 105, 116, 104] ++ (32 :: wlt wq)) d2 = some d4 := by
          rw [show ([32, 119, 105, 116, 104] : List Int32) ++ (32 :: wlt wq) = [32, 119, 105, 116, 104, 32] ++ wlt wq from rfl, wrl_app, u2, ob_some, k2]
        rw [wrl_app] at big
        obtain ⟨m1, hm1, hm2⟩ := Option.bind_eq_some_iff.mp big
        obtain ⟨cx, dx, kx1, kx2, -, -, -, z5⟩ := T_wr [32, 119, 105, 116, 104] N2 T2 (by simp; omega)
        have e5 : dx = m1 := Option.some.inj (kx2.symm.trans hm1)
        subst e5
        have i5 : dx.1 (222 + 2) (158 + p) = i3 q := by
          show dx.1 224 (158 + p) = _
          rw [z5.cell 224 (fun j => by unfold WTb; omega)]; exact hqe
        have l5 : dx.2 (222 + 8) q = Int64.ofNat (p27 wq) := by
          show dx.2 230 q = _
          rw [z5.cellL 230 (fun j => by unfold WTb; omega)]; exact wq2
        have k1' : wrl (FX7_add 186) (wq.map (fun l => i3 (96 + l))) c3 = some c4 := k1
        rw [et, u1, ob_some, ep, ob_some, C_nameOf_y N3.1.1 N3.1.2.2.1 hq3, ob_some, ec5, ew, ob_some, M_writeNext w_with.1, w_with.2, hm1, ob_some, i3_Ladd, mx_inb_i3 (by omega) (by omega), mx_chkT, i3_toNat (by omega), i5, mx_inb_i3 (by omega) (by omega), mx_chkT, i3_toNat (by omega), l5, M_writeNext hwq, hm2, ob_some]
        show Sm (Option.bind (FX7_addName 186 (Int64.ofNat (p32 wq)) c3) _) _
        rw [C_addName 186 hwq c3, k1', ob_some]
        exact fin (T_tail (by rw [v2.cell 224 (fun j => by unfold WTb; omega), q3]; exact hp2) N4 T4 (by simp; omega)) (mx_out.tr x1 v1) (mx_out.tr x2 v2)
  · have hx' : ∀ k, k < nP (d0.1 224) → x ≠ i3 k := fun k hk e => hx ⟨k, hk, e⟩
    have e0 : FX4_hasPoint (0 + 4) x c = some 0 := C_hasPoint_n g hg hx'
    rw [e0, M_isPoint_n g rfl hx', ob_some, ob_some, if_pos rfl, if_pos rfl]
    exact hb_some ⟨rfl, h0⟩
end TAGO
