/-! ===== operation: who ===== -/
section WHOO
variable {c c' d d' : mB}
theorem ev_i3 {n : Nat} (h : n ≤ 940) : (i3 n - i3 n / 2 * 2 = 0) ↔ n % 2 = 0 := by
  have e1 : i3 n / 2 * 2 = i3 (n / 2 * 2) := by rw [i3_divL (by omega) (by omega), i3_mulL]
  rw [e1, i3_sub (by omega)]
  show i3 _ = i3 0 ↔ _
  rw [i3_eq (by omega) (by omega)]
  omega
theorem who_k (h : RR c d) (ht : TP c d) {y : Int32} {m4 : mB} (hm : mx_out (fun b j => (b = 45 ∧ j ≠ 1 ∧ j ≠ 2 ∧ j ≠ 3 ∧ j ≠ 5) ∨ (62 ≤ b ∧ b ≤ 64)) c m4) (hR : RR m4 d) {d2 : mB} (zd : mx_out (fun b j => (b = 222 ∧ (j = 2 ∨ j = 47 ∨ j = 48)) ∨ WSX12_surveyMost 222 b j) d d2) (h2 : d2.1 222 2 = 0) (hy : y ≤ 0) (h48 : d2.1 222 48 = d.1 222 48) : Sm (Option.bind (FX10_cut (0 + 1) 0 m4) (fun r6 => if y ≤ 0 then some (y, r6) else Option.bind (FX2_mostTelling (0 + 45) r6) (fun r8 => mx_let (mx_up r6.1 0 18 r8, r6.2) (fun m9 => some (y, m9))))) (some (y, d2)) := by
  unfold FX10_cut
  rw [mx_letI, ob_some, if_pos hy]
  have zx : mx_out (fun b j => b = 1 ∧ j = 2) m4 (mx_up m4.1 1 2 0, m4.2) := mx_out_up mx_out.rf rfl ⟨rfl, rfl⟩
  refine hb_some ⟨rfl, RR_ta hR (ag_of zx (fun b j q => by omega)) (ag_of zd (fun b j q => by unfold SD at q; unfold WSX12_surveyMost; omega)) (TP_0 ht (mx_up_self m4.1 1 2 0) h2 ?_) ?_⟩
  · show m4.2 3 = c.2 3
    exact hm.cellL 3 (fun j => by omega)
  · show mx_up m4.1 1 2 0 0 18 = d2.1 222 48
    rw [up_off _ (by omega), h48]
    exact hR.2.2.2.2.2.2.2.1
theorem O_who (h : RR c d) : Sm (FX11_who 0 c) (FX12_who 222 d) := by
  have h0 := th0 h 0
  unfold FX12_who
  rw [mx_letI]
  generalize (mx_up d.1 222 0 0, d.2) = d0 at h0 ⊢
  obtain ⟨n, t, hT⟩ := h0.1
  have h9 := hT.1
  obtain ⟨g, s, hg, hs⟩ := h0.2.2.1.1
  have hP := g.1.2
  unfold FX12_take
  rw [mx_letI, mx_letI, ob_some, hT.2.2.1]
  have zd1 : mx_out (fun b j => b = 222 ∧ j = 2) d0 (mx_up d0.1 222 2 0, d0.2) := mx_out_up mx_out.rf rfl ⟨rfl, rfl⟩
  have e2 : (mx_up d0.1 222 2 0, d0.2).1 222 2 = 0 := mx_up_self d0.1 222 2 0
  generalize (mx_up d0.1 222 2 0, d0.2) = d1 at zd1 e2 ⊢
  dsimp only
  have N1 : d1.1 224 = d0.1 224 := zd1.cell 224 (fun j => by omega)
  have t1 : ∀ j, j < n → t j < 256 ∧ d1.1 223 j = i3 (t j) := fun j hj => by rw [zd1.cell 223 (fun j => by omega)]; exact ⟨(hT.2.2.2.1 j hj).1, (hT.2.2.2.1 j hj).2.2⟩
  have len : FX10_length (0 + 1) c = some (i3 n) := by
    unfold FX10_length
    exact congrArg some hT.2.1
  -- the question is refused
  have no : FX11_isAsking 0 c = some 0 → Sm (FX11_who 0 c) (some (-1, d1)) := by
    intro e
    unfold FX11_who
    rw [e, ob_some, mx_letI, if_pos rfl]
    exact who_k h0 h0.1 mx_out.rf h0 (zd1.sub (fun b j q => Or.inl (by omega))) e2 (by decide) (zd1.fld 222 48 (by omega))
  have ev := ev_i3 h9
  by_cases c2 : n % 2 = 0
  · obtain ⟨nq, hnq⟩ : ∃ nq, n = 2 * nq := ⟨n / 2, by omega⟩
    rw [if_pos (ev.mpr c2), i3_divL (by omega) (by omega)]
    show Sm _ (Option.bind (FX12_isIn (i3 (n / 2)) (i3 1) (i3 6) d1) _)
    by_cases cr : 1 ≤ n / 2 ∧ n / 2 ≤ 6
    · rw [M_isIn_y cr.1 cr.2 (by omega), ob_some, if_neg (show ¬ (1 : Int32) = 0 by decide)]
      show Sm _ (Option.bind (FX12_who_L32 222 (i3 n) d1 mx_FU (i3 (2 * 0))) _)
      have asking : ∀ r : Int32 ⊕ Unit, FX11_isAsking_L29 0 (i3 n) c mx_FU (i3 (2 * 0)) = some r → FX11_isAsking 0 c = Sum.elim (fun rr => some rr) (fun _ => some 1) r := by
        intro r er
        unfold FX11_isAsking
        rw [len, ob_some, if_neg (by show ¬ i3 n < i3 2; rw [i3_lt (by omega) (by omega)]; omega), if_neg (by show ¬ i3 12 < i3 n; rw [i3_lt (by omega) (by omega)]; omega), if_pos (ev.mpr c2)]
        show Option.bind (FX11_isAsking_L29 0 (i3 n) c mx_FU (i3 (2 * 0))) _ = _
        rw [er, ob_some]
      rcases ask_m g h9 N1 t1 hnq with ⟨em, hwf⟩ | ⟨em, hwf⟩
      · rcases ask_c hT g hg hnq with ⟨ec, -⟩ | ⟨-, hno⟩
        · have ea := asking _ ec
          rw [se_inr] at ea
          rw [em, ob_some, se_inr, mx_letI]
          have z47 : mx_out (fun b j => b = 222 ∧ j = 47) d1 (mx_up d1.1 222 47 (i3 n), d1.2) := mx_out_up mx_out.rf rfl ⟨rfl, rfl⟩
          have a47 : (mx_up d1.1 222 47 (i3 n), d1.2).1 222 47 = i3 (2 * nq) := by rw [← hnq]; exact mx_up_self d1.1 222 47 (i3 n)
          have N2 : (mx_up d1.1 222 47 (i3 n), d1.2).1 224 = d0.1 224 := by rw [z47.cell 224 (fun j => by omega)]; exact N1
          have t2 : ∀ j, j < n → (mx_up d1.1 222 47 (i3 n), d1.2).1 223 j = i3 (t j) := fun j hj => by rw [z47.cell 223 (fun j => by omega)]; exact (t1 j hj).2
          generalize (mx_up d1.1 222 47 (i3 n), d1.2) = d2 at z47 a47 N2 t2 ⊢
          have hq : ∀ i, i < nq → t (2 * i) < nP (d0.1 224) ∧ (t (2 * i + 1) < nP (d0.1 224) ∨ t (2 * i + 1) = 255) := fun i hi => hwf i hi
          obtain ⟨d3, e3, P, n3⟩ := M_surveyMost (nq := nq) (qp := fun k => t (2 * k)) (qv := fun k => t (2 * k + 1)) g s N2 ⟨a47, by omega, fun k hk => ⟨t2 _ (by omega), t2 _ (by omega), by have := (hq k hk).1; dsimp only; omega, (t1 (2 * k + 1) (by omega)).1⟩⟩
          have z3d := ZX12_surveyMost e3
          obtain ⟨A44, A244⟩ := P2_asked P
          -- the class
          obtain ⟨c1, e1, l1, f1, R1⟩ := look h0
          have zl := ZX2_lookAt e1
          obtain ⟨c2', w1, w2, w3, zw⟩ := C_wantNothing c1
          have zlt : ∀ j, (j = 2) → c1.1 1 j = c.1 1 j := fun j hj => zl.fld 1 j (by unfold WSX2_lookAt; omega)
          obtain ⟨c3, x1, x2, zx⟩ := want_c (t := t) (N := d0.1 224) h9 hP hnq hwf (m := c2') ⟨by rw [zw.fld 1 2 (by omega), zl.fld 1 2 (by unfold WSX2_lookAt; omega)]; exact hT.2.1, fun j hj => ⟨(hT.2.2.2.1 j hj).1, by rw [zw.fld 2 j (by omega), zl.fld 2 j (by unfold WSX2_lookAt; omega)]; exact (hT.2.2.2.1 j hj).2.1⟩⟩ (Or.inl ⟨w2, fun k => ⟨fun _ y hy => absurd hy (by simp), fun _ x hx => Or.inl (w3 x hx)⟩⟩)
          have l3 : HL c3 (d0.1 224) := HL_mv g (HL_mv g l1 zw (fun b j q => by omega)) zx (fun b j q => by omega)
          obtain ⟨c4, y1, y2, zy⟩ := C_countWanted (W := c3.1 62) g s l3 (fun _ _ => rfl)
          rw [want_list g x2 hq] at y1 y2
          have l4 := HL_WT g l3 zy
          have hle := aql_len (nq := nq) (qp := fun k => t (2 * k)) (qv := fun k => t (2 * k + 1)) g s
          have zc14 : mx_out (fun b j => (b = 45 ∧ j ≠ 1 ∧ j ≠ 2 ∧ j ≠ 3 ∧ j ≠ 5) ∨ (62 ≤ b ∧ b ≤ 64)) c1 c4 := mx_out.tr (zw.sub (fun b j q => by omega)) (mx_out.tr (zx.sub (fun b j q => by omega)) (zy.sub (fun b j q => by unfold WT at q; omega)))
          have R4 : RR c4 d0 := RR_hv R1 (ag_of zc14 (fun b j q => by unfold SCh at q; omega)) (HV_of g s l4 (by
            rw [zc14.fld 45 2 (by omega)]
            refine f1.imp id (fun q l hl => ?_)
            rw [zc14.cell 65 (fun j => by omega)]; exact q l hl))
          have zdA : mx_out (fun b j => (b = 222 ∧ (j = 2 ∨ j = 47 ∨ j = 48)) ∨ WSX12_surveyMost 222 b j) d0 d3 := mx_out.tr (zd1.sub (fun b j q => Or.inl (by omega))) (mx_out.tr (z47.sub (fun b j q => Or.inl (by omega))) (z3d.sub (fun b j q => Or.inr q)))
          have e32 : d3.1 222 2 = 0 := by rw [z3d.fld 222 2 (by unfold WSX12_surveyMost; omega), z47.fld 222 2 (by omega)]; exact e2
          have e348 : d3.1 222 48 = d0.1 222 48 := by rw [z3d.fld 222 48 (by unfold WSX12_surveyMost; omega), z47.fld 222 48 (by omega), zd1.fld 222 48 (by omega)]
          unfold FX11_who
          rw [ea, ob_some, mx_letI, if_neg (show ¬ (1 : Int32) = 0 by decide)]
          show Sm (Option.bind (FX2_lookAt 45 4 c) _) _
          rw [e1, ob_some]
          show Sm (Option.bind (FX2_wantNothing 45 c1) _) _
          rw [w1, ob_some]
          show Sm (Option.bind (FX11_who_L29 0 mx_FU (i3 (2 * 0)) c2') _) _
          rw [x1, ob_some]
          show Sm (Option.bind (FX2_countWanted 45 c3) _) _
          rw [y1, ob_some]
          dsimp only
          rw [e3, ob_some, A44]
          have hTc1 : TP c1 d0 := R1.1
          by_cases cz : (aql (d0.1 224) nq (fun k => t (2 * k)) (fun k => t (2 * k + 1))).length = 0
          · rw [cz, if_pos (show i3 0 = 0 from rfl)]
            exact who_k R1 R1.1 zc14 R4 zdA e32 (by decide) e348
          · rw [if_neg (show ¬ i3 _ = 0 by show ¬ i3 _ = i3 0; rw [i3_eq (by omega) (by omega)]; exact cz)]
            have hnP : 0 < nP (d0.1 224) := by have := (hq 0 (by omega)).1; omega
            have hbd : ∀ M ∈ aql (d0.1 224) nq (fun k => t (2 * k)) (fun k => t (2 * k + 1)), ∀ y ∈ M, y.1 < 10 ∧ y.2 < 10 := fun M hM => (en_out _ _ (all_lt g) M (bm_en (List.mem_filter.mp hM).1)).2
            obtain ⟨d4, k1, k2, zk⟩ := M_who_L109 g (c := cq (aql (d0.1 224) nq (fun k => t (2 * k)) (fun k => t (2 * k + 1)))) (fun x j => Nat.le_trans List.countP_le_length hle) hnP n3 A244
            unfold FX10_cut
            rw [mx_letI, ob_some, if_neg (by show ¬ i3 _ ≤ i3 0; rw [i3_le (by omega) (by omega)]; omega)]
            have zt : mx_out (fun b j => b = 1 ∧ j = 2) c4 (mx_up c4.1 1 2 0, c4.2) := mx_out_up mx_out.rf rfl ⟨rfl, rfl⟩
            have y2' : PT (d0.1 224) (aql (d0.1 224) nq (fun k => t (2 * k)) (fun k => t (2 * k + 1))) (mx_up c4.1 1 2 0, c4.2) := ⟨by rw [zt.fld 45 15 (by omega)]; exact y2.1, fun x hx k hk => by rw [zt.cell 64 (fun j => by omega)]; exact y2.2 x hx k hk⟩
            have l4' : CG (mx_up c4.1 1 2 0, c4.2) 46 (d0.1 224) := (HL_mv g l4 zt (fun b j q => by omega)).2.1
            show Sm (Option.bind (FX2_mostTelling 45 (mx_up c4.1 1 2 0, c4.2)) _) (Option.bind (FX12_who_L109 222 mx_FU (i3 0) (i3 0) d3) _)
            rw [C_mostTelling y2' g l4' hle hnP, k1, ob_some, ob_some, mx_letI]
            have efn : (fun x => gx (cq (aql (d0.1 224) nq (fun k => t (2 * k)) (fun k => t (2 * k + 1))) x) 11) = (fun x => gx (ct (aql (d0.1 224) nq (fun k => t (2 * k)) (fun k => t (2 * k + 1))) x) 11) := funext (fun x => cq_ct hbd x)
            have zu : mx_out (fun b j => (b = 1 ∧ j = 2) ∨ (b = 0 ∧ j = 18)) c4 (mx_up (mx_up c4.1 1 2 0) 0 18 (i3 (mtl (fun x => gx (ct (aql (d0.1 224) nq (fun k => t (2 * k)) (fun k => t (2 * k + 1))) x) 11) (nP (d0.1 224))).1), c4.2) := mx_out_up (mx_out_up mx_out.rf rfl (by omega)) rfl (by omega)
            have zdB : mx_out (fun b j => (b = 222 ∧ (j = 2 ∨ j = 47 ∨ j = 48)) ∨ WSX12_surveyMost 222 b j) d0 d4 := mx_out.tr zdA (zk.sub (fun b j q => Or.inl (by omega)))
            refine hb_some ⟨?_, RR_ta R4 (ag_of zu (fun b j q => by omega)) (ag_of zdB (fun b j q => by unfold SD at q; unfold WSX12_surveyMost; omega)) (TP_0 R4.1 ?_ ?_ ?_) ?_⟩
            · show i3 _ = d4.1 222 44
              rw [zk.fld 222 44 (by omega), A44]
            · rfl
            · rw [zk.fld 222 2 (by omega)]; exact e32
            · rfl
            · show _ = d4.1 222 48
              rw [k2, efn]
              exact mx_up_self (mx_up c4.1 1 2 0) 0 18 _
        · exact absurd hwf hno
      · rcases ask_c hT g hg hnq with ⟨-, hyes⟩ | ⟨ec, -⟩
        · exact absurd hyes hwf
        · have ea := asking _ ec
          rw [se_inl] at ea
          rw [em, ob_some, se_inl]
          exact no ea
    · have ei : FX12_isIn (i3 (n / 2)) (i3 1) (i3 6) d1 = some 0 := by
        unfold FX12_isIn
        by_cases q : n / 2 < 1
        · rw [if_pos (by rw [i3_lt (by omega) (by omega)]; exact q)]
        · rw [if_neg (by rw [i3_lt (by omega) (by omega)]; exact q), if_pos (by rw [i3_lt (by omega) (by omega)]; omega)]
      rw [ei, ob_some, if_pos rfl]
      refine no ?_
      unfold FX11_isAsking
      rw [len, ob_some]
      by_cases q : n < 2
      · rw [if_pos (by show i3 n < i3 2; rw [i3_lt (by omega) (by omega)]; exact q)]
      · rw [if_neg (by show ¬ i3 n < i3 2; rw [i3_lt (by omega) (by omega)]; exact q), if_pos (by show i3 12 < i3 n; rw [i3_lt (by omega) (by omega)]; omega)]
  · rw [if_neg (fun q => c2 (ev.mp q))]
    refine no ?_
    unfold FX11_isAsking
    rw [len, ob_some]
    by_cases q : n < 2
    · rw [if_pos (by show i3 n < i3 2; rw [i3_lt (by omega) (by omega)]; exact q)]
    · rw [if_neg (by show ¬ i3 n < i3 2; rw [i3_lt (by omega) (by omega)]; exact q)]
      by_cases q2 : 12 < n
      · rw [if_pos (by show i3 12 < i3 n; rw [i3_lt (by omega) (by omega)]; exact q2)]
      · rw [if_neg (by show ¬ i3 12 < i3 n; rw [i3_lt (by omega) (by omega)]; exact q2), if_neg (fun q => c2 (ev.mp q))]
end WHOO
