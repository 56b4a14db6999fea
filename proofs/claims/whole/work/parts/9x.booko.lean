/-! ===== operation: book ===== -/
section BOOKO
variable {c c' d d' : mB} {N : Rw}
/-- what the reference writes down -/
theorem M_written {N' : Rw} (g : GI N') (s : SI N') (hd : d.1 224 = N') (w k : Int32) (K : mB → Option (Int32 × mB)) : ∃ d4, mx_let (mx_up d.1 (222 + 25) 0 w, d.2) (fun m20 => mx_let (mx_up m20.1 (222 + 25) 1 k, m20.2) (fun m21 => Option.bind (FX12_totalNow 222 m21) (fun r22 => mx_let (mx_up m21.1 (222 + 25) 2 r22, m21.2) (fun m23 => Option.bind (FX12_boundNow 222 m23) (fun r24 => mx_let (mx_up m23.1 (222 + 25) 3 r24, m23.2) (fun m25 => mx_let (mx_up m25.1 222 56 1, m25.2) K)))))) = K d4 ∧ d4.1 222 56 = 1 ∧ d4.1 247 0 = w ∧ d4.1 247 1 = k ∧ d4.1 247 2 = tot N' ∧ d4.1 247 3 = bnd N' ∧ mx_out (fun b j => b = 247 ∨ (b = 222 ∧ j = 56)) d d4 := by
  have z1 : mx_out (fun b j => b = 247 ∨ (b = 222 ∧ j = 56)) d (mx_up (mx_up d.1 247 0 w) 247 1 k, d.2) := mx_out_up (mx_out_up mx_out.rf rfl (Or.inl rfl)) rfl (Or.inl rfl)
  have z2 : mx_out (fun b j => b = 247 ∨ (b = 222 ∧ j = 56)) d (mx_up (mx_up (mx_up d.1 247 0 w) 247 1 k) 247 2 (tot N'), d.2) := mx_out_up z1 rfl (Or.inl rfl)
  have z3 : mx_out (fun b j => b = 247 ∨ (b = 222 ∧ j = 56)) d (mx_up (mx_up (mx_up (mx_up (mx_up d.1 247 0 w) 247 1 k) 247 2 (tot N')) 247 3 (bnd N')) 222 56 1, d.2) := mx_out_up (mx_out_up z2 rfl (Or.inl rfl)) rfl (Or.inr ⟨rfl, rfl⟩)
  refine ⟨(mx_up (mx_up (mx_up (mx_up (mx_up d.1 247 0 w) 247 1 k) 247 2 (tot N')) 247 3 (bnd N')) 222 56 1, d.2), ?_, mx_up_self (mx_up (mx_up (mx_up (mx_up d.1 247 0 w) 247 1 k) 247 2 (tot N')) 247 3 (bnd N')) 222 56 1, ?_, ?_, ?_, ?_, z3⟩
  · rw [mx_letI, mx_letI]
    show Option.bind (FX12_totalNow 222 (mx_up (mx_up d.1 247 0 w) 247 1 k, d.2)) _ = _
    rw [M_totalNow g s (by rw [z1.cell 224 (fun j => by omega)]; exact hd), ob_some, mx_letI]
    show Option.bind (FX12_boundNow 222 (mx_up (mx_up (mx_up d.1 247 0 w) 247 1 k) 247 2 (tot N'), d.2)) _ = _
    rw [M_boundNow g s (by rw [z2.cell 224 (fun j => by omega)]; exact hd), ob_some, mx_letI, mx_letI]
  · show mx_up (mx_up (mx_up (mx_up (mx_up d.1 247 0 w) 247 1 k) 247 2 (tot N')) 247 3 (bnd N')) 222 56 1 247 0 = w
    rw [up_off _ (by omega), up_at, if_neg (by omega), up_at, if_neg (by omega), up_at, if_neg (by omega), up_at, if_pos rfl]
  · show mx_up (mx_up (mx_up (mx_up (mx_up d.1 247 0 w) 247 1 k) 247 2 (tot N')) 247 3 (bnd N')) 222 56 1 247 1 = k
    rw [up_off _ (by omega), up_at, if_neg (by omega), up_at, if_neg (by omega), up_at, if_pos rfl]
  · show mx_up (mx_up (mx_up (mx_up (mx_up d.1 247 0 w) 247 1 k) 247 2 (tot N')) 247 3 (bnd N')) 222 56 1 247 2 = _
    rw [up_off _ (by omega), up_at, if_neg (by omega), up_at, if_pos rfl]
  · show mx_up (mx_up (mx_up (mx_up (mx_up d.1 247 0 w) 247 1 k) 247 2 (tot N')) 247 3 (bnd N')) 222 56 1 247 3 = _
    rw [up_off _ (by omega), up_at, if_pos rfl]
theorem WJ_e (z : mx_out (WJ 4) c c') : mx_out WCe c c' := z.sub (fun b j q => by
  unfold WJ WC0 at q
  unfold WCe WN
  rcases q with (q | q) | q
  · exact Or.inl (by omega)
  · exact Or.inr (Or.inl q)
  · exact Or.inr (Or.inr (Or.inr q.1)))
theorem WJ_f (z : mx_out (WJ 15) c c') : mx_out WCf c c' := z.sub (fun b j q => by
  unfold WJ WC0 at q
  unfold WCf WCe
  rcases q with (q | q) | q
  · exact Or.inr (by omega)
  · exact Or.inl (Or.inr (Or.inl q))
  · exact Or.inl (Or.inr (Or.inr (Or.inr q.1))))
theorem WD0_e (z : mx_out WD0 d d') : mx_out WDe d d' := z.sub (fun b j q => by unfold WD0 at q; unfold WDe; omega)
theorem O_book (h : RR c d) (x : Int32) : Sm (FX11_book 0 x c) (FX12_book 222 x d) := by
  have h0 := th0 h 0
  unfold FX12_book
  rw [mx_letI]
  generalize (mx_up d.1 222 0 0, d.2) = d0 at h0 ⊢
  unfold FX11_book
  rw [mx_letI]
  show Sm _ (Option.bind (FX12_isIn x (i3 0) (i3 1) d0) _)
  rcases M_in (x := x) (lo := 0) (hi := 1) (by omega) (by omega) d0 with ⟨w, rfl, w1, w2, e⟩ | ⟨w1, e⟩
  · have hsel : ∀ (A B : Option (Int32 × mB)), (if i3 w = 0 then A else if i3 w = 1 then A else B) = A := fun A B => by
      rcases (by omega : w = 0 ∨ w = 1) with e | e <;> subst e
      · rw [if_pos (show i3 0 = 0 from rfl)]
      · rw [if_neg (show ¬ i3 1 = 0 by decide), if_pos (show i3 1 = 1 from rfl)]
    rw [hsel, e, ob_some, if_neg (show ¬ (1 : Int32) = 0 by decide)]
    obtain ⟨n, t, hT⟩ := h0.1
    have hNE := h0.2.2.1
    have g := hNE.1.1
    have si := hNE.1.2.1
    have hN0 : NmB (nP (d0.1 224)) c d0 := ⟨g.1.2, by rw [hNE.1.2.2.1.1.1]; exact g.1.1, g.1.1, fun i hi => hNE.2 i hi⟩
    obtain ⟨⟨r1, c1⟩, s1, e1, e2, q⟩ := B_read hT hN0 (i3 w)
    show Sm (Option.bind (FX0_read 169 1 4 c) _) _
    rw [e1, ob_some]
    unfold FX10_cut
    rw [mx_letI, ob_some]
    have zcut : mx_out (fun b j => b = 1 ∧ j = 2) c1 (mx_up c1.1 1 2 0, c1.2) := mx_out_up mx_out.rf rfl ⟨rfl, rfl⟩
    have vcut : (mx_up c1.1 1 2 0, c1.2).1 1 2 = 0 := mx_up_self c1.1 1 2 0
    show Sm (if r1 = 0 then _ else _) _
    have hmod : ∀ K : (Int32 × mB) ⊕ mB → Option (Int32 × mB), Option.bind (FX12_begin 222 400 d0) (fun r4 => mx_let (mx_up r4.1 222 55 0, r4.2) (fun m5 => Option.bind (FX12_book_L30 222 (i3 w) mx_FU m5) K)) = K s1 := fun K => by
      cases eb : FX12_begin 222 400 d0 with
      | none => rw [eb] at e2; cases e2
      | some m4 =>
        rw [eb, ob_some, mx_letI] at e2
        rw [ob_some, mx_letI, e2, ob_some]
    rw [hmod]
    rcases q with ⟨d1, l, q1, q2, q3, q4, q5, q6, q7⟩ | ⟨d1, q1, q2, q3, q5, q6, q7⟩
    · dsimp only at q1 q3 q4 q5
      subst q1 q2
      rw [if_neg (show ¬ (1 : Int32) = 0 by decide), se_inr]
      have R1 : RR (mx_up c1.1 1 2 0, c1.2) d1 := RR_tf h0 (ag_tr (ag_of q5 (fun b j q => by unfold SC at q; omega)) (ag_of zcut (fun b j q => by omega))) (ag_of q6 (fun b j q => by unfold SD at q; omega)) (TP_0 h0.1 vcut q7 (by rw [zcut.cellL 3 (fun j => by omega), q5.cellL 3 (fun j => by omega)])) (by unfold FA; rw [zcut.fld 1 10 (by omega)]; exact q4)
      have B1 : BI (nP (d0.1 224)) l (mx_up c1.1 1 2 0, c1.2) d1 := ⟨by rw [zcut.fld 169 4 (by omega)]; exact q3.1, q3.2.1, q3.2.2.1, fun i hi => BL_mv (q3.2.2.2 i hi) zcut (T := fun _ _ => False) mx_out.rf (fun b j q => by omega) (fun b j q => q.elim)⟩
      have n1 : d1.1 224 = d0.1 224 := q6.cell 224 (fun j => by omega)
      show Sm (if i3 w = 0 then Option.bind (FX4_copyFrom 15 4 (mx_up c1.1 1 2 0, c1.2)) _ else Option.bind (FX3_mark 68 4 (mx_up c1.1 1 2 0, c1.2)) _) (Option.bind (FX12_save 222 229 65 0 d1) _)
      generalize (mx_up c1.1 1 2 0, c1.2) = c2 at R1 B1 ⊢
      obtain ⟨d2, f1, v1, y1⟩ := M_savea (d := d1) 229 (by omega)
      rw [f1, ob_some]
      have B2 : BI (nP (d0.1 224)) l c2 d2 := ⟨B1.1, by rw [y1.fld 222 55 (by omega)]; exact B1.2.1, B1.2.2.1, fun i hi => BL_mv (B1.2.2.2 i hi) (S := fun _ _ => False) mx_out.rf y1 (fun b j q => q.elim) (fun b j q => by omega)⟩
      have n2 : d2.1 224 = d0.1 224 := by rw [y1.cell 224 (fun j => by omega)]; exact n1
      have hNt : Nt c2 4 (d0.1 224) := by have := R1.2.2.1.1; rw [n1] at this; exact this
      rcases (by omega : w = 0 ∨ w = 1) with ew | ew <;> subst ew
      · rw [if_pos (show i3 0 = 0 from rfl)]
        obtain ⟨c3, g1, n3, -⟩ := C_copyFrom (a := 15) hNt (by omega)
        have z3 := ZX4_copyFrom g1
        have B3 : BI (nP (d0.1 224)) l c3 d2 := ⟨by rw [z3.fld 169 4 (by unfold WSX4_copyFrom; omega)]; exact B2.1, B2.2.1, B2.2.2.1, fun i hi => BL_mv (B2.2.2.2 i hi) z3 (T := fun _ _ => False) mx_out.rf (fun b j q => by unfold WSX4_copyFrom at q; omega) (fun b j q => q.elim)⟩
        obtain ⟨⟨r4, c4⟩, ⟨s4, s5, d3⟩, k1, k2, k', N', p1, p2, p3, p4, p5, p6, p7, p8, p9, p10, p11, p12, p13, p14⟩ := B_judge (Or.inr rfl) (i3 0) B3 n3 n2 rfl
        dsimp only at p2 p3 p4 p5 p6 p7 p8 p9 p10 p13 p14
        subst p2
        show Sm _ (Option.bind (FX12_book_L78 222 (i3 0) mx_FU 0 0 d2) _)
        rw [g1, k2, ob_some, ob_some]
        show Sm (Option.bind (FX0_judge 169 15 38 c3) _) _
        rw [k1, ob_some]
        obtain ⟨d4, m1, m2, m3, m4, m5, m6, m7⟩ := M_written p9.1 p9.2.1 p10 s5 (i3 k') (fun m26 => mx_let (Option.bind (FX12_stay 222 0 m26) (fun r29 => (if s5 = 0 then (some ((-1), r29)) else (some (i3 k', r29))))) (fun k28 => (if i3 0 = 1 then (if i3 k' ≤ 0 then k28 else Option.bind (FX12_stay 222 1 m26) (fun r32 => (if s5 = 0 then (some ((-1), r32)) else (some (i3 k', r32))))) else k28)))
        show Sm (some (r4, c4)) (mx_let (mx_up d3.1 (222 + 25) 0 s5, d3.2) (fun m20 => mx_let (mx_up m20.1 (222 + 25) 1 (i3 k'), m20.2) (fun m21 => Option.bind (FX12_totalNow 222 m21) (fun r22 => mx_let (mx_up m21.1 (222 + 25) 2 r22, m21.2) (fun m23 => Option.bind (FX12_boundNow 222 m23) (fun r24 => mx_let (mx_up m23.1 (222 + 25) 3 r24, m23.2) (fun m25 => mx_let (mx_up m25.1 222 56 1, m25.2) _)))))))
        rw [m1, mx_letI, if_neg (show ¬ i3 0 = 1 by decide)]
        have n4 : d4.1 224 = N' := by rw [m7.cell 224 (fun j => by omega)]; exact p10
        obtain ⟨d5, z5, n5, e5, -⟩ := M_stay (d := d4) (N := d0.1 224) 0 p11 n4 (fun k hk => by rw [m7.fld 229 k (by omega), p14.fld 229 k (by unfold WD0; omega), v1 k hk, n1])
        rw [if_pos (show (0 : Int32) = 0 from rfl)] at e5
        rw [e5, ob_some]
        have RB : RR c4 d5 := RR_same R1 (mx_out.tr (z3.sub (fun b j q => Or.inr (by unfold WSX4_copyFrom at q; omega))) (WJ_f p13)) (mx_out.tr (y1.sub (fun b j q => by unfold WDe; omega)) (mx_out.tr (WD0_e p14) (mx_out.tr (m7.sub (fun b j q => by unfold WDe; omega)) (z5.sub (fun b j q => by unfold WDe; omega))))) (by rw [n1]; exact Nt_mem hNt (fun b q1 q2 => by rw [p13.cell b (fun j => by unfold WJ WC0 SW; omega), z3.cell b (fun j => by unfold WSX4_copyFrom; omega)])) (by rw [n5, n1]) (by
          unfold BK
          rw [z5.fld 222 56 (by omega), z5.fld 247 0 (by omega), z5.fld 247 1 (by omega), z5.fld 247 2 (by omega), z5.fld 247 3 (by omega), m2, m3, m4, m5, m6]
          exact ⟨p4, Or.inr rfl, fun _ => ⟨p6, p5, p7, p8⟩⟩)
        rw [p3]
        by_cases q : s5 = 0
        · rw [if_pos q, if_pos q]; exact hb_some ⟨rfl, RB⟩
        · rw [if_neg q, if_neg q]; exact hb_some ⟨rfl, RB⟩
      · rw [if_neg (show ¬ i3 1 = 0 by decide)]
        obtain ⟨a, k, hH, hk⟩ := R1.2.2.2.1
        obtain ⟨c3, g1, H1, M1, N1', z1⟩ := C_mark hH R1.2.2.1
        rw [n1] at N1'
        have B3 : BI (nP (d0.1 224)) l c3 d2 := ⟨by rw [z1.fld 169 4 (by omega)]; exact B2.1, B2.2.1, B2.2.2.1, fun i hi => BL_mv (B2.2.2.2 i hi) z1 (T := fun _ _ => False) mx_out.rf (fun b j q => by omega) (fun b j q => q.elim)⟩
        obtain ⟨⟨r4, c4⟩, ⟨s4, s5, d3⟩, k1, k2, k', N', p1, p2, p3, p4, p5, p6, p7, p8, p9, p10, p11, p12, p13, p14⟩ := B_judge (Or.inl rfl) (i3 1) B3 N1'.1 n2 rfl
        dsimp only at p2 p3 p4 p5 p6 p7 p8 p9 p10 p13 p14
        subst p2
        show Sm _ (Option.bind (FX12_book_L78 222 (i3 1) mx_FU 0 0 d2) _)
        rw [g1, k2, ob_some, ob_some]
        show Sm (Option.bind (FX0_judge 169 4 38 c3) _) _
        rw [k1, ob_some]
        obtain ⟨d4, m1, m2, m3, m4, m5, m6, m7⟩ := M_written p9.1 p9.2.1 p10 s5 (i3 k') (fun m26 => mx_let (Option.bind (FX12_stay 222 0 m26) (fun r29 => (if s5 = 0 then (some ((-1), r29)) else (some (i3 k', r29))))) (fun k28 => (if i3 1 = 1 then (if i3 k' ≤ 0 then k28 else Option.bind (FX12_stay 222 1 m26) (fun r32 => (if s5 = 0 then (some ((-1), r32)) else (some (i3 k', r32))))) else k28)))
        show Sm (Option.bind (FX0_toldOf 169 1 c4) _) (mx_let (mx_up d3.1 (222 + 25) 0 s5, d3.2) (fun m20 => mx_let (mx_up m20.1 (222 + 25) 1 (i3 k'), m20.2) (fun m21 => Option.bind (FX12_totalNow 222 m21) (fun r22 => mx_let (mx_up m21.1 (222 + 25) 2 r22, m21.2) (fun m23 => Option.bind (FX12_boundNow 222 m23) (fun r24 => mx_let (mx_up m23.1 (222 + 25) 3 r24, m23.2) (fun m25 => mx_let (mx_up m25.1 222 56 1, m25.2) _)))))))
        rw [m1, mx_letI, if_pos (show i3 1 = 1 from rfl)]
        have eT : FX0_toldOf 169 1 c4 = some (i3 k') := by
          unfold FX0_toldOf
          rw [p4, if_neg (show ¬ (1 : Int32) = 0 by decide), if_neg (show ¬ (1 : Int32) = 0 by decide), if_pos rfl, p5]
        rw [eT, ob_some]
        have n4 : d4.1 224 = N' := by rw [m7.cell 224 (fun j => by omega)]; exact p10
        have t4 : ∀ k, k < 65 → d4.1 229 k = d0.1 224 (125 + k) := fun k hk => by rw [m7.fld 229 k (by omega), p14.fld 229 k (by unfold WD0; omega), v1 k hk, n1]
        have ZD : mx_out WDe d1 d4 := mx_out.tr (y1.sub (fun b j q => by unfold WDe; omega)) (mx_out.tr (WD0_e p14) (m7.sub (fun b j q => by unfold WDe; omega)))
        have BKx : ∀ {d5 : mB}, mx_out (fun b _ => b = 224 ∨ b = 228) d4 d5 → BK c4 d5 := fun z5 => by
          unfold BK
          rw [z5.fld 222 56 (by omega), z5.fld 247 0 (by omega), z5.fld 247 1 (by omega), z5.fld 247 2 (by omega), z5.fld 247 3 (by omega), m2, m3, m4, m5, m6]
          exact ⟨p4, Or.inr rfl, fun _ => ⟨p6, p5, p7, p8⟩⟩
        by_cases q0 : k' = 0
        · have hN' := p12 q0
          subst q0
          obtain ⟨d5, z5, n5, e5, -⟩ := M_stay (d := d4) (N := d0.1 224) 0 p11 n4 t4
          rw [if_pos (show (0 : Int32) = 0 from rfl)] at e5
          rw [if_pos (show i3 0 ≤ 0 by decide), if_pos (show i3 0 ≤ 0 by decide), e5, ob_some]
          have RB : RR c4 d5 := RR_same (RR_ref R1 H1 hk (by rw [n1]; exact N1') z1) ((WJ_e p13).sub (fun b j q => Or.inl q)) (mx_out.tr ZD (z5.sub (fun b j q => by unfold WDe; omega))) (by rw [n1, ← hN']; exact p9) (by rw [n5, n1]) (BKx z5)
          rw [p3]
          by_cases q : s5 = 0
          · rw [if_pos q, if_pos q]; exact hb_some ⟨rfl, RB⟩
          · rw [if_neg q, if_neg q]; exact hb_some ⟨rfl, RB⟩
        · have ng : ¬ i3 k' ≤ 0 := by show ¬ i3 k' ≤ i3 0; rw [i3_le (by omega) (by omega)]; omega
          obtain ⟨d5, z5, n5, e5, v5⟩ := M_stay (d := d4) (N := d0.1 224) 1 p11 n4 t4
          rw [if_neg (show ¬ (1 : Int32) = 0 by decide)] at e5
          obtain ⟨c6, d6, j1, j2, j3, j4, R⟩ := RR_done2 R1 hk H1 M1 z1 p9 (WJ_e p13) (by rw [n1]; exact p11) (mx_out.tr ZD (z5.sub (fun b j q => by unfold WDe; omega))) (by rw [n5, n1]) (BKx z5)
          rw [n1] at j3
          have cm := M_comeBack j3 (q := 228) (w := 65) (fr := 0) (by omega) (by omega) (by omega)
          rw [cb_of (N' := N') (fun k hk => by rw [Nat.zero_add, j4]; exact v5 k hk) p11] at cm
          rw [if_neg ng, if_neg ng, e5, j2, ob_some]
          show Sm (Option.bind (FX3_keep 68 c4) _) (Option.bind (Option.bind (FX12_comeBack 222 228 65 (i3 0) d6) _) _)
          rw [j1, cm, ob_some, ob_some, ob_some, p3]
          by_cases q : s5 = 0
          · rw [if_pos q, if_pos q]; exact hb_some ⟨rfl, R⟩
          · rw [if_neg q, if_neg q]; exact hb_some ⟨rfl, R⟩
    · dsimp only at q1 q3 q5
      subst q1 q2
      rw [if_pos rfl, se_inl]
      unfold FX10_faultAt
      rw [ob_some]
      have R1 : RR (mx_up c1.1 1 2 0, c1.2) d1 := RR_tf h0 (ag_tr (ag_of q5 (fun b j q => by unfold SC at q; omega)) (ag_of zcut (fun b j q => by omega))) (ag_of q6 (fun b j q => by unfold SD at q; omega)) (TP_0 h0.1 vcut q7 (by rw [zcut.cellL 3 (fun j => by omega), q5.cellL 3 (fun j => by omega)])) (by unfold FA; rw [zcut.fld 1 10 (by omega)]; exact q3.1)
      refine hb_some ⟨?_, R1⟩
      show -2 - (mx_up c1.1 1 2 0, c1.2).1 1 11 = _
      rw [zcut.fld 1 11 (by omega), q3.2]
  · rw [e, ob_some, if_pos rfl]
    have a1 : ¬ x = 0 := by
      rintro rfl
      rcases w1 with w1 | w1
      · exact absurd w1 (by decide)
      · exact absurd w1 (by decide)
    have a2 : ¬ x = 1 := by
      rintro rfl
      rcases w1 with w1 | w1
      · exact absurd w1 (by decide)
      · exact absurd w1 (by decide)
    rw [if_neg a1, if_neg a2]
    exact hb_some ⟨rfl, h0⟩
end BOOKO
