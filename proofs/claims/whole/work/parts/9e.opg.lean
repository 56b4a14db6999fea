/-! ===== operations: grow, flower ===== -/
section OPG
variable {c c' d d' : mB}
/-- all but the rows of path and flower -/
theorem RR_rw (h : RR c d) (hc : ag (fun b j => SC b j ∧ ¬ (41 ≤ b ∧ b ≤ 44)) c c') (hd : ag (fun b j => SD b j ∧ ¬ ((b = 222 ∧ (j = 29 ∨ j = 30)) ∨ b = 236 ∨ b = 237)) d d') (hp : RW ePA 41 236 29 c' d') (hf : RW oFL 43 237 30 c' d') : RR c' d' := by
  obtain ⟨h1, h2, h3, h4, h5, h6, h7, h8, h9, h10, h11, h12, h13, h14⟩ := h
  exact ⟨TP_mv h1 (ag_sub hc (fun b j q => by unfold SC; omega)) (ag_sub hd (fun b j q => by unfold SD; omega)), FA_mv h2 (ag_sub hc (fun b j q => by unfold SC; omega)) (ag_sub hd (fun b j q => by unfold SD; omega)), NE_mv h3 (ag_sub hc (fun b j q => by unfold SC; omega)) (ag_sub hd (fun b j q => by unfold SD; omega)), HI_mv h4 (ag_sub hc (fun b j q => by unfold SC; omega)) (ag_sub hd (fun b j q => by unfold SD; omega)), hp, hf, PF_mv h7 (ag_sub hc (fun b j q => by unfold SC; omega)) (ag_sub hd (fun b j q => by unfold SD; omega)), AD_mv h8 (ag_sub hc (fun b j q => by unfold SC; omega)) (ag_sub hd (fun b j q => by unfold SD; omega)), RN_mv h9 (ag_sub hc (fun b j q => by unfold SC; omega)) (ag_sub hd (fun b j q => by unfold SD; omega)), HV_mv h10 (fun b q1 q2 => (ag_cell hc b (fun j => by unfold SC; omega)).1), BK_mv h11 (ag_sub hc (fun b j q => by unfold SC; omega)) (ag_sub hd (fun b j q => by unfold SD; omega)), SY_mv h12 (ag_sub hc (fun b j q => by unfold SC; omega)) (ag_sub hd (fun b j q => by unfold SD; omega)), PI_mv h13 (ag_sub hc (fun b j q => by unfold SC; omega)) (ag_sub hd (fun b j q => by unfold SD; omega)), RN_mv h14 (ag_sub hc (fun b j q => by unfold SC; omega)) (ag_sub hd (fun b j q => by unfold SD; omega))⟩
/-- the scratch rows of the searches -/
theorem RR_se (h : RR c d) (zc : mx_out (SW 39) c c') (zd : mx_out WY d d') : RR c' d' := RR_mv h (ag_of zc (fun b j q => by unfold SC at q; unfold SW; omega)) (ag_of zd (fun b j q => by unfold SD at q; unfold WY; omega))
theorem nd_inj {row : List Nat} (h : row.Nodup) : ∀ i j, i < row.length → j < row.length → row.getD i 0 = row.getD j 0 → i = j := by
  intro i j hi hj e
  rw [List.getD_eq_getElem?_getD, List.getD_eq_getElem?_getD, List.getElem?_eq_getElem hi, List.getElem?_eq_getElem hj] at e
  change row[i] = row[j] at e
  rcases Nat.lt_trichotomy i j with q | q | q
  · exact absurd e (List.pairwise_iff_getElem.mp h i j hi hj q)
  · exact q
  · exact absurd e.symm (List.pairwise_iff_getElem.mp h j i hj hi q)
theorem gd_memB {row : List Nat} {i : Nat} (hi : i < row.length) : row.getD i 0 ∈ row := by
  rw [List.getD_eq_getElem?_getD, List.getElem?_eq_getElem hi]
  exact List.getElem_mem hi
theorem WSX7c {c c1 : mB} {a p0 : Nat} (e : FX7_copyFrom a p0 c = some c1) : mx_out (fun b j => (b = a ∧ j = 1) ∨ b = a + 1) c c1 := (ZX7_copyFrom e).sub (fun b j q => by unfold WSX7_copyFrom at q; omega)
theorem O_grow (h : RR c d) (x : Int32) : Sm (FX11_grow 0 x c) (FX12_grow 222 x d) := by
  have h0 := th0 h 0
  unfold FX12_grow
  rw [mx_letI]
  generalize (mx_up d.1 222 0 0, d.2) = d0 at h0 ⊢
  unfold FX11_grow FX9_findPath FX7_size
  obtain ⟨g, s, hg, hs⟩ := h0.2.2.1.1
  have hn := g.1.2
  show Sm (Option.bind (Option.bind (FX4_isLone 4 x c) _) _) _
  rcases i3_cases x (nP (d0.1 224)) (by omega) with ⟨p, hp, rfl⟩ | ⟨-, hx⟩
  · rw [C_isLone_y g hg hs hp, M_isPoint_y g rfl hp, ob_some, ob_some, if_neg (show ¬ (1 : Int32) = 0 by decide), M_isLone_y g rfl hp, ob_some]
    unfold lone
    by_cases cl : d0.1 224 (158 + p) = -1
    · rw [decide_eq_true cl, if_neg (show ¬ b2 true = 0 by decide), if_neg (show ¬ b2 true = 0 by decide)]
      obtain ⟨⟨r1, c1⟩, e1, z1, m1⟩ := C_findRow (by omega) false h0.2.2.1.1 hp
      obtain ⟨⟨r2, d1⟩, e2, z2, m2⟩ := M_layPath g s (d := d0) rfl hp (by unfold lone; exact decide_eq_true cl)
      have R1 := RR_se h0 z1 z2
      show Sm (Option.bind (Option.bind (FX9_findRow 38 4 (i3 p) (i3 (fw false)) (b2 false) c) _) _) _
      rw [e1, e2, ob_some, ob_some]
      dsimp only
      cases ef : fnd (d0.1 224) false p with
      | none =>
        rw [ef] at m1 m2
        dsimp only at m1 m2
        rw [m1, m2, if_pos rfl, if_pos rfl, ob_some]
        exact hb_some ⟨rfl, R1⟩
      | some row =>
        rw [ef] at m1 m2
        dsimp only at m1 m2
        obtain ⟨k1, k2, k3, k4, k5⟩ := fnd_ok g s hp ef
        have k4' : row.length % 2 = 0 := k4
        have k5' : 2 ≤ row.length := k5
        obtain ⟨m1a, m1b⟩ := m1
        obtain ⟨m2a, m2b⟩ := m2
        rw [m1a, m2a, if_neg (show ¬ (1 : Int32) = 0 by decide), ob_some]
        dsimp only
        rw [if_neg (show ¬ (1 : Int32) = 0 by decide), if_neg (by show ¬ i3 _ = i3 0; rw [i3_eq (by omega) (by omega)]; omega), mx_letI]
        obtain ⟨c2, e3, r3, v3⟩ := R_copy (r := 41) (cap := 10) m1b.1 ⟨rl10 (by omega), nI10, by omega⟩ k3 (by omega) (by omega) (by omega)
        have z3' := WSX7c e3
        show Sm (Option.bind (FX7_copyFrom 41 39 c1) _) _
        rw [e3, ob_some, ob_some]
        have z29 : mx_out (fun b j => b = 222 ∧ j = 29) d1 (mx_up d1.1 222 29 (i3 row.length), d1.2) := mx_out_up mx_out.rf rfl ⟨rfl, rfl⟩
        have key : hw (FX12_grow_L42 222 (i3 row.length) mx_FU (i3 0) (mx_up d1.1 222 29 (i3 row.length), d1.2)) (fun m => mx_out (fun b _ => b = 236) (mx_up d1.1 222 29 (i3 row.length), d1.2) m ∧ ∀ i, i < row.length → m.1 236 i = d1.1 235 i) := by
          refine lp_inv (L := fun fu y m => FX12_grow_L42 222 (i3 row.length) fu y m) (n := row.length) (fun k m => mx_out (fun b _ => b = 236) (mx_up d1.1 222 29 (i3 row.length), d1.2) m ∧ ∀ i, i < k → m.1 236 i = d1.1 235 i) ?_ ?_ 0 mx_FU _ (by omega) (FU_lt (by omega)) ⟨mx_out.rf, fun i hi => by omega⟩
          · intro fu m hI
            show hw (FX12_grow_L42 222 (i3 row.length) (fu + 1) (i3 row.length) m) _
            rw [FX12_grow_L42, if_pos (by rw [i3_le (by omega) (by omega)]; omega)]
            exact hw_some hI
          · intro fu k m hk hI hs2
            show hw (FX12_grow_L42 222 (i3 row.length) (fu + 1) (i3 k) m) _
            have e235 : m.1 (222 + 13) k = d1.1 235 k := by
              show m.1 235 k = _
              rw [hI.1.cell 235 (fun j => by omega), z29.cell 235 (fun j => by omega)]
            rw [FX12_grow_L42, if_neg (by rw [i3_le (by omega) (by omega)]; omega), mx_inb_i3 (by omega) (by omega), mx_chkT, i3_toNat (by omega), e235, mx_letI, mx_letI, i3_succ]
            refine hs2 _ ⟨mx_out_up hI.1 rfl rfl, fun i hi => ?_⟩
            show mx_up m.1 236 k (d1.1 235 k) 236 i = _
            rw [up_at]
            by_cases q : i = k
            · rw [if_pos q, q]
            · rw [if_neg q]; exact hI.2 i (by omega)
        obtain ⟨d2, e4, z4, v4⟩ := key
        show Sm _ (Option.bind (FX12_grow_L42 222 (i3 row.length) mx_FU (i3 0) (mx_up d1.1 222 29 (i3 row.length), d1.2)) _)
        rw [e4, ob_some]
        have zd : mx_out (fun b j => (b = 222 ∧ j = 29) ∨ b = 236) d1 d2 := mx_out.tr (z29.sub (fun b j q => Or.inl q)) (z4.sub (fun b j q => Or.inr q))
        refine hb_some ⟨?_, RR_rw R1 (ag_of z3' (fun b j q => by omega)) (ag_of zd (fun b j q => by omega)) ⟨row.length, fun i => row.getD i 0, ⟨r3, fun i hi => ⟨?_, ?_⟩⟩, ?_, fun i hi => ?_, k4', nd_inj k1⟩ (RW_mv R1.2.2.2.2.2.1 (ag_of z3' (fun b j q => by omega)) (ag_of zd (fun b j q => by omega)))⟩
        · show c2.1 41 1 - 1 = i3 row.length - 1
          rw [r3.1]
        · rw [v3 i hi]; exact m1b.2 i hi
        · have := k2 _ (gd_memB hi)
          show row.getD i 0 < 10
          omega
        · show d2.1 222 29 = _
          rw [z4.fld 222 29 (by omega)]; exact mx_up_self d1.1 222 29 _
        · show d2.1 236 i = _
          rw [v4 i hi]; exact m2b i hi
    · rw [decide_eq_false cl, if_pos (show b2 false = 0 from rfl), if_pos (show b2 false = 0 from rfl), ob_some]
      exact hb_some ⟨rfl, h0⟩
  · rw [C_isLone_n g hg hx, M_isPoint_n g rfl hx, ob_some, ob_some, if_pos rfl, if_pos rfl, ob_some]
    exact hb_some ⟨rfl, h0⟩
theorem M_flower_L (g : GI (d.1 224)) (s : SI (d.1 224)) {p : Nat} (hp : p < nP (d.1 224)) (w0 : ways d [p]) : hw (FX12_flower_L24 222 (i3 p) mx_FU (i3 3) d) (fun q => match q with
      | .inl rr => ∃ row, fnd (d.1 224) true p = some row ∧ rr.1 = i3 row.length ∧ rr.2.1 222 30 = i3 row.length ∧ (∀ i, i < row.length → rr.2.1 237 i = i3 (row.getD i 0)) ∧ mx_out (fun b j => b = 235 ∨ b = 237 ∨ (b = 222 ∧ j = 30)) d rr.2
      | .inr m => mx_out WY d m ∧ fnd (d.1 224) true p = none) := by
  have hn := g.1.2
  have hgN : ∀ {m : mB}, mx_out WY d m → m.1 224 = d.1 224 := fun {m} z => z.cell 224 (fun j => by unfold WY; omega)
  have eF : ∀ n, 1 ≤ n → (if n < fw true then none else ext (d.1 224) true n [p]) = ext (d.1 224) true n [p] := fun n h1 => if_neg (by unfold fw; simp; omega)
  have efnd : fnd (d.1 224) true p = fs (fun n => if n < fw true then none else ext (d.1 224) true n [p]) ((nP (d.1 224) + 1) / 2) := fs_more (by omega) (fun n h1 h2 => by rw [eF n (by omega)]; exact ext_many g s hp (by simp; omega))
  rw [efnd]
  refine lp_ig (fun j => i3 (2 * j + 1)) (L := fun fu y m => FX12_flower_L24 222 (i3 p) fu y m) (n := (nP (d.1 224) + 1) / 2) (fun n m => 1 ≤ n ∧ mx_out WY d m ∧ ways m [p] ∧ fs (fun n => if n < fw true then none else ext (d.1 224) true n [p]) n = none) ?_ ?_ 1 mx_FU d (by omega) (FU_lt (by omega)) ⟨by omega, mx_out.rf, w0, rfl⟩
  · intro fu m hm
    show hw (FX12_flower_L24 222 (i3 p) (fu + 1) (i3 (2 * ((nP (d.1 224) + 1) / 2) + 1)) m) _
    have e0 : m.1 (222 + 2) 0 = i3 (nP (d.1 224)) := by show m.1 224 0 = _; rw [hgN hm.2.1, g.1.1]
    rw [FX12_flower_L24, e0, if_pos (by rw [i3_lt (by omega) (by omega)]; omega)]
    exact hw_some ⟨hm.2.1, hm.2.2.2⟩
  · intro fu n m hn5 hm hs
    show hw (FX12_flower_L24 222 (i3 p) (fu + 1) (i3 (2 * n + 1)) m) _
    obtain ⟨hn1, z, hW, hf⟩ := hm
    have hNm := hgN z
    have e0 : m.1 (222 + 2) 0 = i3 (nP (d.1 224)) := by show m.1 224 0 = _; rw [hNm, g.1.1]
    rw [FX12_flower_L24, e0, if_neg (by rw [i3_lt (by omega) (by omega)]; omega)]
    obtain ⟨⟨v, m2⟩, e2, z2, R2⟩ := M_flowers g s n 64 (row := [p]) (d := m) (us := pw p) (by omega) hNm hW rfl (by simp only [List.length_cons, List.length_nil]; omega) (fun x hx => by rw [List.mem_singleton] at hx; rw [hx]; exact hp) (fun j hj => by rw [bt_pwk (by omega) hj]; simp)
    rw [show ([p] : List Nat).length + 2 * n = 2 * n + 1 by simp only [List.length_cons, List.length_nil]; omega] at e2
    show hw (Option.bind (FX12_flowers 64 222 (i3 1) (i3 (2 * n + 1)) (pw p) m) _) _
    rw [show i3 1 = i3 ([p] : List Nat).length from rfl, e2, ob_some]
    dsimp only
    cases hE : ext (d.1 224) true n [p] with
    | none =>
      rw [hE] at R2
      obtain ⟨q1, R3⟩ := R2
      dsimp only at q1
      rw [q1, if_pos rfl, mx_letI]
      have e4 : i3 (2 * n + 1) + 2 = i3 (2 * (n + 1) + 1) := i3_add (2 * n + 1) 2
      rw [e4]
      exact hs _ ⟨by omega, WYtr z z2, R3, by rw [fs_step hf, eF n hn1, hE]⟩
    | some row =>
      rw [hE] at R2
      obtain ⟨q1, R3⟩ := R2
      dsimp only at q1 R3
      have h3 := (ext_ok g s hE (by simp) (fun x hx => by rw [List.mem_singleton] at hx; rw [hx]; exact hp)).2.2
      have hlen : row.length = 2 * n + 1 := by rw [h3]; simp; omega
      rw [q1, if_neg (show ¬ (1 : Int32) = 0 by decide), mx_letI, ← hlen]
      have z30 : mx_out (fun b j => b = 222 ∧ j = 30) m2 (mx_up m2.1 222 30 (i3 row.length), m2.2) := mx_out_up mx_out.rf rfl ⟨rfl, rfl⟩
      have key : hw (FX12_flower_L56 222 (i3 row.length) mx_FU (i3 0) (mx_up m2.1 222 30 (i3 row.length), m2.2)) (fun m => mx_out (fun b _ => b = 237) (mx_up m2.1 222 30 (i3 row.length), m2.2) m ∧ ∀ i, i < row.length → m.1 237 i = m2.1 235 i) := by
        refine lp_inv (L := fun fu y m => FX12_flower_L56 222 (i3 row.length) fu y m) (n := row.length) (fun k m => mx_out (fun b _ => b = 237) (mx_up m2.1 222 30 (i3 row.length), m2.2) m ∧ ∀ i, i < k → m.1 237 i = m2.1 235 i) ?_ ?_ 0 mx_FU _ (by omega) (FU_lt (by omega)) ⟨mx_out.rf, fun i hi => by omega⟩
        · intro fu m hI
          show hw (FX12_flower_L56 222 (i3 row.length) (fu + 1) (i3 row.length) m) _
          rw [FX12_flower_L56, if_pos (by rw [i3_le (by omega) (by omega)]; omega)]
          exact hw_some hI
        · intro fu k m hk hI hs2
          show hw (FX12_flower_L56 222 (i3 row.length) (fu + 1) (i3 k) m) _
          have e235 : m.1 (222 + 13) k = m2.1 235 k := by
            show m.1 235 k = _
            rw [hI.1.cell 235 (fun j => by omega), z30.cell 235 (fun j => by omega)]
          rw [FX12_flower_L56, if_neg (by rw [i3_le (by omega) (by omega)]; omega), mx_inb_i3 (by omega) (by omega), mx_chkT, i3_toNat (by omega), e235, mx_letI, mx_letI, i3_succ]
          refine hs2 _ ⟨mx_out_up hI.1 rfl rfl, fun i hi => ?_⟩
          show mx_up m.1 237 k (m2.1 235 k) 237 i = _
          rw [up_at]
          by_cases q : i = k
          · rw [if_pos q, q]
          · rw [if_neg q]; exact hI.2 i (by omega)
      obtain ⟨m4, e4, z4, v4⟩ := key
      show hw (Option.bind (FX12_flower_L56 222 (i3 row.length) mx_FU (i3 0) (mx_up m2.1 222 30 (i3 row.length), m2.2)) _) _
      rw [e4, ob_some]
      refine hw_some ⟨row, fs_hit hf (by rw [eF n hn1, hE]) hn5, rfl, ?_, fun i hi => ?_, ?_⟩
      · show m4.1 222 30 = _
        rw [z4.fld 222 30 (by omega)]; exact mx_up_self m2.1 222 30 _
      · show m4.1 237 i = _
        rw [v4 i hi]; exact R3 i hi
      · exact mx_out.tr ((WYtr z z2).sub (fun b j q => Or.inl q)) (mx_out.tr (z30.sub (fun b j q => Or.inr (Or.inr q))) (z4.sub (fun b j q => Or.inr (Or.inl q))))
theorem O_flower (h : RR c d) (x : Int32) : Sm (FX11_flower 0 x c) (FX12_flower 222 x d) := by
  have h0 := th0 h 0
  unfold FX12_flower
  rw [mx_letI]
  generalize (mx_up d.1 222 0 0, d.2) = d0 at h0 ⊢
  unfold FX11_flower FX9_findFlower FX7_size
  obtain ⟨g, s, hg, hs⟩ := h0.2.2.1.1
  have hn := g.1.2
  show Sm (Option.bind (Option.bind (FX4_hasPoint 4 x c) _) _) _
  rcases i3_cases x (nP (d0.1 224)) (by omega) with ⟨p, hp, rfl⟩ | ⟨-, hx⟩
  · rw [C_hasPoint_y g hg hp, M_isPoint_y g rfl hp, ob_some, ob_some, if_neg (show ¬ (1 : Int32) = 0 by decide), if_neg (show ¬ (1 : Int32) = 0 by decide), mx_letI]
    obtain ⟨⟨r1, c1⟩, e1, z1, m1⟩ := C_findRow (by omega) true h0.2.2.1.1 hp
    have z0 : mx_out WY d0 (mx_up d0.1 235 0 (i3 p), d0.2) := mx_out_up mx_out.rf rfl rfl
    have e224 : (mx_up d0.1 235 0 (i3 p), d0.2).1 224 = d0.1 224 := z0.cell 224 (fun j => by unfold WY; omega)
    have w0 : ways (mx_up d0.1 235 0 (i3 p), d0.2) [p] := fun i hi => by
      have : i = 0 := by simp at hi; omega
      subst this
      exact mx_up_self d0.1 235 0 (i3 p)
    have RM := M_flower_L (d := (mx_up d0.1 235 0 (i3 p), d0.2)) (p := p) (by rw [e224]; exact g) (by rw [e224]; exact s) (by rw [e224]; exact hp) w0
    rw [e224] at RM
    obtain ⟨q, e2, m2⟩ := RM
    show Sm (Option.bind (Option.bind (FX9_findRow 38 4 (i3 p) (i3 (fw true)) (b2 true) c) _) _) (Option.bind (FX12_flower_L24 222 (i3 p) mx_FU (i3 3) (mx_up d0.1 235 0 (i3 p), d0.2)) _)
    rw [e1, e2, ob_some, ob_some]
    dsimp only
    cases q with
    | inr m =>
      obtain ⟨z2, ef⟩ := m2
      rw [ef] at m1
      dsimp only at m1
      rw [m1, if_pos rfl, ob_some, se_inr]
      exact hb_some ⟨rfl, RR_se h0 z1 (mx_out.tr z0 z2)⟩
    | inl rr =>
      obtain ⟨row, ef, w1, w2, w3, w4⟩ := m2
      rw [ef] at m1
      dsimp only at m1
      obtain ⟨m1a, m1b⟩ := m1
      obtain ⟨k1, k2, k3, k4, k5⟩ := fnd_ok g s hp ef
      have k4' : row.length % 2 = 1 := k4
      have k5' : 3 ≤ row.length := k5
      rw [m1a, if_neg (show ¬ (1 : Int32) = 0 by decide), ob_some, se_inl]
      dsimp only
      rw [if_neg (show ¬ (1 : Int32) = 0 by decide)]
      obtain ⟨c2, e3, r3, v3⟩ := R_copy (r := 43) (cap := 10) m1b.1 ⟨rl10 (by omega), nI10, by omega⟩ k3 (by omega) (by omega) (by omega)
      have z3' := WSX7c e3
      show Sm (Option.bind (FX7_copyFrom 43 39 c1) _) _
      rw [e3, ob_some, ob_some]
      have zd : mx_out (fun b j => b = 235 ∨ b = 237 ∨ (b = 222 ∧ j = 30)) d0 rr.2 := mx_out.tr (z0.sub (fun b j q => Or.inl q)) w4
      have R1 := RR_se h0 z1 (mx_out.rf (m := d0))
      refine hb_some ⟨?_, RR_rw R1 (ag_of z3' (fun b j q => by omega)) (ag_of zd (fun b j q => by unfold SD at q; omega)) (RW_mv R1.2.2.2.2.1 (ag_of z3' (fun b j q => by omega)) (ag_of zd (fun b j q => by omega))) ⟨row.length, fun i => row.getD i 0, ⟨r3, fun i hi => ⟨?_, ?_⟩⟩, w2, w3, Or.inr ⟨k5', k4'⟩, nd_inj k1⟩⟩
      · show c2.1 43 1 = rr.1
        rw [r3.1, w1]
      · rw [v3 i hi]; exact m1b.2 i hi
      · have := k2 _ (gd_memB hi)
        show row.getD i 0 < 10
        omega
  · rw [C_hasPoint_n g hg hx, M_isPoint_n g rfl hx, ob_some, ob_some, if_pos rfl, if_pos rfl, ob_some]
    exact hb_some ⟨rfl, h0⟩
end OPG
