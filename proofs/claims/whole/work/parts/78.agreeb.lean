/-! ===== both tell the same of the best pairings ===== -/
section AGREEB
variable {N : Rw} {m m' d : mB} {T nq : Nat} {qp qv : Nat → Nat}
theorem M_surveyMost (g : GI N) (s : SI N) (hN : d.1 224 = N) (hA : AK nq qp qv d) : ∃ m', FX12_surveyMost 222 d = some m' ∧ P2 N (mxt N (2 ^ nP N - 1)) nq qp qv (en N (2 ^ nP N - 1)) m' ∧ m'.1 224 = N := by
  have hn := g.1.2
  have hL := g.2.1.2
  have h1024 := all_lt g
  obtain ⟨m1, e1, Q1, n1, d1⟩ := M_survey g s hN
  have z1 : mx_out (WSX12_survey 222) d m1 := ZX12_survey e1
  obtain ⟨t, B, t1, t2, -⟩ := Q1.2.2.1
  have et := (fb_isB (en_ne g s h1024) t2).2
  have e41 : m1.1 222 41 = i3 (mxt N (2 ^ nP N - 1)) := by rw [t1, et, z3_i3]
  have h495 : mxt N (2 ^ nP N - 1) ≤ 495 := by
    obtain ⟨y, hy, e⟩ := mxl_at (tl_b g s _ h1024).2.1
    obtain ⟨M, hM, rfl⟩ := List.mem_map.mp hy
    have := Q1.2.2.2 M hM
    unfold mxt
    omega
  have z4 : mx_out (fun b j => b = 222 ∧ (j = 42 ∨ j = 43 ∨ j = 44)) m1 (mx_up (mx_up (mx_up m1.1 222 42 (-1)) 222 43 0) 222 44 0, m1.2) := mx_out_up (mx_out_up (mx_out_up mx_out.rf rfl ⟨rfl, Or.inl rfl⟩) rfl ⟨rfl, Or.inr (Or.inl rfl)⟩) rfl ⟨rfl, Or.inr (Or.inr rfl)⟩
  have k1 : hw (FX12_surveyMost_L21 222 mx_FU (i3 0) (mx_up (mx_up (mx_up m1.1 222 42 (-1)) 222 43 0) 222 44 0, m1.2)) (fun m2 => mx_out (fun b _ => b = 243) (mx_up (mx_up (mx_up m1.1 222 42 (-1)) 222 43 0) 222 44 0, m1.2) m2 ∧ ∀ j, j < 30 → m2.1 243 j = 0) := by
    refine lp_inv (L := fun fu y m => FX12_surveyMost_L21 222 fu y m) (n := 30) (fun k m2 => mx_out (fun b _ => b = 243) (mx_up (mx_up (mx_up m1.1 222 42 (-1)) 222 43 0) 222 44 0, m1.2) m2 ∧ ∀ j, j < k → m2.1 243 j = 0) ?_ ?_ 0 mx_FU _ (by omega) (FU_lt (by omega)) ⟨mx_out.rf, fun j hj => by omega⟩
    · intro fu m2 hI
      show hw (FX12_surveyMost_L21 222 (fu + 1) (i3 30) m2) _
      rw [FX12_surveyMost_L21]
      exact hw_some hI
    · intro fu k m2 hk hI hs
      show hw (FX12_surveyMost_L21 222 (fu + 1) (i3 k) m2) _
      rw [FX12_surveyMost_L21]
      simp (disch := omega) only [Nat.reduceAdd, ob_some, mx_letI, mx_chkT, mx_inb_i3, mx_inb_lit, lit_toNat, i3_toNat, i3_le, i3_lt, i3_leL, i3_Lle, i3_ltL, i3_Llt, i3_neg, i3_eq, i3_eqL, i3_ne1, i3_add, i3_addL, i3_Ladd, i3_mul, i3_mulL, i3_Lmul, mx_b01_0, mx_b01_1, b2_01, b2_0, b2_1, se_inl, se_inr, if_true, if_false, e10, e01, e00, e11, em1, em1lt, Nat.not_lt_zero, if_pos, if_neg]
      refine hs _ ⟨mx_out_up hI.1 rfl rfl, fun j hj => ?_⟩
      show mx_up m2.1 243 k 0 243 j = 0
      rw [up_at]
      by_cases c : j = k
      · rw [if_pos c]
      · rw [if_neg c]; exact hI.2 j (by omega)
  obtain ⟨m2, e2, z2, A2⟩ := k1
  have k2 : hw (FX12_surveyMost_L42 222 mx_FU (i3 0) m2) (fun m3 => mx_out (fun b _ => b = 244) m2 m3 ∧ ∀ j, j < 110 → m3.1 244 j = 0) := by
    refine lp_inv (L := fun fu y m => FX12_surveyMost_L42 222 fu y m) (n := 110) (fun k m3 => mx_out (fun b _ => b = 244) m2 m3 ∧ ∀ j, j < k → m3.1 244 j = 0) ?_ ?_ 0 mx_FU _ (by omega) (FU_lt (by omega)) ⟨mx_out.rf, fun j hj => by omega⟩
    · intro fu m3 hI
      show hw (FX12_surveyMost_L42 222 (fu + 1) (i3 110) m3) _
      rw [FX12_surveyMost_L42]
      exact hw_some hI
    · intro fu k m3 hk hI hs
      show hw (FX12_surveyMost_L42 222 (fu + 1) (i3 k) m3) _
      rw [FX12_surveyMost_L42]
      simp (disch := omega) only [Nat.reduceAdd, ob_some, mx_letI, mx_chkT, mx_inb_i3, mx_inb_lit, lit_toNat, i3_toNat, i3_le, i3_lt, i3_leL, i3_Lle, i3_ltL, i3_Llt, i3_neg, i3_eq, i3_eqL, i3_ne1, i3_add, i3_addL, i3_Ladd, i3_mul, i3_mulL, i3_Lmul, mx_b01_0, mx_b01_1, b2_01, b2_0, b2_1, se_inl, se_inr, if_true, if_false, e10, e01, e00, e11, em1, em1lt, Nat.not_lt_zero, if_pos, if_neg]
      refine hs _ ⟨mx_out_up hI.1 rfl rfl, fun j hj => ?_⟩
      show mx_up m3.1 244 k 0 244 j = 0
      rw [up_at]
      by_cases c : j = k
      · rw [if_pos c]
      · rw [if_neg c]; exact hI.2 j (by omega)
  obtain ⟨m3, e3, z3', A3⟩ := k2
  have z5 : mx_out (fun b j => b = 222 ∧ j = 46) m3 (mx_up m3.1 222 46 1, m3.2) := mx_out_up mx_out.rf rfl ⟨rfl, rfl⟩
  have fld : ∀ j, j ≠ 46 → (mx_up m3.1 222 46 1, m3.2).1 222 j = mx_up (mx_up (mx_up m1.1 222 42 (-1)) 222 43 0) 222 44 0 222 j := fun j hj => by
    rw [z5.fld 222 j (by omega), z3'.fld 222 j (by omega), z2.fld 222 j (by omega)]
  have cel : ∀ b, b ≠ 222 → b ≠ 243 → b ≠ 244 → (mx_up m3.1 222 46 1, m3.2).1 b = m1.1 b := fun b h1 h2 h3 => by
    rw [z5.cell b (fun j => by omega), z3'.cell b (fun j => h3), z2.cell b (fun j => h2), z4.cell b (fun j => by omega)]
  have up3 : ∀ j, j ≠ 42 → j ≠ 43 → j ≠ 44 → mx_up (mx_up (mx_up m1.1 222 42 (-1)) 222 43 0) 222 44 0 222 j = m1.1 222 j := fun j h1 h2 h3 => by
    rw [mx_up_ne _ _ (fun _ => h3), mx_up_ne _ _ (fun _ => h2), mx_up_ne _ _ (fun _ => h1)]
  have hN5 : (mx_up m3.1 222 46 1, m3.2).1 224 = N := by rw [cel 224 (by omega) (by omega) (by omega)]; exact n1
  have hpw : 2 ^ nP N - 1 < 2 ^ nP N := by have := Nat.two_pow_pos (nP N); omega
  have hW : WS N 0 (2 ^ nP N - 1) [] (mx_up m3.1 222 46 1, m3.2) := by
    refine ⟨hN5, fun x hx => ?_, by omega, h1024, fun x hx => ?_, by simp, ?_, by simp [tk]⟩
    · rw [cel 238 (by omega) (by omega) (by omega)]; exact d1 x hx
    · rw [all_bit _ (by omega) x hx]
      simp [mt]
    · have := @pc_le (2 ^ nP N - 1)
      simp [tk]; omega
  have hP : P2 N (mxt N (2 ^ nP N - 1)) nq qp qv [] (mx_up m3.1 222 46 1, m3.2) := by
    refine ⟨mx_up_self m3.1 222 46 1, ?_, h495, ?_, ⟨-1, ?_, Or.inl ⟨rfl, by simp⟩⟩, ?_, fun l hl => ?_, ?_, fun x hx j hj => ?_⟩
    · rw [fld 41 (by omega), up3 41 (by omega) (by omega) (by omega)]; exact e41
    · unfold AK
      rw [fld 47 (by omega), up3 47 (by omega) (by omega) (by omega), cel 223 (by omega) (by omega) (by omega), z1.fld 222 47 (by unfold WSX12_survey; omega), z1.cell 223 (fun j => by unfold WSX12_survey; omega)]
      exact hA
    · rw [fld 42 (by omega), mx_up_ne _ _ (fun _ => by omega), mx_up_ne _ _ (fun _ => by omega), mx_up_self]
      rfl
    · rw [fld 43 (by omega), mx_up_ne _ _ (fun _ => by omega), mx_up_self]
      rfl
    · rw [z5.cell 243 (fun j => by omega), z3'.cell 243 (fun j => by omega), A2 l (by omega)]
      rfl
    · rw [fld 44 (by omega), mx_up_self]
      rfl
    · rw [z5.cell 244 (fun j => by omega), A3 _ (by omega)]
      rfl
  obtain ⟨m6, e6, P6, n6, -⟩ := M_walk g s (P := P2 N (mxt N (2 ^ nP N - 1)) nq qp qv) (fun h1 h2 h3 h4 h5 h6 => M_leaf2 g h1 h2 h3 h5 h6) (fun h1 h2 => P2_up h1 h2) 64 (by omega) hW hP
  refine ⟨m6, ?_, by simpa using P6, n6⟩
  unfold FX12_surveyMost
  rw [e1, ob_some, mx_letI, mx_letI, mx_letI]
  show Option.bind (FX12_surveyMost_L21 222 mx_FU (i3 0) (mx_up (mx_up (mx_up m1.1 222 42 (-1)) 222 43 0) 222 44 0, m1.2)) _ = _
  rw [e2, ob_some]
  show Option.bind (FX12_surveyMost_L42 222 mx_FU (i3 0) m2) _ = _
  rw [e3, ob_some, mx_letI]
  show Option.bind (FX12_walk 64 222 (i3 0) (i3 (tk N []).1) (i3 (tk N []).2) (mx_up m3.1 222 46 1, m3.2)) _ = _
  rw [e6, ob_some]
theorem cp_bm (N : Rw) (x : Nat) (P : List (Nat × Nat) → Bool) : (en N x).countP (fun M => decide ((tk N M).1 = mxt N x) && P M) = (bm N x).countP P := by
  unfold bm
  rw [List.countP_filter]
  congr 1
  funext M
  exact Bool.and_comm _ _
theorem cp_len (N : Rw) (x : Nat) : (en N x).countP (fun M => decide ((tk N M).1 = mxt N x)) = (bm N x).length := by
  unfold bm
  rw [List.countP_eq_length_filter]
theorem M_fateOf (g : GI N) (s : SI N) (hN : d.1 224 = N) {l : Nat} (hl : l < nL N) : ∃ m', FX12_fateOf 222 (i3 l) d = some (i3 (fat N l), m') := by
  have hL := g.2.1.2
  have hb := bm_len g s (all_lt g)
  have z : mx_out (fun b j => b = 222 ∧ j = 47) d (mx_up d.1 222 47 0, d.2) := mx_out_up mx_out.rf rfl ⟨rfl, rfl⟩
  obtain ⟨m1, e1, Q, -⟩ := M_surveyMost (nq := 0) (qp := fun _ => 0) (qv := fun _ => 0) (d := (mx_up d.1 222 47 0, d.2)) g s (by rw [z.cell 224 (fun j => by omega)]; exact hN) ⟨mx_up_self d.1 222 47 0, by omega, fun k hk => by omega⟩
  obtain ⟨-, -, -, -, -, q43, q243, -⟩ := Q
  have e3 : m1.1 (222 + 21) l = i3 (lcn N l) := by
    show m1.1 243 l = _
    rw [q243 l hl, cp_bm]
    rfl
  have hle : lcn N l ≤ (bm N (2 ^ nP N - 1)).length := List.countP_le_length
  rw [cp_len] at q43
  refine ⟨m1, ?_⟩
  unfold FX12_fateOf
  rw [mx_letI, e1, ob_some, mx_inb_i3 (by omega) (by omega), mx_chkT, i3_toNat (by omega), e3, q43]
  unfold fat
  by_cases c1 : lcn N l = 0
  · rw [if_pos (by rw [c1]; rfl), if_pos c1]; rfl
  · rw [if_neg (by show ¬ i3 (lcn N l) = i3 0; rw [i3_eq (by omega) (by omega)]; exact c1), if_neg c1]
    by_cases c2 : lcn N l < (bm N (2 ^ nP N - 1)).length
    · rw [if_neg (by rw [i3_eq (by omega) (by omega)]; omega), if_pos c2]; rfl
    · rw [if_pos (by rw [i3_eq (by omega) (by omega)]; omega), if_neg c2]; rfl
theorem isNx_TS {x : Nat} (hne : tl N x ≠ []) {t s s' : Int} (h : isTS (tl N x) t s) (h' : isNx N (mxt N x) (en N x) s') : s = s' := by
  have et := isTS_mxt h hne
  have mem : ∀ M ∈ en N x, tk N M ∈ tl N x := fun M hM => List.mem_map.mpr ⟨M, hM, rfl⟩
  rcases h with ⟨-, -, e⟩ | ⟨-, h2, h3⟩
  · exact absurd e hne
  · rcases h3 with ⟨h4, h5⟩ | ⟨⟨y, hy, h4⟩, h5, h6⟩
    · rcases h' with ⟨q1, -⟩ | ⟨⟨M, hM, q1⟩, q2, -⟩
      · omega
      · have := h5 _ (mem M hM); omega
    · obtain ⟨M', hM', rfl⟩ := List.mem_map.mp hy
      rcases h' with ⟨q1, q2⟩ | ⟨⟨M, hM, q1⟩, q2, q3⟩
      · have := q2 M' hM'; omega
      · have a1 := h6 _ (mem M hM)
        have a2 := q3 M' hM'
        omega
theorem next_agree (g : GI N) (s : SI N) (h : HL m N) (h' : P2 N (mxt N (2 ^ nP N - 1)) nq qp qv (en N (2 ^ nP N - 1)) m') : FX2_second 45 m = some (m'.1 222 42) := by
  obtain ⟨t, s', e, ht⟩ := C_second g.1.2 h
  obtain ⟨-, -, -, -, ⟨s2, e2, h2⟩, -⟩ := h'
  rw [e, e2, isNx_TS (tl_b g s _ (all_lt g)).2.1 ht h2]
/-- the questions -/
def qsn (nq : Nat) (qp qv : Nat → Nat) : List (Nat × Int32) := (List.range nq).map (fun k => (qp k, if qv k = 255 then i3 10 else i3 (qv k)))
theorem qsn_succ (nq : Nat) (qp qv : Nat → Nat) : qsn (nq + 1) qp qv = qsn nq qp qv ++ [(qp nq, if qv nq = 255 then i3 10 else i3 (qv nq))] := by
  unfold qsn
  rw [List.range_succ, List.map_append]
  rfl
theorem qsn_all {k : Nat → Int32} : (∀ y ∈ qsn nq qp qv, k y.1 = y.2) ↔ ∀ i, i < nq → k (qp i) = if qv i = 255 then i3 10 else i3 (qv i) := by
  unfold qsn
  constructor
  · intro h i hi
    exact h (qp i, if qv i = 255 then i3 10 else i3 (qv i)) (List.mem_map.mpr ⟨i, List.mem_range.mpr hi, rfl⟩)
  · intro h y hy
    obtain ⟨i, hi, rfl⟩ := List.mem_map.mp hy
    exact h i (List.mem_range.mp hi)
theorem kd_aq {M : List (Nat × Nat)} (hM : ∀ y ∈ M, y.1 < 10 ∧ y.2 < 10) (x : Nat) {v : Nat} (hv : v < 10 ∨ v = 255) : (kd M x = if v = 255 then i3 10 else i3 v) ↔ mt M x = aqv v := by
  unfold kd aqv
  rcases mt_lt hM x with e | ⟨k, hk, e⟩
  · rw [e, if_pos rfl]
    by_cases c : v = 255
    · rw [if_pos c, if_pos c]; exact ⟨fun _ => rfl, fun _ => rfl⟩
    · rw [if_neg c, if_neg c, i3_eq (by omega) (by omega)]
      exact ⟨fun q => by omega, fun q => absurd q.symm (fun q => (i3_ne1 (a := v) (by omega)).mp q)⟩
  · have n1 : ¬ i3 k = -1 := fun q => (i3_ne1 (a := k) (by omega)).mp q
    rw [e, if_neg n1]
    by_cases c : v = 255
    · rw [if_pos c, if_pos c, i3_eq (by omega) (by omega)]
      exact ⟨fun q => by omega, fun q => absurd q n1⟩
    · rw [if_neg c, if_neg c]
theorem okM_asq (g : GI N) {W : Nat → Int32} (hQ : ∀ k : Nat → Int32, (∀ x, x < 10 → W x = -1 ∨ W x = k x) ↔ ∀ y ∈ qsn nq qp qv, k y.1 = y.2) (hq : ∀ i, i < nq → qp i < nP N ∧ (qv i < nP N ∨ qv i = 255)) {M : List (Nat × Nat)} (hM : ∀ y ∈ M, y.1 < 10 ∧ y.2 < 10) : okM W (2 ^ nP N - 1) M = asq nq qp qv M := by
  have hn := g.1.2
  apply Bool.eq_iff_iff.mpr
  rw [okM_iff, asq_iff]
  have h1 := (hQ (fun x => if x < nP N then kd M x else W x)).trans (qsn_all (k := fun x => if x < nP N then kd M x else W x))
  have h2 : (∀ i, i < nq → (if qp i < nP N then kd M (qp i) else W (qp i)) = if qv i = 255 then i3 10 else i3 (qv i)) ↔ ∀ i, i < nq → mt M (qp i) = aqv (qv i) := by
    constructor
    · intro q i hi
      have := q i hi
      rw [if_pos (hq i hi).1] at this
      exact (kd_aq hM _ (by have := (hq i hi).2; omega)).mp this
    · intro q i hi
      rw [if_pos (hq i hi).1]
      exact (kd_aq hM _ (by have := (hq i hi).2; omega)).mpr (q i hi)
  refine Iff.trans ?_ (h1.trans h2)
  show _ ↔ ∀ x, x < 10 → W x = -1 ∨ W x = if x < nP N then kd M x else W x
  constructor
  · intro q x hx
    by_cases c : x < nP N
    · rw [if_pos c]
      have := q x hx (by rw [all_bit _ (by omega) x hx]; simpa using c)
      unfold my at this
      simpa using this
    · rw [if_neg c]; exact Or.inr rfl
  · intro q y hy hb
    rw [all_bit _ (by omega) y hy] at hb
    have c : y < nP N := by simpa using hb
    have := q y hy
    rw [if_pos c] at this
    unfold my
    simpa using this
/-- the best pairings that are as asked -/
def aql (N : Rw) (nq : Nat) (qp qv : Nat → Nat) : List (List (Nat × Nat)) := (bm N (2 ^ nP N - 1)).filter (asq nq qp qv)
theorem want_list (g : GI N) {m : mB} (hQ : QW (qsn nq qp qv) m) (hq : ∀ i, i < nq → qp i < nP N ∧ (qv i < nP N ∨ qv i = 255)) : (if m.1 45 11 = 0 then wl N (m.1 62) (2 ^ nP N - 1) else []) = aql N nq qp qv := by
  have hn := g.1.2
  have hbd : ∀ M ∈ bm N (2 ^ nP N - 1), ∀ y ∈ M, y.1 < 10 ∧ y.2 < 10 := fun M hM => (en_out N _ (all_lt g) M (bm_en hM)).2
  rcases hQ with ⟨h1, h2⟩ | ⟨h1, h2⟩
  · rw [if_pos h1]
    unfold wl aql
    exact List.filter_congr (fun M hM => okM_asq g h2 hq (hbd M hM))
  · rw [if_neg (by rw [h1]; decide)]
    unfold aql
    rw [filt_f]
    intro M hM
    cases hb : asq nq qp qv M with
    | false => rfl
    | true =>
      exfalso
      have h3 := asq_iff.mp hb
      refine h2 (kd M) (qsn_all.mpr (fun i hi => ?_))
      exact (kd_aq (hbd M hM) _ (by have := (hq i hi).2; omega)).mpr (h3 i hi)
theorem aql_len (g : GI N) (s : SI N) : (aql N nq qp qv).length ≤ 9496 := Nat.le_trans (List.length_filter_le _ _) (bm_len g s (all_lt g))
/-- the reference's tallies: lone ahead of the partners -/
def cq (L : List (List (Nat × Nat))) (x j : Nat) : Nat := L.countP (fun M => decide (mt M x + 1 = i3 j))
theorem P2_asked (h' : P2 N (mxt N (2 ^ nP N - 1)) nq qp qv (en N (2 ^ nP N - 1)) m') : m'.1 222 44 = i3 (aql N nq qp qv).length ∧ ∀ x, x < nP N → ∀ j, j < 11 → m'.1 244 (11 * x + j) = i3 (cq (aql N nq qp qv) x j) := by
  obtain ⟨-, -, -, -, -, -, -, q44, q244⟩ := h'
  refine ⟨?_, fun x hx j hj => ?_⟩
  · rw [q44, cp_bm]
    unfold aql
    rw [List.countP_eq_length_filter]
  · rw [q244 x hx j hj]
    have : (fun M => decide ((tk N M).1 = mxt N (2 ^ nP N - 1)) && asq nq qp qv M && decide (mt M x + 1 = i3 j)) = (fun M => decide ((tk N M).1 = mxt N (2 ^ nP N - 1)) && (asq nq qp qv M && decide (mt M x + 1 = i3 j))) := by
      funext M
      rw [Bool.and_assoc]
    rw [this, cp_bm]
    unfold cq aql
    rw [List.countP_filter]
    congr 2
    funext M
    exact Bool.and_comm _ _
theorem gx_at (c : Nat → Nat) : ∀ {k j : Nat}, j < k → c j ≤ gx c k
  | 0, j, h => by omega
  | k + 1, j, h => by
    show c j ≤ max (gx c k) (c k)
    by_cases e : j = k
    · rw [e]; exact Nat.le_max_right _ _
    · exact Nat.le_trans (gx_at c (by omega)) (Nat.le_max_left _ _)
theorem gx_lb {c : Nat → Nat} {b : Nat} : ∀ {k : Nat}, (∀ j, j < k → c j ≤ b) → gx c k ≤ b
  | 0, _ => Nat.zero_le b
  | k + 1, h => by
    show max (gx c k) (c k) ≤ b
    exact Nat.max_le.mpr ⟨gx_lb (fun j hj => h j (by omega)), h k (by omega)⟩
theorem gx_rot {c c' : Nat → Nat} (h0 : c' 0 = c 10) (h1 : ∀ j, j < 10 → c' (j + 1) = c j) : gx c' 11 = gx c 11 := by
  refine Nat.le_antisymm (gx_lb (fun j hj => ?_)) (gx_lb (fun j hj => ?_))
  · by_cases e : j = 0
    · rw [e, h0]; exact gx_at c (by omega)
    · have := h1 (j - 1) (by omega)
      rw [show j - 1 + 1 = j by omega] at this
      rw [this]; exact gx_at c (by omega)
  · by_cases e : j = 10
    · rw [e, ← h0]; exact gx_at c' (by omega)
    · rw [← h1 j (by omega)]; exact gx_at c' (by omega)
theorem cq_ct {L : List (List (Nat × Nat))} (hL : ∀ M ∈ L, ∀ y ∈ M, y.1 < 10 ∧ y.2 < 10) (x : Nat) : gx (cq L x) 11 = gx (ct L x) 11 := by
  refine gx_rot ?_ (fun j hj => ?_)
  · unfold cq ct
    refine List.countP_congr (fun M hM => ?_)
    rw [decide_eq_true_eq, decide_eq_true_eq]
    unfold kd
    rcases mt_lt (hL M hM) x with e | ⟨k, hk, e⟩
    · rw [e, if_pos rfl]
      exact ⟨fun _ => rfl, fun _ => rfl⟩
    · have n1 : ¬ i3 k = -1 := fun q => (i3_ne1 (a := k) (by omega)).mp q
      rw [e, if_neg n1, i3_succ, i3_eq (by omega) (by omega), i3_eq (by omega) (by omega)]
      omega
  · unfold cq ct
    refine List.countP_congr (fun M hM => ?_)
    rw [decide_eq_true_eq, decide_eq_true_eq]
    unfold kd
    rcases mt_lt (hL M hM) x with e | ⟨k, hk, e⟩
    · rw [e, if_pos rfl]
      have : (-1 : Int32) + 1 = i3 0 := rfl
      rw [this, i3_eq (by omega) (by omega), i3_eq (by omega) (by omega)]
      omega
    · have n1 : ¬ i3 k = -1 := fun q => (i3_ne1 (a := k) (by omega)).mp q
      rw [e, if_neg n1, i3_succ, i3_eq (by omega) (by omega), i3_eq (by omega) (by omega)]
      omega
theorem M_who_L125 {c : Nat → Nat → Nat} (hc : ∀ x j, c x j ≤ 9496) (hn : nP N ≤ 10) (h : ∀ x, x < nP N → ∀ j, j < 11 → m.1 244 (11 * x + j) = i3 (c x j)) (y2 : Int32) {x : Nat} (hx : x < nP N) : FX12_who_L125 222 y2 (i3 x) m mx_FU (i3 0) (i3 0) = some (i3 (gx (c x) 11)) := by
  have hb := gx_le (c := c x) (b := 9496) (hc x)
  refine hw_eq.mp (lp_inv (S := Int32) (L := fun fu y t => FX12_who_L125 222 y2 (i3 x) m fu t y) (n := 11) (fun k t => t = i3 (gx (c x) k)) ?_ ?_ 0 mx_FU (i3 0) (by omega) (FU_lt (by omega)) rfl)
  · intro fu t ht
    show hw (FX12_who_L125 222 y2 (i3 x) m (fu + 1) t (i3 11)) _
    rw [FX12_who_L125, if_pos (show (11 : Int32) ≤ i3 11 by decide)]
    exact hw_some ht
  · intro fu k t hk ht hs
    show hw (FX12_who_L125 222 y2 (i3 x) m (fu + 1) t (i3 k)) _
    have e1 : m.1 (222 + 22) (11 * x + k) = i3 (c x k) := h x hx k hk
    have hbk := hb k
    have hck := hc x k
    rw [FX12_who_L125, if_neg (by show ¬ i3 11 ≤ i3 k; rw [i3_le (by omega) (by omega)]; omega), i3_Lmul, i3_add, mx_inb_i3 (by omega) (by omega), mx_chkT, i3_toNat (by omega), e1, ht, mx_letI, mx_letI, mx_letI, i3_succ]
    by_cases q : c x k ≤ gx (c x) k
    · rw [if_pos (by rw [i3_le (by omega) (by omega)]; exact q)]
      refine hs _ ?_
      show i3 (gx (c x) k) = i3 (max (gx (c x) k) (c x k))
      rw [Nat.max_eq_left q]
    · rw [if_neg (by rw [i3_le (by omega) (by omega)]; exact q)]
      refine hs _ ?_
      show i3 (c x k) = i3 (max (gx (c x) k) (c x k))
      rw [Nat.max_eq_right (by omega)]
theorem M_who_L109 (g : GI N) {c : Nat → Nat → Nat} (hc : ∀ x j, c x j ≤ 9496) (h0 : 0 < nP N) (hN : m.1 224 = N) (h : ∀ x, x < nP N → ∀ j, j < 11 → m.1 244 (11 * x + j) = i3 (c x j)) : ∃ m', FX12_who_L109 222 mx_FU (i3 0) (i3 0) m = some m' ∧ m'.1 222 48 = i3 (mtl (fun x => gx (c x) 11) (nP N)).1 ∧ mx_out (fun b j => b = 222 ∧ j = 48) m m' := by
  have n10 := g.1.2
  have hg : ∀ x, gx (c x) 11 ≤ 9496 := fun x => gx_le (hc x) 11
  have hb := mtl_b (G := fun x => gx (c x) 11) (b := 9496) hg
  have key : hw (FX12_who_L109 222 mx_FU (i3 0) (i3 0) m) (fun m' => m'.1 222 48 = i3 (mtl (fun x => gx (c x) 11) (nP N)).1 ∧ mx_out (fun b j => b = 222 ∧ j = 48) m m') := by
    refine lp_inv (S := Int32 × mB) (L := fun fu y t => FX12_who_L109 222 fu t.1 y t.2) (n := nP N) (fun k t => ((k = 0 ∧ t.1 = i3 0) ∨ (0 < k ∧ t.1 = i3 (mtl (fun x => gx (c x) 11) k).2 ∧ t.2.1 222 48 = i3 (mtl (fun x => gx (c x) 11) k).1)) ∧ mx_out (fun b j => b = 222 ∧ j = 48) m t.2) ?_ ?_ 0 mx_FU (i3 0, m) (by omega) (FU_lt (by omega)) ⟨Or.inl ⟨rfl, rfl⟩, mx_out.rf⟩
    · intro fu t ht
      show hw (FX12_who_L109 222 (fu + 1) t.1 (i3 (nP N)) t.2) _
      have e1 : t.2.1 (222 + 2) 0 = i3 (nP N) := by show t.2.1 224 0 = _; rw [ht.2.cell 224 (fun j => by omega), hN, N0 g]
      rw [FX12_who_L109, e1, if_pos (by rw [i3_le (by omega) (by omega)]; omega)]
      rcases ht.1 with ⟨e, -⟩ | ⟨-, -, e⟩
      · omega
      · exact hw_some ⟨e, ht.2⟩
    · intro fu k t hk ht hs
      show hw (FX12_who_L109 222 (fu + 1) t.1 (i3 k) t.2) _
      have e1 : t.2.1 (222 + 2) 0 = i3 (nP N) := by show t.2.1 224 0 = _; rw [ht.2.cell 224 (fun j => by omega), hN, N0 g]
      have e2 : ∀ x, x < nP N → ∀ j, j < 11 → t.2.1 244 (11 * x + j) = i3 (c x j) := fun x hx j hj => by rw [ht.2.cell 244 (fun j => by omega)]; exact h x hx j hj
      rw [FX12_who_L109, e1, if_neg (by rw [i3_le (by omega) (by omega)]; omega)]
      show hw (Option.bind (FX12_who_L125 222 t.1 (i3 k) t.2 mx_FU (i3 0) (i3 0)) _) _
      rw [M_who_L125 hc n10 e2 _ hk, ob_some]
      have h1 := hb k
      have h2 := hg k
      have zz : mx_out (fun b j => b = 222 ∧ j = 48) m (mx_up t.2.1 222 48 (i3 k), t.2.2) := mx_out_up ht.2 rfl ⟨rfl, rfl⟩
      simp only [mx_letI, i3_succ]
      rcases ht.1 with ⟨e, e2⟩ | ⟨e, e2, e3⟩
      · rw [if_pos (by show i3 k ≤ i3 0; rw [i3_le (by omega) (by omega)]; omega)]
        refine hs (i3 (gx (c k) 11), (mx_up t.2.1 222 48 (i3 k), t.2.2)) ⟨Or.inr ⟨by omega, ?_, ?_⟩, zz⟩
        · dsimp only
          unfold mtl
          rw [if_pos e, e]
        · refine (mx_up_self t.2.1 222 48 (i3 k)).trans ?_
          unfold mtl
          rw [if_pos e, e]
      · rw [if_neg (by show ¬ i3 k ≤ i3 0; rw [i3_le (by omega) (by omega)]; omega), e2]
        by_cases q : gx (c k) 11 < (mtl (fun x => gx (c x) 11) k).2
        · rw [if_pos (by rw [i3_lt (by omega) (by omega)]; exact q)]
          refine hs (i3 (gx (c k) 11), (mx_up t.2.1 222 48 (i3 k), t.2.2)) ⟨Or.inr ⟨by omega, ?_, ?_⟩, zz⟩
          · dsimp only
            rw [mtl, if_neg (by omega), if_pos q]
          · refine (mx_up_self t.2.1 222 48 (i3 k)).trans ?_
            rw [mtl, if_neg (by omega), if_pos q]
        · rw [if_neg (by rw [i3_lt (by omega) (by omega)]; exact q)]
          refine hs (i3 (mtl (fun x => gx (c x) 11) k).2, t.2) ⟨Or.inr ⟨by omega, ?_, ?_⟩, ht.2⟩
          · dsimp only
            rw [mtl, if_neg (by omega), if_neg q]
          · dsimp only
            rw [mtl, if_neg (by omega), if_neg q]; exact e3
  obtain ⟨m2, e2, a, b⟩ := key
  exact ⟨m2, e2, a, b⟩
end AGREEB
