/-! ===== the class: what is wanted, counted, told ===== -/
section WANTD
variable {N : Rw} {W : Nat → Int32} {m : mB}
theorem C_wantNothing (m : mB) : ∃ m', FX2_wantNothing 45 m = some m' ∧ m'.1 45 11 = 0 ∧ (∀ x, x < 10 → m'.1 62 x = -1) ∧ mx_out (fun b j => (b = 45 ∧ j = 11) ∨ b = 62) m m' := by
  have key : hw (FX2_wantNothing_L7 45 mx_FU (i3 0) (mx_up m.1 45 11 0, m.2)) (fun m1 => mx_out (fun b _ => b = 62) (mx_up m.1 45 11 0, m.2) m1 ∧ ∀ j, j < 10 → m1.1 62 j = -1) := by
    refine lp_inv (L := fun fu y m => FX2_wantNothing_L7 45 fu y m) (n := 10) (fun k m1 => mx_out (fun b _ => b = 62) (mx_up m.1 45 11 0, m.2) m1 ∧ ∀ j, j < k → m1.1 62 j = -1) ?_ ?_ 0 mx_FU _ (by omega) (FU_lt (by omega)) ⟨mx_out.rf, fun j hj => by omega⟩
    · intro fu m1 hI
      show hw (FX2_wantNothing_L7 45 (fu + 1) (i3 10) m1) _
      rw [FX2_wantNothing_L7]
      exact hw_some hI
    · intro fu k m1 hk hI hs
      show hw (FX2_wantNothing_L7 45 (fu + 1) (i3 k) m1) _
      rw [FX2_wantNothing_L7]
      simp (disch := omega) only [Nat.reduceAdd, ob_some, mx_letI, mx_chkT, mx_inb_i3, mx_inb_lit, lit_toNat, i3_toNat, i3_le, i3_lt, i3_leL, i3_Lle, i3_ltL, i3_Llt, i3_neg, i3_eq, i3_eqL, i3_ne1, i3_add, i3_addL, i3_Ladd, i3_mul, i3_mulL, i3_Lmul, mx_b01_0, mx_b01_1, b2_01, b2_0, b2_1, se_inl, se_inr, if_true, if_false, e10, e01, e00, e11, em1, em1lt, Nat.not_lt_zero, if_pos, if_neg]
      refine hs _ ⟨mx_out_up hI.1 rfl rfl, fun j hj => ?_⟩
      show mx_up m1.1 62 k (-1) 62 j = -1
      rw [up_at]
      by_cases c : j = k
      · rw [if_pos c]
      · rw [if_neg c]; exact hI.2 j (by omega)
  obtain ⟨m1, e1, z1, A1⟩ := key
  refine ⟨m1, ?_, ?_, A1, ?_⟩
  · unfold FX2_wantNothing
    rw [mx_letI]
    show Option.bind (FX2_wantNothing_L7 45 mx_FU (i3 0) (mx_up m.1 45 11 0, m.2)) _ = _
    rw [e1]
    rfl
  · rw [z1.fld 45 11 (by omega)]
    exact mx_up_self m.1 45 11 0
  · exact mx_out.tr (mx_out_up mx_out.rf rfl (Or.inl ⟨rfl, rfl⟩)) (z1.sub (fun b j q => Or.inr q))
theorem en_len (g : GI N) (s : SI N) {x : Nat} (hx : x < 1024) : (en N x).length ≤ 9496 := by
  have h1 := (tl_b g s x hx).1
  have h2 := tm_le (pc10 x hx)
  rw [tm_10] at h2
  unfold tl at h1
  rw [List.length_map] at h1
  omega
theorem bm_len (g : GI N) (s : SI N) {x : Nat} (hx : x < 1024) : (bm N x).length ≤ 9496 := Nat.le_trans (List.length_filter_le _ _) (en_len g s hx)
theorem wl_len (g : GI N) (s : SI N) {x : Nat} (hx : x < 1024) : (wl N W x).length ≤ 9496 := Nat.le_trans (List.length_filter_le _ _) (bm_len g s hx)
theorem all_lt (g : GI N) : 2 ^ nP N - 1 < 1024 := pow10 g.1.2 (by have := Nat.two_pow_pos (nP N); omega)
theorem C_countWanted (g : GI N) (s : SI N) (h : HL m N) (hW : ∀ x, x < 10 → m.1 62 x = W x) : ∃ m', FX2_countWanted 45 m = some (i3 (if m.1 45 11 = 0 then wl N W (2 ^ nP N - 1) else []).length, m') ∧ PT N (if m.1 45 11 = 0 then wl N W (2 ^ nP N - 1) else []) m' ∧ mx_out WT m m' := by
  have n10 := g.1.2
  have key : hw (FX2_countWanted_L7 45 mx_FU (i3 0) (mx_up m.1 45 15 0, m.2)) (fun m1 => mx_out (fun b _ => b = 64) (mx_up m.1 45 15 0, m.2) m1 ∧ ∀ j, j < 110 → m1.1 64 j = 0) := by
    refine lp_inv (L := fun fu y m => FX2_countWanted_L7 45 fu y m) (n := 110) (fun k m1 => mx_out (fun b _ => b = 64) (mx_up m.1 45 15 0, m.2) m1 ∧ ∀ j, j < k → m1.1 64 j = 0) ?_ ?_ 0 mx_FU _ (by omega) (FU_lt (by omega)) ⟨mx_out.rf, fun j hj => by omega⟩
    · intro fu m1 hI
      show hw (FX2_countWanted_L7 45 (fu + 1) (i3 110) m1) _
      rw [FX2_countWanted_L7]
      exact hw_some hI
    · intro fu k m1 hk hI hs
      show hw (FX2_countWanted_L7 45 (fu + 1) (i3 k) m1) _
      rw [FX2_countWanted_L7]
      simp (disch := omega) only [Nat.reduceAdd, ob_some, mx_letI, mx_chkT, mx_inb_i3, mx_inb_lit, lit_toNat, i3_toNat, i3_le, i3_lt, i3_leL, i3_Lle, i3_ltL, i3_Llt, i3_neg, i3_eq, i3_eqL, i3_ne1, i3_add, i3_addL, i3_Ladd, i3_mul, i3_mulL, i3_Lmul, mx_b01_0, mx_b01_1, b2_01, b2_0, b2_1, se_inl, se_inr, if_true, if_false, e10, e01, e00, e11, em1, em1lt, Nat.not_lt_zero, if_pos, if_neg]
      refine hs _ ⟨mx_out_up hI.1 rfl rfl, fun j hj => ?_⟩
      show mx_up m1.1 64 k 0 64 j = 0
      rw [up_at]
      by_cases c : j = k
      · rw [if_pos c]
      · rw [if_neg c]; exact hI.2 j (by omega)
  obtain ⟨m1, e1, z1, A1⟩ := key
  have z0 : mx_out WT m m1 := mx_out.tr (mx_out_up mx_out.rf rfl (Or.inl ⟨rfl, rfl⟩)) (z1.sub (fun b j q => Or.inr (Or.inr q)))
  have e15 : m1.1 45 15 = i3 0 := by
    rw [z1.fld 45 15 (by omega)]
    exact mx_up_self m.1 45 15 0
  have hP0 : PT N [] m1 := ⟨e15, fun x hx k hk => by rw [A1 _ (by omega)]; rfl⟩
  have h1 := HL_WT g h z0
  unfold FX2_countWanted
  rw [mx_letI]
  show ∃ m', Option.bind (FX2_countWanted_L7 45 mx_FU (i3 0) (mx_up m.1 45 15 0, m.2)) _ = _ ∧ _
  rw [e1, ob_some, z0.fld 45 11 (by unfold WT; omega)]
  by_cases c : m.1 45 11 = 0
  · rw [if_pos c, if_pos c, h1.2.2.1]
    have pl := @pc_le (2 ^ nP N - 1)
    obtain ⟨m2, e2, P2, d2, z2⟩ := C_walkBest (W := W) g s 64 (f := 2 ^ nP N - 1) (depth := 0) (pre := []) (done := []) (m := m1) (by omega) (by omega) h1 (kn_all h1) (fun x hx hb => by
      rw [all_bit _ (by omega) x (by omega)] at hb
      simp at hb
      omega) (by simp) (fun x _ => rfl) (fun x hx => by rw [z0.cell 62 (fun j => by unfold WT; omega)]; exact hW x hx) hP0
    have P3 : PT N (wl N W (2 ^ nP N - 1)) m2 := by simpa using P2
    show ∃ m', Option.bind (FX2_walkBest 64 45 (i3 (2 ^ nP N - 1)) (i3 0) m1) _ = _ ∧ _
    rw [e2, ob_some]
    exact ⟨m2, by rw [P3.1], P3, mx_out.tr z0 z2⟩
  · rw [if_neg c, if_neg c, e15]
    exact ⟨m1, rfl, hP0, z0⟩
/-- what is wanted -/
def QW (Q : List (Nat × Int32)) (m : mB) : Prop := (m.1 45 11 = 0 ∧ ∀ k : Nat → Int32, (∀ x, x < 10 → m.1 62 x = -1 ∨ m.1 62 x = k x) ↔ ∀ y ∈ Q, k y.1 = y.2) ∨ (m.1 45 11 = 1 ∧ ∀ k : Nat → Int32, ¬ ∀ y ∈ Q, k y.1 = y.2)
theorem QW_step {Q : List (Nat × Int32)} (h : QW Q m) {x : Nat} (hx : x < 10) {u : Int32} (hu : u ≠ -1) : ∃ m', (if m.1 62 x = -1 then some (mx_up m.1 62 x u, m.2) else if m.1 62 x = u then some (mx_up m.1 62 x u, m.2) else some (mx_up m.1 45 11 1, m.2)) = some m' ∧ QW (Q ++ [(x, u)]) m' ∧ mx_out (fun b j => (b = 45 ∧ j = 11) ∨ b = 62) m m' := by
  have mem : ∀ k : Nat → Int32, (∀ y ∈ Q ++ [(x, u)], k y.1 = y.2) ↔ (∀ y ∈ Q, k y.1 = y.2) ∧ k x = u := by
    intro k
    constructor
    · intro q
      exact ⟨fun y hy => q y (List.mem_append.mpr (Or.inl hy)), q (x, u) (by simp)⟩
    · rintro ⟨q1, q2⟩ y hy
      rcases List.mem_append.mp hy with w | w
      · exact q1 y w
      · rw [List.mem_singleton] at w
        rw [w]; exact q2
  have z1 : mx_out (fun b j => (b = 45 ∧ j = 11) ∨ b = 62) m (mx_up m.1 62 x u, m.2) := mx_out_up mx_out.rf rfl (Or.inr rfl)
  have z2 : mx_out (fun b j => (b = 45 ∧ j = 11) ∨ b = 62) m (mx_up m.1 45 11 1, m.2) := mx_out_up mx_out.rf rfl (Or.inl ⟨rfl, rfl⟩)
  have f11 : (mx_up m.1 62 x u, m.2).1 45 11 = m.1 45 11 := by
    show mx_up m.1 62 x u 45 11 = _
    rw [up_off _ (by omega)]
  have f62 : ∀ y, (mx_up m.1 62 x u, m.2).1 62 y = if y = x then u else m.1 62 y := fun y => by
    show mx_up m.1 62 x u 62 y = _
    rw [up_at]
  have hcon : (∀ k : Nat → Int32, ¬ ∀ y ∈ Q, k y.1 = y.2) → ∀ k : Nat → Int32, ¬ ∀ y ∈ Q ++ [(x, u)], k y.1 = y.2 := fun q k w => q k ((mem k).mp w).1
  have same : (m.1 62 x = -1 ∨ m.1 62 x = u) → QW (Q ++ [(x, u)]) (mx_up m.1 62 x u, m.2) := by
    intro hc
    rcases h with ⟨h1, h2⟩ | ⟨h1, h2⟩
    · refine Or.inl ⟨by rw [f11]; exact h1, fun k => ?_⟩
      rw [mem k, ← h2 k]
      constructor
      · intro q
        refine ⟨fun y hy => ?_, ?_⟩
        · by_cases e : y = x
          · have := q x hx
            rw [f62, if_pos rfl] at this
            rcases this with w | w
            · exact absurd w hu
            · rw [e]
              rcases hc with v | v
              · exact Or.inl v
              · exact Or.inr (v.trans w)
          · have := q y hy
            rw [f62, if_neg e] at this
            exact this
        · have := q x hx
          rw [f62, if_pos rfl] at this
          rcases this with w | w
          · exact absurd w hu
          · exact w.symm
      · rintro ⟨q1, q2⟩ y hy
        rw [f62]
        by_cases e : y = x
        · rw [if_pos e, e]; exact Or.inr q2.symm
        · rw [if_neg e]; exact q1 y hy
    · exact Or.inr ⟨by rw [f11]; exact h1, hcon h2⟩
  by_cases c1 : m.1 62 x = -1
  · rw [if_pos c1]
    exact ⟨_, rfl, same (Or.inl c1), z1⟩
  · rw [if_neg c1]
    by_cases c2 : m.1 62 x = u
    · rw [if_pos c2]
      exact ⟨_, rfl, same (Or.inr c2), z1⟩
    · rw [if_neg c2]
      refine ⟨_, rfl, Or.inr ⟨mx_up_self m.1 45 11 1, ?_⟩, z2⟩
      rcases h with ⟨h1, h2⟩ | ⟨h1, h2⟩
      · intro k w
        obtain ⟨w1, w2⟩ := (mem k).mp w
        rcases (h2 k).mpr w1 x hx with v | v
        · exact c1 v
        · exact c2 (v.trans w2)
      · exact hcon h2
theorem C_want {Q : List (Nat × Int32)} (h : QW Q m) {x v : Nat} (hx : x < 10) (hv : v < 10 ∨ v = 255) : ∃ m', FX2_want 45 (i3 x) (i3 v) m = some m' ∧ QW (Q ++ [(x, if v = 255 then i3 10 else i3 v)]) m' ∧ mx_out (fun b j => (b = 45 ∧ j = 11) ∨ b = 62) m m' := by
  unfold FX2_want
  by_cases c : v = 255
  · rw [if_pos c, if_pos (show i3 v = 255 by rw [c]; rfl), if_neg (i3_ge0 (by omega)), if_neg (by show ¬ i3 10 ≤ i3 x; rw [i3_le (by omega) (by omega)]; omega), mx_inb_i3 hx (by omega), mx_chkT, i3_toNat (by omega)]
    exact QW_step h hx (u := i3 10) (by decide)
  · rw [if_neg c, if_neg (by show ¬ i3 v = i3 255; rw [i3_eq (by omega) (by omega)]; exact c), if_neg (i3_ge0 (by omega)), if_neg (by show ¬ i3 10 ≤ i3 x; rw [i3_le (by omega) (by omega)]; omega), mx_inb_i3 hx (by omega), mx_chkT, i3_toNat (by omega)]
    exact QW_step h hx (u := i3 v) (fun e => (i3_ne1 (a := v) (by omega)).mp e)
/-- in how many best pairings a link is a pair; its fate -/
def lcn (N : Rw) (l : Nat) : Nat := (bm N (2 ^ nP N - 1)).countP (fun M => decide (mt M (nA N l) = i3 (nB N l)))
def fat (N : Rw) (l : Nat) : Nat := if lcn N l = 0 then 0 else if lcn N l < (bm N (2 ^ nP N - 1)).length then 1 else 2
def FT (m : mB) (N : Rw) : Prop := ∀ l, l < nL N → m.1 65 l = i3 (fat N l)
theorem wl_free (N : Rw) (x : Nat) : wl N (fun _ => -1) x = bm N x := by
  unfold wl
  rw [List.filter_eq_self]
  intro M hM
  exact okM_iff.mpr (fun y hy hb => rfl)
theorem kd_mt (M : List (Nat × Nat)) (x : Nat) {k : Nat} (hk : k < 10) : decide (kd M x = i3 k) = decide (mt M x = i3 k) := by
  unfold kd
  by_cases c : mt M x = -1
  · rw [if_pos c, c]
    rw [decide_eq_false (by rw [i3_eq (by omega) (by omega)]; omega), decide_eq_false (fun e => (i3_ne1 (a := k) (by omega)).mp e.symm)]
  · rw [if_neg c]
theorem C_tallyAt {L : List (List (Nat × Nat))} (hP : PT N L m) (g : GI N) {x k : Nat} (hx : x < nP N) (hk : k < 11) : FX2_tallyAt 45 (i3 x) (i3 k) m = some (i3 (L.countP (fun M => decide (kd M x = i3 k)))) := by
  have n10 := g.1.2
  unfold FX2_tallyAt
  rw [if_neg (i3_ge0 (by omega)), if_neg (by show ¬ i3 10 ≤ i3 x; rw [i3_le (by omega) (by omega)]; omega), if_neg (i3_ge0 (by omega)), if_neg (by show ¬ i3 11 ≤ i3 k; rw [i3_le (by omega) (by omega)]; omega)]
  show mx_chk (mx_inb (i3 x * i3 11 + i3 k) 110) (some (m.1 64 (Int32.toNatClampNeg (i3 x * i3 11 + i3 k)))) = _
  rw [i3_mul, i3_add, mx_inb_i3 (by omega) (by omega), mx_chkT, i3_toNat (by omega), hP.2 x hx k hk]
theorem C_fate_L18 (g : GI N) (s : SI N) (hC : CG m 46 N) (hP : PT N (bm N (2 ^ nP N - 1)) m) (y1 : Int32) : hw (FX2_fateOf_L18 45 y1 mx_FU (i3 0) m) (fun m' => mx_out (fun b _ => b = 65) m m' ∧ FT m' N) := by
  have n10 := g.1.2
  have hb := bm_len g s (all_lt g)
  refine lp_inv (L := fun fu y m => FX2_fateOf_L18 45 y1 fu y m) (n := 30) (fun k m' => mx_out (fun b _ => b = 65) m m' ∧ ∀ l, l < k → l < nL N → m'.1 65 l = i3 (fat N l)) ?_ ?_ 0 mx_FU _ (by omega) (FU_lt (by omega)) ⟨mx_out.rf, fun j hj => by omega⟩
  · intro fu m' hI
    show hw (FX2_fateOf_L18 45 y1 (fu + 1) (i3 30) m') _
    rw [FX2_fateOf_L18]
    exact hw_some ⟨hI.1, fun l hl => hI.2 l (by have := g.2.1.2; omega) hl⟩
  · intro fu k m' hk hI hs
    show hw (FX2_fateOf_L18 45 y1 (fu + 1) (i3 k) m') _
    rw [FX2_fateOf_L18, if_neg (by show ¬ i3 30 ≤ i3 k; rw [i3_le (by omega) (by omega)]; omega)]
    have hC1 : CG m' 46 N := CG_mv g hC (hI.1.fld 46 0 (by omega)) (hI.1.fld 46 1 (by omega)) (hI.1.cell _ (fun j => by omega)) (hI.1.cell _ (fun j => by omega)) (hI.1.cell _ (fun j => by omega)) (hI.1.cell _ (fun j => by omega)) (hI.1.cell _ (fun j => by omega)) (fun _ _ => rfl) (fun _ _ => rfl)
    have hP1 : PT N (bm N (2 ^ nP N - 1)) m' := ⟨by rw [hI.1.fld 45 15 (by omega)]; exact hP.1, fun x hx j hj => by rw [hI.1.cell 64 (fun j => by omega)]; exact hP.2 x hx j hj⟩
    have next : ∀ v : Int32, (k < nL N → v = i3 (fat N k)) → hw (FX2_fateOf_L18 45 y1 fu (i3 (k + 1)) (mx_up m'.1 65 k v, m'.2)) (fun m' => mx_out (fun b _ => b = 65) m m' ∧ FT m' N) := by
      intro v hv
      refine hs _ ⟨mx_out_up hI.1 rfl rfl, fun l hl hl2 => ?_⟩
      show mx_up m'.1 65 k v 65 l = _
      rw [up_at]
      by_cases c : l = k
      · rw [if_pos c, c]; exact hv (by omega)
      · rw [if_neg c]; exact hI.2 l (by omega) hl2
    show hw (Option.bind (FX4_fromOf 46 (i3 k) m') _) _
    by_cases c : k < nL N
    · have a1 := nA_lt g c
      have a2 := nB_lt g c
      rw [C_fromOf_y g hC1 c, ob_some]
      show hw (Option.bind (FX4_toOf 46 (i3 k) m') _) _
      rw [C_toOf_y g hC1 c, ob_some, C_tallyAt hP1 g a1 (by omega), ob_some]
      have ec : (bm N (2 ^ nP N - 1)).countP (fun M => decide (kd M (nA N k) = i3 (nB N k))) = lcn N k := by
        unfold lcn
        congr 1
        funext M
        exact kd_mt M _ (by omega)
      have hle : lcn N k ≤ (bm N (2 ^ nP N - 1)).length := List.countP_le_length
      rw [ec, hP1.1]
      by_cases c1 : lcn N k = 0
      · rw [if_pos (by rw [c1]; rfl), mx_inb_i3 (by omega) (by omega), mx_chkT, i3_toNat (by omega), mx_letI, mx_letI, i3_succ]
        exact next 0 (fun _ => by unfold fat; rw [if_pos c1]; rfl)
      · rw [if_neg (by show ¬ i3 (lcn N k) = i3 0; rw [i3_eq (by omega) (by omega)]; exact c1)]
        by_cases c2 : lcn N k < (bm N (2 ^ nP N - 1)).length
        · rw [if_neg (by rw [i3_le (by omega) (by omega)]; omega), mx_inb_i3 (by omega) (by omega), mx_chkT, i3_toNat (by omega), mx_letI, mx_letI, i3_succ]
          exact next 1 (fun _ => by unfold fat; rw [if_neg c1, if_pos c2]; rfl)
        · rw [if_pos (by rw [i3_le (by omega) (by omega)]; omega), mx_inb_i3 (by omega) (by omega), mx_chkT, i3_toNat (by omega), mx_letI, mx_letI, i3_succ]
          exact next 2 (fun _ => by unfold fat; rw [if_neg c1, if_neg c2]; rfl)
    · have hx : ∀ j, j < nL N → i3 k ≠ i3 j := fun j hj => by rw [Ne, i3_eq (by omega) (by omega)]; omega
      rw [C_fromOf_n g hC1 hx, ob_some]
      show hw (Option.bind (FX4_toOf 46 (i3 k) m') _) _
      rw [C_toOf_n g hC1 hx, ob_some]
      have et : FX2_tallyAt 45 (-1) (-1) m' = some 0 := rfl
      rw [et, ob_some, if_pos rfl, mx_inb_i3 (by omega) (by omega), mx_chkT, i3_toNat (by omega), mx_letI, mx_letI, i3_succ]
      exact next 0 (fun q => absurd q c)
theorem C_fateOf (g : GI N) (s : SI N) (h : HL m N) (hf : m.1 45 2 = 0 ∨ FT m N) {l : Nat} (hl : l < nL N) : ∃ m', FX2_fateOf 45 (i3 l) m = some (i3 (fat N l), m') ∧ HL m' N ∧ FT m' N := by
  have hL := g.2.1.2
  unfold FX2_fateOf
  rw [mx_letI]
  have fin : ∀ m2 : mB, FT m2 N → (if i3 l < 0 then some ((-1 : Int32), m2) else if 30 ≤ i3 l then some ((-1 : Int32), m2) else mx_chk (mx_inb (i3 l) 30) (some (m2.1 (45 + 20) (Int32.toNatClampNeg (i3 l)), m2))) = some (i3 (fat N l), m2) := by
    intro m2 h2
    rw [if_neg (i3_ge0 (by omega)), if_neg (by show ¬ i3 30 ≤ i3 l; rw [i3_le (by omega) (by omega)]; omega), mx_inb_i3 (by omega) (by omega), mx_chkT, i3_toNat (by omega)]
    show some (m2.1 65 l, m2) = _
    rw [h2 l hl]
  by_cases c : m.1 45 2 = 0
  · rw [if_pos c]
    obtain ⟨m1, e1, a1, a2, z1⟩ := C_wantNothing m
    rw [e1, ob_some]
    have h1 := HL_mv g h z1 (fun b j q => by omega)
    obtain ⟨m2, e2, P2, z2⟩ := C_countWanted (W := fun _ => -1) g s h1 a2
    rw [if_pos a1, wl_free] at e2
    rw [if_pos a1, wl_free] at P2
    rw [e2, ob_some]
    have h2 := HL_WT g h1 z2
    obtain ⟨m3, e3, z3', F3⟩ := C_fate_L18 g s h2.2.1 P2 (i3 l)
    dsimp only
    show ∃ m', Option.bind (FX2_fateOf_L18 45 (i3 l) mx_FU (i3 0) m2) _ = _ ∧ _
    rw [e3, ob_some, mx_letI]
    have z4 : mx_out (fun b j => b = 45 ∧ j = 2) m3 (mx_up m3.1 45 2 1, m3.2) := mx_out_up mx_out.rf rfl ⟨rfl, rfl⟩
    have F4 : FT (mx_up m3.1 45 2 1, m3.2) N := fun l hl => by
      rw [z4.cell 65 (fun j => by omega)]; exact F3 l hl
    exact ⟨_, fin _ F4, HL_mv g (HL_mv g h2 z3' (fun b j q => by omega)) z4 (fun b j q => by omega), F4⟩
  · rw [if_neg c]
    have F := hf.resolve_left c
    exact ⟨m, fin m F, h, F⟩
/-- the greatest of a row -/
def gx (c : Nat → Nat) : Nat → Nat
  | 0 => 0
  | k + 1 => max (gx c k) (c k)
theorem gx_le {c : Nat → Nat} {b : Nat} (h : ∀ k, c k ≤ b) : ∀ k, gx c k ≤ b
  | 0 => Nat.zero_le b
  | k + 1 => by
    show max (gx c k) (c k) ≤ b
    have h1 := gx_le h k
    have h2 := h k
    omega
/-- the first with the least, and it -/
def mtl (G : Nat → Nat) : Nat → Nat × Nat
  | 0 => (0, 0)
  | k + 1 => if k = 0 then (0, G 0) else if G k < (mtl G k).2 then (k, G k) else mtl G k
theorem mtl_b {G : Nat → Nat} {b : Nat} (h : ∀ k, G k ≤ b) : ∀ k, (mtl G k).1 ≤ k ∧ (mtl G k).2 ≤ b
  | 0 => ⟨Nat.le_refl 0, Nat.zero_le b⟩
  | k + 1 => by
    have h1 := mtl_b h k
    have h2 := h k
    have h3 := h 0
    unfold mtl
    by_cases c : k = 0
    · rw [if_pos c]; exact ⟨by dsimp only; omega, h3⟩
    · rw [if_neg c]
      by_cases c2 : G k < (mtl G k).2
      · rw [if_pos c2]; exact ⟨by dsimp only; omega, h2⟩
      · rw [if_neg c2]; exact ⟨by omega, h1.2⟩
def ct (L : List (List (Nat × Nat))) (x k : Nat) : Nat := L.countP (fun M => decide (kd M x = i3 k))
theorem ct_le (L : List (List (Nat × Nat))) (x k : Nat) : ct L x k ≤ L.length := List.countP_le_length
theorem C_most_L23 {L : List (List (Nat × Nat))} (hP : PT N L m) (g : GI N) (hL : L.length ≤ 9496) (y1 y2 : Int32) {x : Nat} (hx : x < nP N) : FX2_mostTelling_L23 45 y1 y2 (i3 x) m mx_FU (i3 0) (i3 0) = some (i3 (gx (ct L x) 11)) := by
  have hb := gx_le (c := ct L x) (b := 9496) (fun k => Nat.le_trans (ct_le L x k) hL)
  refine hw_eq.mp (lp_inv (S := Int32) (L := fun fu y t => FX2_mostTelling_L23 45 y1 y2 (i3 x) m fu t y) (n := 11) (fun k t => t = i3 (gx (ct L x) k)) ?_ ?_ 0 mx_FU (i3 0) (by omega) (FU_lt (by omega)) rfl)
  · intro fu t ht
    show hw (FX2_mostTelling_L23 45 y1 y2 (i3 x) m (fu + 1) t (i3 11)) _
    rw [FX2_mostTelling_L23, if_pos (show (11 : Int32) ≤ i3 11 by decide)]
    exact hw_some ht
  · intro fu k t hk ht hs
    show hw (FX2_mostTelling_L23 45 y1 y2 (i3 x) m (fu + 1) t (i3 k)) _
    rw [FX2_mostTelling_L23, if_neg (by show ¬ i3 11 ≤ i3 k; rw [i3_le (by omega) (by omega)]; omega), C_tallyAt hP g hx hk, ob_some, ht]
    unfold FJ9_max_7cf53
    have hbk := hb k
    have hck := Nat.le_trans (ct_le L x k) hL
    show hw (Option.bind (if i3 (gx (ct L x) k) < i3 (ct L x k) then some (i3 (ct L x k)) else some (i3 (gx (ct L x) k))) _) _
    by_cases c : gx (ct L x) k < ct L x k
    · rw [if_pos (by rw [i3_lt (by omega) (by omega)]; exact c), ob_some, mx_letI, i3_succ]
      refine hs _ ?_
      show i3 (ct L x k) = i3 (max (gx (ct L x) k) (ct L x k))
      rw [Nat.max_eq_right (by omega)]
    · rw [if_neg (by rw [i3_lt (by omega) (by omega)]; exact c), ob_some, mx_letI, i3_succ]
      refine hs _ ?_
      show i3 (gx (ct L x) k) = i3 (max (gx (ct L x) k) (ct L x k))
      rw [Nat.max_eq_left (by omega)]
theorem C_mostTelling {L : List (List (Nat × Nat))} (hP : PT N L m) (g : GI N) (hC : CG m 46 N) (hL : L.length ≤ 9496) (h0 : 0 < nP N) : FX2_mostTelling 45 m = some (i3 (mtl (fun x => gx (ct L x) 11) (nP N)).1) := by
  have n10 := g.1.2
  have hb := mtl_b (G := fun x => gx (ct L x) 11) (b := 9496) (fun x => gx_le (fun k => Nat.le_trans (ct_le L x k) hL) 11)
  have hg : ∀ x, gx (ct L x) 11 ≤ 9496 := fun x => gx_le (fun k => Nat.le_trans (ct_le L x k) hL) 11
  have key : hw (FX2_mostTelling_L6 45 m mx_FU (-1) 0 (i3 0)) (fun r => r = i3 (mtl (fun x => gx (ct L x) 11) (nP N)).1) := by
    refine lp_inv (S := Int32 × Int32) (L := fun fu y t => FX2_mostTelling_L6 45 m fu t.1 t.2 y) (n := nP N) (fun k t => (k = 0 ∧ t = (-1, 0)) ∨ (0 < k ∧ t = (i3 (mtl (fun x => gx (ct L x) 11) k).1, i3 (mtl (fun x => gx (ct L x) 11) k).2))) ?_ ?_ 0 mx_FU (-1, 0) (by omega) (FU_lt (by omega)) (Or.inl ⟨rfl, rfl⟩)
    · intro fu t ht
      show hw (FX2_mostTelling_L6 45 m (fu + 1) t.1 t.2 (i3 (nP N))) _
      rw [FX2_mostTelling_L6]
      unfold FX4_points
      rw [ob_some]
      show hw (if m.1 46 0 ≤ i3 (nP N) then _ else _) _
      rw [C0 g hC, if_pos (by rw [i3_le (by omega) (by omega)]; omega)]
      rcases ht with ⟨e, -⟩ | ⟨-, e⟩
      · omega
      · rw [e]; exact hw_some rfl
    · intro fu k t hk ht hs
      show hw (FX2_mostTelling_L6 45 m (fu + 1) t.1 t.2 (i3 k)) _
      rw [FX2_mostTelling_L6]
      unfold FX4_points
      rw [ob_some]
      show hw (if m.1 46 0 ≤ i3 k then _ else _) _
      rw [C0 g hC, if_neg (by rw [i3_le (by omega) (by omega)]; omega)]
      show hw (Option.bind (FX2_mostTelling_L23 45 t.1 t.2 (i3 k) m mx_FU (i3 0) (i3 0)) _) _
      rw [C_most_L23 hP g hL _ _ hk, ob_some]
      have h1 := hb k
      have h2 := hg k
      rcases ht with ⟨e, e2⟩ | ⟨e, e2⟩
      · rw [e2]
        dsimp only
        rw [if_pos rfl, mx_letI, i3_succ]
        refine hs (i3 k, i3 (gx (ct L k) 11)) (Or.inr ⟨by omega, ?_⟩)
        unfold mtl
        rw [if_pos e, e]
      · rw [e2]
        dsimp only
        rw [if_neg (fun q => (i3_ne1 (a := (mtl (fun x => gx (ct L x) 11) k).1) (by omega)).mp q)]
        by_cases c : gx (ct L k) 11 < (mtl (fun x => gx (ct L x) 11) k).2
        · rw [if_neg (by rw [i3_le (by omega) (by omega)]; omega), mx_letI, i3_succ]
          refine hs (i3 k, i3 (gx (ct L k) 11)) (Or.inr ⟨by omega, ?_⟩)
          rw [mtl, if_neg (by omega), if_pos c]
        · rw [if_pos (by rw [i3_le (by omega) (by omega)]; omega), mx_letI, i3_succ]
          refine hs (i3 (mtl (fun x => gx (ct L x) 11) k).1, i3 (mtl (fun x => gx (ct L x) 11) k).2) (Or.inr ⟨by omega, ?_⟩)
          rw [mtl, if_neg (by omega), if_neg c]
  unfold FX2_mostTelling
  show Option.bind (FX2_mostTelling_L6 45 m mx_FU (-1) 0 (i3 0)) _ = _
  rw [hw_eq.mp key]
  rfl
end WANTD
