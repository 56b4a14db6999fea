/-! ===== the class goes through the best pairings that are as wanted ===== -/
section WANTC
variable {N : Rw} {W : Nat → Int32} {m : mB}
def WT : Nat → Nat → Prop := fun b j => (b = 45 ∧ j = 15) ∨ b = 63 ∨ b = 64
/-- what is tallied of these pairings -/
def PT (N : Rw) (done : List (List (Nat × Nat))) (m : mB) : Prop := m.1 45 15 = i3 done.length ∧ ∀ x, x < nP N → ∀ k, k < 11 → m.1 64 (x * 11 + k) = i3 (done.countP (fun M => decide (kd M x = i3 k)))
theorem mt_lt {M : List (Nat × Nat)} (hM : ∀ y ∈ M, y.1 < 10 ∧ y.2 < 10) (x : Nat) : mt M x = -1 ∨ ∃ k, k < 10 ∧ mt M x = i3 k := by
  induction M with
  | nil => exact Or.inl rfl
  | cons a M ih =>
    obtain ⟨a, b⟩ := a
    have h1 := hM (a, b) List.mem_cons_self
    rw [mt_cons]
    by_cases c1 : x = a
    · rw [if_pos c1]; exact Or.inr ⟨b, h1.2, rfl⟩
    · rw [if_neg c1]
      by_cases c2 : x = b
      · rw [if_pos c2]; exact Or.inr ⟨a, h1.1, rfl⟩
      · rw [if_neg c2]
        exact ih (fun y hy => hM y (List.mem_cons_of_mem _ hy))
theorem kd_lt {M : List (Nat × Nat)} (hM : ∀ y ∈ M, y.1 < 10 ∧ y.2 < 10) (x : Nat) : ∃ k, k < 11 ∧ kd M x = i3 k := by
  unfold kd
  rcases mt_lt hM x with e | ⟨k, hk, e⟩
  · exact ⟨10, by omega, if_pos e⟩
  · exact ⟨k, by omega, by rw [e, if_neg (fun q => (i3_ne1 (a := k) (by omega)).mp q)]⟩
theorem C_tally (g : GI N) (hC : CG m 46 N) {done : List (List (Nat × Nat))} {M : List (Nat × Nat)} (hP : PT N done m) (hm : ∀ x, x < nP N → m.1 63 x = kd M x) (hM : ∀ y ∈ M, y.1 < 10 ∧ y.2 < 10) :
    hw (FX2_tallyChosen 45 m) (fun m' => PT N (done ++ [M]) m' ∧ mx_out WT m m' ∧ m'.1 63 = m.1 63) := by
  have n10 := g.1.2
  have z1 : mx_out (fun b j => b = 45 ∧ j = 15) m (mx_up m.1 45 15 (m.1 45 15 + 1), m.2) := mx_out_up mx_out.rf rfl ⟨rfl, rfl⟩
  have key : hw (FX2_tallyChosen_L12 45 mx_FU (i3 0) (mx_up m.1 45 15 (m.1 45 15 + 1), m.2)) (fun m' => mx_out (fun b _ => b = 64) (mx_up m.1 45 15 (m.1 45 15 + 1), m.2) m' ∧ ∀ x, x < nP N → ∀ j, j < 11 → m'.1 64 (x * 11 + j) = i3 ((done ++ [M]).countP (fun M => decide (kd M x = i3 j)))) := by
    refine lp_inv (L := fun fu y m => FX2_tallyChosen_L12 45 fu y m) (n := nP N) (fun k m' => mx_out (fun b _ => b = 64) (mx_up m.1 45 15 (m.1 45 15 + 1), m.2) m' ∧ ∀ x, x < nP N → ∀ j, j < 11 → m'.1 64 (x * 11 + j) = i3 (if x < k then (done ++ [M]).countP (fun M => decide (kd M x = i3 j)) else done.countP (fun M => decide (kd M x = i3 j)))) ?_ ?_ 0 mx_FU _ (by omega) (FU_lt (by omega)) ⟨mx_out.rf, fun x hx j hj => ?_⟩
    · intro fu m' hI
      show hw (FX2_tallyChosen_L12 45 (fu + 1) (i3 (nP N)) m') _
      rw [FX2_tallyChosen_L12]
      unfold FX4_points
      rw [ob_some]
      show hw (if m'.1 46 0 ≤ i3 (nP N) then _ else _) _
      rw [hI.1.fld 46 0 (by omega), z1.fld 46 0 (by omega), C0 g hC, if_pos (by rw [i3_le (by omega) (by omega)]; omega)]
      refine hw_some ⟨hI.1, fun x hx j hj => ?_⟩
      rw [hI.2 x hx j hj, if_pos hx]
    · intro fu k m' hk hI hs
      show hw (FX2_tallyChosen_L12 45 (fu + 1) (i3 k) m') _
      rw [FX2_tallyChosen_L12]
      unfold FX4_points
      rw [ob_some]
      show hw (if m'.1 46 0 ≤ i3 k then _ else _) _
      rw [hI.1.fld 46 0 (by omega), z1.fld 46 0 (by omega), C0 g hC, if_neg (by rw [i3_le (by omega) (by omega)]; omega), if_neg (by show ¬ i3 10 ≤ i3 k; rw [i3_le (by omega) (by omega)]; omega), mx_inb_i3 (by omega) (by omega), mx_chkT, i3_toNat (by omega), mx_letI]
      obtain ⟨kk, hkk, ek⟩ := kd_lt hM k
      have e63 : m'.1 (45 + 18) k = i3 kk := by
        show m'.1 63 k = _
        rw [hI.1.cell 63 (fun j => by omega), z1.cell 63 (fun j => by omega), hm k hk, ek]
      rw [e63, if_neg (i3_ge0 (by omega)), if_neg (by show ¬ i3 11 ≤ i3 kk; rw [i3_le (by omega) (by omega)]; omega)]
      show hw (mx_chk (mx_inb (i3 k * i3 11 + i3 kk) 110) (mx_let (mx_up m'.1 64 (Int32.toNatClampNeg (i3 k * i3 11 + i3 kk)) (m'.1 64 (Int32.toNatClampNeg (i3 k * i3 11 + i3 kk)) + 1), m'.2) _)) _
      rw [i3_mul, i3_add, mx_inb_i3 (by omega) (by omega), mx_chkT, i3_toNat (by omega), mx_letI, mx_letI, i3_succ]
      refine hs _ ⟨mx_out_up hI.1 rfl rfl, fun x hx j hj => ?_⟩
      show mx_up m'.1 64 (k * 11 + kk) (m'.1 64 (k * 11 + kk) + 1) 64 (x * 11 + j) = _
      rw [up_at]
      by_cases c : x = k
      · subst c
        rw [if_pos (show x < x + 1 by omega), List.countP_append]
        by_cases c2 : j = kk
        · subst c2
          rw [if_pos rfl, hI.2 x hx j hj, if_neg (by omega), i3_succ]
          congr 1
          simp [ek]
        · have hne : ¬ kd M x = i3 j := by rw [ek, i3_eq (by omega) (by omega)]; omega
          rw [if_neg (by omega), hI.2 x hx j hj, if_neg (by omega)]
          congr 1
          simp [hne]
      · rw [if_neg (by omega), hI.2 x hx j hj]
        by_cases c3 : x < k
        · rw [if_pos c3, if_pos (by omega)]
        · rw [if_neg c3, if_neg (by omega)]
    · rw [if_neg (by omega), z1.fld 64 _ (by omega)]
      exact hP.2 x hx j hj
  obtain ⟨m2, e2, z2, A2⟩ := key
  refine ⟨m2, ?_, ⟨?_, A2⟩, mx_out.tr (z1.sub (fun b j q => Or.inl q)) (z2.sub (fun b j q => Or.inr (Or.inr q))), by rw [z2.cell 63 (fun j => by omega), z1.cell 63 (fun j => by omega)]⟩
  · unfold FX2_tallyChosen
    rw [mx_letI]
    show Option.bind (FX2_tallyChosen_L12 45 mx_FU (i3 0) (mx_up m.1 45 15 (m.1 45 15 + 1), m.2)) _ = _
    rw [e2]
    rfl
  · rw [z2.fld 45 15 (by omega)]
    show mx_up m.1 45 15 (m.1 45 15 + 1) 45 15 = _
    rw [mx_up_self, hP.1, i3_succ]
    congr 1
    simp
theorem C_mayBe {a : Nat} (ha : a < 10) (hW : m.1 62 a = W a) (v : Int32) : FX2_mayBe 45 (i3 a) v m = some (b2 (my W a v)) := by
  unfold FX2_mayBe my
  rw [if_neg (i3_ge0 (by omega)), if_neg (by show ¬ i3 10 ≤ i3 a; rw [i3_le (by omega) (by omega)]; omega), mx_inb_i3 ha (by omega), mx_chkT, i3_toNat (by omega)]
  show (if m.1 62 a = -1 then _ else if m.1 62 a = v then _ else _) = _
  rw [hW]
  by_cases c1 : W a = -1
  · rw [if_pos c1, decide_eq_true c1]; rfl
  · rw [if_neg c1, decide_eq_false c1]
    by_cases c2 : W a = v
    · rw [if_pos c2, decide_eq_true c2]; rfl
    · rw [if_neg c2, decide_eq_false c2]; rfl
theorem kd_app {pre : List (Nat × Nat)} {k q : Nat} (hk : k < 10) (hq : q < 10) (hqk : q ≠ k) (hy : ∀ y ∈ pre, y.1 < 10 ∧ y.2 < 10) (h1 : mt pre k = -1) (h2 : mt pre q = -1) (x : Nat) : mt (pre ++ [(k, q)]) x = (if x = q then i3 k else if x = k then i3 q else mt pre x) ∧ kd (pre ++ [(k, q)]) x = if x = q then i3 k else if x = k then i3 q else kd pre x := by
  have hA : ∀ y ∈ pre, y.1 < 2147483648 ∧ y.2 < 2147483648 := fun y h => by have := hy y h; omega
  have e : mt (pre ++ [(k, q)]) x = if x = q then i3 k else if x = k then i3 q else mt pre x := by
    rw [mt_app _ _ _ _ hA]
    by_cases c1 : x = q
    · rw [c1, h2, if_pos rfl, if_neg hqk, if_pos rfl, if_pos rfl]
    · by_cases c3 : x = k
      · rw [c3, h1, if_pos rfl, if_pos rfl, if_neg (fun e => hqk e.symm), if_pos rfl]
      · rw [if_neg c1, if_neg c3, if_neg c1, if_neg c3]
        by_cases c4 : mt pre x = -1
        · rw [if_pos c4, c4]
        · rw [if_neg c4]
  refine ⟨e, ?_⟩
  unfold kd
  rw [e]
  by_cases c1 : x = q
  · rw [if_pos c1, if_pos c1, if_neg (fun e => (i3_ne1 (a := k) (by omega)).mp e)]
  · rw [if_neg c1, if_neg c1]
    by_cases c3 : x = k
    · rw [if_pos c3, if_pos c3, if_neg (fun e => (i3_ne1 (a := q) (by omega)).mp e)]
    · rw [if_neg c3, if_neg c3]
theorem HL_WT (g : GI N) {m1 : mB} (h : HL m N) (z : mx_out WT m m1) : HL m1 N := HL_mv g h z (fun b j q => by unfold WT at q; omega)
theorem C_walkBest (g : GI N) (s : SI N) : ∀ (D : Nat) {f depth : Nat} {pre : List (Nat × Nat)} {done : List (List (Nat × Nat))} {m : mB}, pc f < D → depth + pc f ≤ 10 → HL m N → kn m N f → (∀ x, x < nP N → f.testBit x = false → m.1 63 x = kd pre x) → (∀ y ∈ pre, y.1 < 10 ∧ y.2 < 10) → (∀ x, f.testBit x = true → mt pre x = -1) → (∀ x, x < 10 → m.1 62 x = W x) → PT N done m →
    hw (FX2_walkBest D 45 (i3 f) (i3 depth) m) (fun m' => PT N (done ++ (wl N W f).map (fun M => pre ++ M)) m' ∧ (∀ x, f.testBit x = false → m'.1 63 x = m.1 63 x) ∧ mx_out WT m m') := by
  have n10 := g.1.2
  intro D
  induction D with
  | zero => intro f depth pre done m hD; omega
  | succ D ih =>
    intro f depth pre done m hD hdep hH hk hch hy hpr hW hP
    have h10 := pow10 n10 hk.1
    rw [FX2_walkBest]
    unfold FX2_walkBest_B
    by_cases h0 : f = 0
    · subst h0
      rw [if_pos (show i3 0 = 0 from rfl)]
      obtain ⟨m1, e1, P1, z1, d1⟩ := C_tally g hH.2.1 (M := pre) hP (fun x hx => hch x hx (Nat.zero_testBit x)) hy
      rw [e1, ob_some]
      refine hw_some ⟨?_, fun x _ => by rw [d1], z1⟩
      rw [wl_0]
      simpa using P1
    · have hne : ¬ i3 f = 0 := by show ¬ i3 f = i3 0; rw [i3_eq (by omega) (by omega)]; exact h0
      obtain ⟨l1, l2⟩ := lst_ok f h10 h0
      have lp := bit_lt hk.1 l2
      have c2 := clr_1024 f h10 _ l1
      have p1 := pc_clr f h10 _ l1 l2
      rw [if_neg hne, if_pos (by show i3 depth < i3 10; rw [i3_lt (by omega) (by omega)]; omega), FX2_least h10 h0, ob_some]
      show hw (mx_let (i3 f &&& (pw (lst f) ^^^ (-1))) _) _
      rw [clr_i3 h10 l1, mx_letI]
      show hw (Option.bind (FX4_nearTo 46 (i3 (lst f)) m) _) _
      rw [C_nearTo_y g hH.2.1 lp, ob_some, mx_letI, mx_letI, i3_succ]
      have key : hw (FX2_walkBest_L48 (FX2_walkBest D) 45 (i3 f) (i3 depth) (i3 (lst f)) (i3 (clr f (lst f))) (m.1 (46 + 2) (lst f) &&& i3 (clr f (lst f))) mx_FU (i3 (lst f + 1)) m) (fun m' => PT N (done ++ (qf N f 10).flatMap (fun q => (wq N W f q).map (fun M => pre ++ M))) m' ∧ (∀ x, f.testBit x = false → m'.1 63 x = m.1 63 x) ∧ mx_out WT m m') := by
        refine lp_inv (L := fun fu y m' => FX2_walkBest_L48 (FX2_walkBest D) 45 (i3 f) (i3 depth) (i3 (lst f)) (i3 (clr f (lst f))) (m.1 (46 + 2) (lst f) &&& i3 (clr f (lst f))) fu y m') (n := 10) (fun k m' => lst f < k ∧ PT N (done ++ (qf N f k).flatMap (fun q => (wq N W f q).map (fun M => pre ++ M))) m' ∧ (∀ x, f.testBit x = false → m'.1 63 x = m.1 63 x) ∧ mx_out WT m m') ?_ ?_ (lst f + 1) mx_FU m (by omega) (FU_lt (by omega)) ⟨by omega, by rw [qf_0 N h10]; simpa using hP, fun x _ => rfl, mx_out.rf⟩
        · intro fu m' hI
          show hw (FX2_walkBest_L48 (FX2_walkBest D) 45 (i3 f) (i3 depth) (i3 (lst f)) (i3 (clr f (lst f))) (m.1 (46 + 2) (lst f) &&& i3 (clr f (lst f))) (fu + 1) (i3 10) m') _
          rw [FX2_walkBest_L48]
          exact hw_some hI.2
        · intro fu k m' hk10 hI hs
          show hw (FX2_walkBest_L48 (FX2_walkBest D) 45 (i3 f) (i3 depth) (i3 (lst f)) (i3 (clr f (lst f))) (m.1 (46 + 2) (lst f) &&& i3 (clr f (lst f))) (fu + 1) (i3 k) m') _
          obtain ⟨hlk, P1, d1, z1⟩ := hI
          rw [FX2_walkBest_L48, if_neg (by show ¬ i3 10 ≤ i3 k; rw [i3_le (by omega) (by omega)]; omega)]
          have ebt := bt_sh (m.1 (46 + 2) (lst f) &&& i3 (clr f (lst f))) (k := k) (by omega)
          rw [near_bit g hH hk h0 c2 (by omega)] at ebt
          have hH1 := HL_WT g hH z1
          have hk1 : kn m' N f := kn_mv (z1.cell 57 (fun j => by unfold WT; omega)) hk
          have hW1 : ∀ x, x < 10 → m'.1 62 x = W x := fun x hx => by rw [z1.cell 62 (fun j => by unfold WT; omega)]; exact hW x hx
          by_cases c : ((clr f (lst f)).testBit k && lk N (lst f) k) = true
          · rw [if_neg (fun q => by rw [ebt.mp q] at c; cases c)]
            have hqs := qf_succ N f k
            rw [if_pos c] at hqs
            rw [Bool.and_eq_true] at c
            have hno : wq N W f k = [] → hw (FX2_walkBest_L48 (FX2_walkBest D) 45 (i3 f) (i3 depth) (i3 (lst f)) (i3 (clr f (lst f))) (m.1 (46 + 2) (lst f) &&& i3 (clr f (lst f))) fu (i3 (k + 1)) m') (fun m' => PT N (done ++ (qf N f 10).flatMap (fun q => (wq N W f q).map (fun M => pre ++ M))) m' ∧ (∀ x, f.testBit x = false → m'.1 63 x = m.1 63 x) ∧ mx_out WT m m') := fun e => hs m' ⟨by omega, by
              rw [hqs, List.flatMap_append]
              simp only [List.flatMap_cons, List.flatMap_nil, e, List.map_nil, List.append_nil]
              exact P1, d1, z1⟩
            rw [C_mayBe (W := W) l1 (hW1 _ l1), ob_some]
            cases e1 : my W (lst f) (i3 k) with
            | false =>
              rw [if_pos (show b2 false = 0 from rfl), mx_letI, i3_succ]
              exact hno (by unfold wq; rw [e1]; rfl)
            | true =>
              rw [if_neg (show ¬ b2 true = 0 by decide), C_mayBe (W := W) hk10 (hW1 _ hk10), ob_some]
              cases e2 : my W k (i3 (lst f)) with
              | false =>
                rw [if_pos (show b2 false = 0 from rfl), mx_letI, i3_succ]
                exact hno (by unfold wq; rw [e2, Bool.and_false]; rfl)
              | true =>
                rw [if_neg (show ¬ b2 true = 0 by decide), C_keeps g s hH1 hk1 h0 hk10 c.1 c.2, ob_some]
                by_cases c5 : Wt N (lst f) k + mxt N (clr (clr f (lst f)) k) = mxt N f
                · rw [decide_eq_true c5, if_neg (show ¬ b2 true = 0 by decide), C_choose l1 hk10, ob_some]
                  have hkl : k ≠ lst f := by omega
                  have hbk : f.testBit k = true := by
                    have := c.1
                    rw [clr_bit, Bool.and_eq_true] at this
                    exact this.1
                  have z2 : mx_out WT m' (mx_up (mx_up m'.1 63 (lst f) (i3 k)) 63 k (i3 (lst f)), m'.2) := mx_out_up (mx_out_up mx_out.rf rfl (Or.inr (Or.inl rfl))) rfl (Or.inr (Or.inl rfl))
                  have kp := kn_pair g hH1 hk1 h0 hk10 c.1 c.2
                  have p2 := pc_clr _ c2 k hk10 c.1
                  have hbits : ∀ x, (clr (clr f (lst f)) k).testBit x = (f.testBit x && !decide (x = lst f) && !decide (x = k)) := fun x => by rw [clr_bit, clr_bit]
                  have hap := kd_app (pre := pre) (k := lst f) (q := k) l1 hk10 hkl hy (hpr _ l2) (hpr _ hbk)
                  have R := ih (f := clr (clr f (lst f)) k) (depth := depth + 1) (pre := pre ++ [(lst f, k)]) (done := done ++ (qf N f k).flatMap (fun q => (wq N W f q).map (fun M => pre ++ M))) (m := (mx_up (mx_up m'.1 63 (lst f) (i3 k)) 63 k (i3 (lst f)), m'.2)) (by omega) (by omega) (HL_WT g hH1 z2) (kn_mv (z2.cell 57 (fun j => by unfold WT; omega)) kp) (fun x hx hbx => by
                    show mx_up (mx_up m'.1 63 (lst f) (i3 k)) 63 k (i3 (lst f)) 63 x = _
                    rw [up_at, up_at, (hap x).2]
                    by_cases q1 : x = k
                    · rw [if_pos q1, if_pos q1]
                    · rw [if_neg q1, if_neg q1]
                      by_cases q2 : x = lst f
                      · rw [if_pos q2, if_pos q2]
                      · rw [if_neg q2, if_neg q2]
                        have hbf : f.testBit x = false := by
                          rw [hbits] at hbx
                          simpa [q1, q2] using hbx
                        rw [d1 x hbf]
                        exact hch x hx hbf) (fun y hy1 => by
                    rw [List.mem_append, List.mem_singleton] at hy1
                    rcases hy1 with w | w
                    · exact hy y w
                    · rw [w]; exact ⟨l1, hk10⟩) (fun x hbx => by
                    rw [hbits, Bool.and_eq_true, Bool.and_eq_true] at hbx
                    rw [(hap x).1, if_neg (by simpa using hbx.2), if_neg (by simpa using hbx.1.2)]
                    exact hpr x hbx.1.1) (fun x hx => by rw [z2.cell 62 (fun j => by unfold WT; omega)]; exact hW1 x hx) ⟨by
                    show mx_up (mx_up m'.1 63 (lst f) (i3 k)) 63 k (i3 (lst f)) 45 15 = _
                    rw [up_off _ (by omega), up_off _ (by omega)]; exact P1.1, fun x hx j hj => by
                    show mx_up (mx_up m'.1 63 (lst f) (i3 k)) 63 k (i3 (lst f)) 64 _ = _
                    rw [up_off _ (by omega), up_off _ (by omega)]; exact P1.2 x hx j hj⟩
                  obtain ⟨m3, e3, P3, d3, z3'⟩ := R
                  show hw (Option.bind (FX2_walkBest D 45 (i3 (clr f (lst f)) &&& (pw k ^^^ (-1))) (i3 depth + 1) (mx_up (mx_up m'.1 63 (lst f) (i3 k)) 63 k (i3 (lst f)), m'.2)) _) _
                  rw [clr_i3 c2 hk10, i3_succ, e3, ob_some, mx_letI, i3_succ]
                  refine hs m3 ⟨by omega, ?_, fun x hbx => ?_, mx_out.tr z1 (mx_out.tr z2 z3')⟩
                  · have ew : (wq N W f k).map (fun M => pre ++ M) = (wl N W (clr (clr f (lst f)) k)).map (fun M => (pre ++ [(lst f, k)]) ++ M) := by
                      unfold wq
                      rw [e1, e2, decide_eq_true c5, if_pos (by rfl), List.map_map]
                      congr 1
                      funext M
                      simp
                    rw [hqs, List.flatMap_append, ← List.append_assoc]
                    simp only [List.flatMap_cons, List.flatMap_nil, List.append_nil]
                    rw [ew]
                    exact P3
                  · rw [d3 x (by rw [hbits, hbx]; rfl)]
                    show mx_up (mx_up m'.1 63 (lst f) (i3 k)) 63 k (i3 (lst f)) 63 x = _
                    rw [up_at, up_at, if_neg (fun e => by rw [e, hbk] at hbx; cases hbx), if_neg (fun e => by rw [e, l2] at hbx; cases hbx)]
                    exact d1 x hbx
                · rw [decide_eq_false c5, if_pos (show b2 false = 0 from rfl), mx_letI, i3_succ]
                  exact hno (by unfold wq; rw [decide_eq_false c5, Bool.and_false]; rfl)
          · have c' : ((clr f (lst f)).testBit k && lk N (lst f) k) = false := by revert c; cases ((clr f (lst f)).testBit k && lk N (lst f) k) <;> simp
            rw [if_pos (ebt.mpr c'), mx_letI, i3_succ]
            refine hs m' ⟨by omega, ?_, d1, z1⟩
            rw [qf_succ, if_neg c, List.append_nil]
            exact P1
      obtain ⟨m1, e1, P1, d1, z1⟩ := key
      rw [e1, ob_some]
      have hH1 := HL_WT g hH z1
      have hk1 : kn m1 N f := kn_mv (z1.cell 57 (fun j => by unfold WT; omega)) hk
      have hW1 : ∀ x, x < 10 → m1.1 62 x = W x := fun x hx => by rw [z1.cell 62 (fun j => by unfold WT; omega)]; exact hW x hx
      have kl := kn_lone g hH1 hk1 h0
      have ewl := wl_eq (W := W) g s h10 h0
      have efl : ∀ l : List Nat, (l.flatMap (wq N W f)).map (fun M => pre ++ M) = l.flatMap (fun q => (wq N W f q).map (fun M => pre ++ M)) := map_flatMap' _ _
      have hno : (my W (lst f) (i3 10) && decide (mxt N (clr f (lst f)) = mxt N f)) = false → PT N (done ++ (wl N W f).map (fun M => pre ++ M)) m1 := by
        intro q
        rw [ewl, q, if_neg (by decide), List.append_nil, efl]
        exact P1
      show hw (Option.bind (FX2_mayBe 45 (i3 (lst f)) (i3 10) m1) _) _
      rw [C_mayBe (W := W) l1 (hW1 _ l1), ob_some]
      cases e2 : my W (lst f) (i3 10) with
      | false =>
        rw [if_pos (show b2 false = 0 from rfl)]
        exact hw_some ⟨hno (by rw [e2]; rfl), d1, z1⟩
      | true =>
        have b1 := mxt_b g s h10
        have b3 := mxt_b g s c2
        rw [if_neg (show ¬ b2 true = 0 by decide), C_mxt g s hH1 kl.1 kl.2, ob_some, C_mxt g s hH1 hk1.1 hk1.2, ob_some]
        by_cases c5 : mxt N (clr f (lst f)) = mxt N f
        · rw [if_pos (by rw [c5]), mx_inb_i3 (by omega) (by omega), mx_chkT, i3_toNat (by omega), mx_letI, i3_succ]
          have z2 : mx_out WT m1 (mx_up m1.1 63 (lst f) (i3 10), m1.2) := mx_out_up mx_out.rf rfl (Or.inr (Or.inl rfl))
          have R := ih (f := clr f (lst f)) (depth := depth + 1) (pre := pre) (done := done ++ (qf N f 10).flatMap (fun q => (wq N W f q).map (fun M => pre ++ M))) (m := (mx_up m1.1 63 (lst f) (i3 10), m1.2)) (by omega) (by omega) (HL_WT g hH1 z2) (kn_mv (z2.cell 57 (fun j => by unfold WT; omega)) kl) (fun x hx hbx => by
            show mx_up m1.1 63 (lst f) (i3 10) 63 x = _
            rw [up_at]
            by_cases q2 : x = lst f
            · rw [if_pos q2, q2]
              unfold kd
              rw [if_pos (hpr _ l2)]
            · rw [if_neg q2]
              have hbf : f.testBit x = false := by
                rw [clr_bit] at hbx
                simpa [q2] using hbx
              rw [d1 x hbf]
              exact hch x hx hbf) hy (fun x hbx => by
            rw [clr_bit, Bool.and_eq_true] at hbx
            exact hpr x hbx.1) (fun x hx => by rw [z2.cell 62 (fun j => by unfold WT; omega)]; exact hW1 x hx) ⟨by
            show mx_up m1.1 63 (lst f) (i3 10) 45 15 = _
            rw [up_off _ (by omega)]; exact P1.1, fun x hx j hj => by
            show mx_up m1.1 63 (lst f) (i3 10) 64 _ = _
            rw [up_off _ (by omega)]; exact P1.2 x hx j hj⟩
          obtain ⟨m3, e3, P3, d3, z3'⟩ := R
          show hw (Option.bind (FX2_walkBest D 45 (i3 (clr f (lst f))) (i3 (depth + 1)) (mx_up m1.1 63 (lst f) (i3 10), m1.2)) _) _
          rw [e3, ob_some]
          refine hw_some ⟨?_, fun x hbx => ?_, mx_out.tr z1 (mx_out.tr z2 z3')⟩
          · rw [ewl, e2, decide_eq_true c5, if_pos (by rfl), List.map_append, ← List.append_assoc, efl]
            exact P3
          · rw [d3 x (by rw [clr_bit, hbx]; rfl)]
            show mx_up m1.1 63 (lst f) (i3 10) 63 x = _
            rw [up_at, if_neg (fun e => by rw [e, l2] at hbx; cases hbx)]
            exact d1 x hbx
        · rw [if_neg (by rw [i3_eq (by omega) (by omega)]; exact c5)]
          exact hw_some ⟨hno (by rw [decide_eq_false c5, Bool.and_false]), d1, z1⟩
end WANTC
