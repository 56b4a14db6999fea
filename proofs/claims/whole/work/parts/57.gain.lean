/-! ===== gain ===== -/
section GAIN
variable {c d : mB} {p0 : Nat} {N : Rw}
/-- the greatest gain -/
def isMax (N : Rw) (G : Int) : Prop := 0 ≤ G ∧ G ≤ 1089 ∧ (∀ x, MC N x → x ≤ G) ∧ (G = 0 ∨ MC N G)
theorem isMax_uniq {G G' : Int} (h : isMax N G) (h' : isMax N G') : G = G' := by
  obtain ⟨h1, -, h2, h3⟩ := h
  obtain ⟨h1', -, h2', h3'⟩ := h'
  have a1 : G ≤ G' := by
    rcases h3 with rfl | h3
    · exact h1'
    · exact h2' G h3
  have a2 : G' ≤ G := by
    rcases h3' with rfl | h3'
    · exact h1
    · exact h2 G' h3'
  omega
theorem M_gain_L24 (g : GI N) (s : SI N) {p : Nat} (hp : p < nP N) {m : mB} {G : Int} (hN : m.1 224 = N) (hG : m.1 222 49 = z3 G) (hGB : GB N G) : hw (FX12_gain_L24 222 (i3 p) mx_FU (i3 0) m) (fun m' => mx_out GW m m' ∧ ∃ G', m'.1 222 49 = z3 G' ∧ GB N G' ∧ G ≤ G' ∧ (G' = G ∨ MC N G') ∧ ∀ q, q < nP N → ∀ f, allx N f [q, p] G') := by
  have hn := g.1.2
  refine lp_inv (L := fun fu y m => FX12_gain_L24 222 (i3 p) fu y m) (n := nP N) (fun k m' => mx_out GW m m' ∧ ∃ G', m'.1 222 49 = z3 G' ∧ GB N G' ∧ G ≤ G' ∧ (G' = G ∨ MC N G') ∧ ∀ q, q < k → ∀ f, allx N f [q, p] G') ?_ ?_ 0 mx_FU m (by omega) (FU_lt (by omega)) ⟨mx_out.rf, G, hG, hGB, by omega, Or.inl rfl, fun q hq => by omega⟩
  · intro fu m2 hm
    show hw (FX12_gain_L24 222 (i3 p) (fu + 1) (i3 (nP N)) m2) _
    have hN2 : m2.1 224 = N := by rw [hm.1.cell 224 (fun j => by unfold GW; omega)]; exact hN
    rw [FX12_gain_L24]
    simp (disch := omega) only [Nat.reduceAdd, hN2, N0 g, Nat.le_refl, ob_some, mx_letI, mx_chkT, mx_inb_i3, mx_inb_lit, lit_toNat, i3_toNat, i3_le, i3_lt, i3_leL, i3_Lle, i3_ltL, i3_Llt, i3_neg, i3_eq, i3_eqL, i3_ne1, i3_add, i3_addL, i3_Ladd, i3_mul, i3_mulL, i3_Lmul, mx_b01_0, mx_b01_1, b2_01, b2_0, b2_1, se_inl, se_inr, if_true, if_false, e10, e01, e00, e11, em1, em1lt, Nat.not_lt_zero, if_pos, if_neg]
    exact hw_some hm
  · intro fu k m2 hk hm hs
    show hw (FX12_gain_L24 222 (i3 p) (fu + 1) (i3 k) m2) _
    obtain ⟨z, G2, e, b, l, cc, al⟩ := hm
    have hN2 : m2.1 224 = N := by rw [z.cell 224 (fun j => by unfold GW; omega)]; exact hN
    have next : ∀ (m3 : mB) (G3 : Int), mx_out GW m m3 → m3.1 222 49 = z3 G3 → GB N G3 → G2 ≤ G3 → (G3 = G ∨ MC N G3) → (∀ f, allx N f [k, p] G3) → hw (FX12_gain_L24 222 (i3 p) fu (i3 (k + 1)) m3) (fun m' => mx_out GW m m' ∧ ∃ G', m'.1 222 49 = z3 G' ∧ GB N G' ∧ G ≤ G' ∧ (G' = G ∨ MC N G') ∧ ∀ q, q < nP N → ∀ f, allx N f [q, p] G') := by
      intro m3 G3 w1 w2 w3 w4 w5 w7
      refine hs m3 ⟨w1, G3, w2, w3, by omega, w5, fun j hj f => ?_⟩
      by_cases h3 : j < k
      · exact allx_up (al j h3 f) w4
      · have : j = k := by omega
        rw [this]; exact w7 f
    have e0 : m2.1 (222 + 2) 0 = i3 (nP N) := by show m2.1 224 0 = _; rw [hN2, N0 g]
    rw [FX12_gain_L24, e0, if_neg (by rw [i3_le (by omega) (by omega)]; omega), M_areLinked g hN2 (by omega) (by omega), ob_some]
    cases hk1 : lk N p k with
    | false =>
      rw [if_pos (show b2 false = 0 from rfl), mx_letI, i3_succ]
      refine next m2 G2 z e b (by omega) cc (fun f xs t v hx => ?_)
      exfalso
      obtain ⟨t2, v2, h2⟩ := alt_part (row := [k, p]) hx (by simp)
      rw [h2.1] at hk1
      cases hk1
    | true =>
      obtain ⟨w, hw1, hw2, hw3, hw4⟩ := Wt_some g s hk1
      have hL := g.2.1.2
      have e8 : (128 : Int32) + oi (some w) = i3 (128 + w) := i3_Ladd w 128
      have e8c : m2.1 (222 + 2) (128 + w) = i3 (Wt N p k) := by show m2.1 224 _ = _; rw [hN2, hw3]
      rw [if_neg (show ¬ b2 true = 0 from by decide), M_arePaired_y g hN2 hp, ob_some, M_between g hN2 (by omega) (by omega), hw1, ob_some, e8, mx_inb_i3 (by omega) (by omega), mx_chkT, i3_toNat (by omega), e8c, mx_letI]
      have hpk : p ≠ k := (lk_lt g hk1).2.2
      have hbits : ∀ j, j < 32 → bt (pw p ||| pw k) j = decide (j ∈ [k, p]) := fun j hj => by
        rw [bt_or, bt_pwk (by omega) hj, bt_pwk (by omega) hj]
        by_cases y1 : j = p <;> by_cases y2 : j = k <;> simp [y1, y2]
      have ha : alt N (pa N p k) [k, p] (pa N p k) (sgn (pa N p k) (Wt N p k)) := ⟨hk1, rfl, rfl, rfl⟩
      have R := M_stroke (f := pa N p k) g s 64 (row := [k, p]) (us := pw p ||| pw k) (m := m2) (G := G2) (by simp) hN2 ha hbits e b
      obtain ⟨m4, e4, z4, G4, y1, y2, y3, y4, y5⟩ := R
      have fin : hw (FX12_gain_L24 222 (i3 p) fu (i3 (k + 1)) m4) (fun m' => mx_out GW m m' ∧ ∃ G', m'.1 222 49 = z3 G' ∧ GB N G' ∧ G ≤ G' ∧ (G' = G ∨ MC N G') ∧ ∀ q, q < nP N → ∀ f, allx N f [q, p] G') := by
        refine next m4 G4 (mx_out.tr z z4) y1 y2 (by omega) ?_ (fun f xs t v hx => ?_)
        · rcases y5 with rfl | y5
          · exact cc
          · exact Or.inr y5
        · obtain ⟨t2, v2, h2⟩ := alt_part (row := [k, p]) hx (by simp)
          have hf : f = pa N p k := h2.2.1.symm
          rw [hf] at hx ⊢
          exact y4 xs t v hx
      have e9 : ([k, p] : List Nat).length - 1 = 1 := rfl
      have e10 : st [k, p] = p := rfl
      have e11 : h0 [k, p] = k := rfl
      rw [e9, e10, e11] at e4
      cases hpa : pa N p k with
      | false =>
        rw [hpa] at e4
        have e12 : b2 (decide (N (158 + p) = i3 k)) = b2 false := by rw [b2_eq]; exact hpa
        rw [e12, if_pos (show b2 false = 0 from rfl)]
        have e13 : z3 (sgn false (Wt N p k)) = i3 (Wt N p k) := (z3_i3 _).symm
        rw [e13] at e4
        show hw (Option.bind (FX12_stroke 64 222 (i3 p) (i3 k) (i3 1) (b2 false) (b2 false) (pw p ||| pw k) (i3 (Wt N p k)) m2) _) _
        rw [e4, ob_some, mx_letI, i3_succ]
        exact fin
      | true =>
        rw [hpa] at e4
        have e12 : b2 (decide (N (158 + p) = i3 k)) = b2 true := by rw [b2_eq]; exact hpa
        rw [e12, if_neg (show ¬ b2 true = 0 from by decide)]
        have e13 : z3 (sgn true (Wt N p k)) = -i3 (Wt N p k) := by rw [z3_i3, z3_neg]; rfl
        rw [e13] at e4
        show hw (Option.bind (FX12_stroke 64 222 (i3 p) (i3 k) (i3 1) (b2 true) (b2 true) (pw p ||| pw k) (-i3 (Wt N p k)) m2) _) _
        rw [e4, ob_some, mx_letI, i3_succ]
        exact fin
theorem M_gain (g : GI N) (s : SI N) (h : d.1 224 = N) : ∃ G d', FX12_gain 222 d = some (z3 G, d') ∧ isMax N G := by
  have hn := g.1.2
  have key : hw (FX12_gain_L12 222 mx_FU (i3 0) (mx_up (mx_up d.1 222 0 0) 222 49 0, d.2)) (fun m' => ∃ G', m'.1 222 49 = z3 G' ∧ isMax N G') := by
    refine lp_inv (L := fun fu y m => FX12_gain_L12 222 fu y m) (n := nP N) (fun k m' => m'.1 224 = N ∧ ∃ G', m'.1 222 49 = z3 G' ∧ GB N G' ∧ (G' = 0 ∨ MC N G') ∧ ∀ p, p < k → ∀ q, q < nP N → ∀ f, allx N f [q, p] G') ?_ ?_ 0 mx_FU _ (by omega) (FU_lt (by omega)) ⟨?_, 0, ?_, ⟨by omega, by omega⟩, Or.inl rfl, fun p hp => by omega⟩
    · intro fu m2 hm
      show hw (FX12_gain_L12 222 (fu + 1) (i3 (nP N)) m2) _
      obtain ⟨hN2, G2, e, b, cc, al⟩ := hm
      rw [FX12_gain_L12]
      simp (disch := omega) only [Nat.reduceAdd, hN2, N0 g, Nat.le_refl, ob_some, mx_letI, mx_chkT, mx_inb_i3, mx_inb_lit, lit_toNat, i3_toNat, i3_le, i3_lt, i3_leL, i3_Lle, i3_ltL, i3_Llt, i3_neg, i3_eq, i3_eqL, i3_ne1, i3_add, i3_addL, i3_Ladd, i3_mul, i3_mulL, i3_Lmul, mx_b01_0, mx_b01_1, b2_01, b2_0, b2_1, se_inl, se_inr, if_true, if_false, e10, e01, e00, e11, em1, em1lt, Nat.not_lt_zero, if_pos, if_neg]
      refine hw_some ⟨G2, e, b.1, b.2, fun x hx => ?_, cc⟩
      obtain ⟨f, row, t, v, ha, hc⟩ := hx
      obtain ⟨xs, q, p, e0, -, e3, -, -⟩ := alt_first ha
      have hl := lk_lt g e3
      rw [e0] at ha hc
      have := al p hl.1 q hl.2.1 f xs t v ha
      rcases hc with ⟨h1, rfl⟩ | ⟨h1, rfl⟩
      · exact this.1 h1
      · exact this.2 h1
    · intro fu k m2 hk hm hs
      show hw (FX12_gain_L12 222 (fu + 1) (i3 k) m2) _
      obtain ⟨hN2, G2, e, b, cc, al⟩ := hm
      have e0 : m2.1 (222 + 2) 0 = i3 (nP N) := by show m2.1 224 0 = _; rw [hN2, N0 g]
      obtain ⟨m4, e4, z4, G4, y1, y2, y3, y4, y5⟩ := M_gain_L24 g s hk hN2 e b
      rw [FX12_gain_L12, e0, if_neg (by rw [i3_le (by omega) (by omega)]; omega)]
      show hw (Option.bind (FX12_gain_L24 222 (i3 k) mx_FU (i3 0) m2) _) _
      rw [e4, ob_some, mx_letI, i3_succ]
      refine hs m4 ⟨by rw [z4.cell 224 (fun j => by unfold GW; omega)]; exact hN2, G4, y1, y2, ?_, fun p hp q hq f => ?_⟩
      · rcases y4 with rfl | y4
        · exact cc
        · exact Or.inr y4
      · by_cases h3 : p < k
        · exact allx_up (al p h3 q hq f) y3
        · have : p = k := by omega
          rw [this]; exact y5 q hq f
    · show mx_up (mx_up d.1 222 0 0) 222 49 0 224 = N
      rw [up_off _ (by omega), up_off _ (by omega)]; exact h
    · exact mx_up_self (mx_up d.1 222 0 0) 222 49 0
  obtain ⟨m', e, G, e1, e2⟩ := key
  refine ⟨G, m', ?_, e2⟩
  unfold FX12_gain
  simp only [mx_letI]
  show Option.bind (FX12_gain_L12 222 mx_FU (i3 0) (mx_up (mx_up d.1 222 0 0) 222 49 0, d.2)) _ = _
  rw [e, ob_some, e1]
theorem C_gain (hp0 : p0 + 11 ≤ 38) (h : Nt c p0 N) : ∃ G c', FX9_greatestGain 38 p0 c = some (z3 G, c') ∧ isMax N G := by
  have hh := h
  obtain ⟨g, s, h2, h3⟩ := hh
  have hn := g.1.2
  have key : hw (FX9_greatestGain_L7 38 p0 mx_FU (i3 0) (mx_up c.1 38 1 0, c.2)) (fun m' => ∃ G', m'.1 38 1 = z3 G' ∧ isMax N G') := by
    refine lp_inv (L := fun fu y m => FX9_greatestGain_L7 38 p0 fu y m) (n := nP N) (fun k m' => mx_out GC c m' ∧ ∃ G', m'.1 38 1 = z3 G' ∧ GB N G' ∧ (G' = 0 ∨ CC N G') ∧ ∀ p, p < k → (lone N p = true → allc N false [p] G') ∧ (lone N p = false → allc N true [ptq N p, p] G')) ?_ ?_ 0 mx_FU _ (by omega) (FU_lt (by omega)) ⟨mx_out_up mx_out.rf rfl ⟨rfl, rfl⟩, 0, mx_up_self c.1 38 1 0, ⟨by omega, by omega⟩, Or.inl rfl, fun p hp => by omega⟩
    · intro fu m2 hm
      show hw (FX9_greatestGain_L7 38 p0 (fu + 1) (i3 (nP N)) m2) _
      obtain ⟨z, G2, e, b, cc, al⟩ := hm
      obtain ⟨-, -, hm2, hm3⟩ := GC_nt hp0 h z
      rw [FX9_greatestGain_L7]
      unfold FX4_points
      rw [ob_some, C0 g hm2, if_pos (by rw [i3_le (by omega) (by omega)]; omega)]
      refine hw_some ⟨G2, e, b.1, b.2, fun x hx => ?_, ?_⟩
      · obtain ⟨f, row, t, v, ha, hc⟩ := (MC_CC g s).mp hx
        obtain ⟨xs, q, p, e0, e1, e3, e4, e5⟩ := alt_first ha
        have hl := lk_lt g e3
        have hA := al p hl.1
        cases f with
        | true =>
          have e6 : N (158 + p) = i3 q := of_decide_eq_true e1
          have hlo : lone N p = false := decide_eq_false (by rw [e6, i3_ne1 (by omega)]; exact not_false)
          have hq : ptq N p = q := by unfold ptq; rw [e6, i3_toNat (by omega)]
          have := hA.2 hlo
          rw [hq] at this
          rw [e0] at ha hc
          have := this xs t v ha
          rcases hc with ⟨h1, rfl⟩ | ⟨h1, h4, rfl⟩
          · exact this.1 h1
          · exact this.2 h1 h4
        | false =>
          rcases hc with ⟨h1, rfl⟩ | ⟨h1, h4, rfl⟩
          · rcases h1.1 with w | w
            · cases w
            · rw [e4] at w
              have := hA.1 w (xs ++ [q]) t x (by rw [List.append_assoc]; rw [e0] at ha; exact ha)
              rw [List.append_assoc] at this
              rw [e0] at h1
              exact this.1 h1
          · have := h1.2.2.2
            rw [h4] at this
            cases this
      · rcases cc with w | w
        · exact Or.inl w
        · exact Or.inr ((MC_CC g s).mpr w)
    · intro fu k m2 hk hm hs
      show hw (FX9_greatestGain_L7 38 p0 (fu + 1) (i3 k) m2) _
      obtain ⟨z, G2, e, b, cc, al⟩ := hm
      have hNt := GC_nt hp0 h z
      have hNt' := hNt
      obtain ⟨-, -, hm2, hm3⟩ := hNt'
      have next : ∀ (m3 : mB) (G3 : Int), mx_out GC c m3 → m3.1 38 1 = z3 G3 → GB N G3 → G2 ≤ G3 → (G3 = 0 ∨ CC N G3) → ((lone N k = true → allc N false [k] G3) ∧ (lone N k = false → allc N true [ptq N k, k] G3)) → hw (FX9_greatestGain_L7 38 p0 fu (i3 (k + 1)) m3) (fun m' => ∃ G', m'.1 38 1 = z3 G' ∧ isMax N G') := by
        intro m3 G3 w1 w2 w3 w4 w5 w7
        refine hs m3 ⟨w1, G3, w2, w3, w5, fun j hj => ?_⟩
        by_cases h3 : j < k
        · exact ⟨fun y => allc_up ((al j h3).1 y) w4, fun y => allc_up ((al j h3).2 y) w4⟩
        · have : j = k := by omega
          rw [this]; exact w7
      rw [FX9_greatestGain_L7]
      unfold FX4_points
      rw [ob_some, C0 g hm2, if_neg (by rw [i3_le (by omega) (by omega)]; omega), C_partnerOf_y g hm2 hm3 hk, ob_some]
      cases hlo : lone N k with
      | true =>
        rw [if_pos (of_decide_eq_true hlo)]
        have R := C_stroke (f := false) hp0 g s 64 (row := [k]) (v := 0) (sn := pw k) (left := 5) (m := m2) (G := G2) (by simp) (by simp) (by omega) hNt (Or.inl ⟨k, rfl, hk, hlo, rfl, rfl⟩) (fun j hj => by rw [bt_pwk (by omega) hj]; simp) e b
        obtain ⟨m4, e4, z4, G4, y1, y2, y3, y4, y5⟩ := R
        show hw (Option.bind (FX9_strokeOn 64 38 p0 (i3 (st [k])) (i3 (h0 [k])) (pw k) (z3 0) (i3 5) m2) _) _
        rw [e4, ob_some, mx_letI, i3_succ]
        refine next m4 G4 (mx_out.tr z z4) y1 y2 y3 ?_ ⟨fun _ => y4, fun y => by rw [hlo] at y; cases y⟩
        rcases y5 with rfl | y5
        · exact cc
        · exact Or.inr y5
      | false =>
        rw [if_neg (of_decide_eq_false hlo)]
        obtain ⟨q1, q2, q3, q4, q5⟩ := pt_of g s hk hlo
        rw [q1, Wt_C g s hm2 q4, ob_some]
        have ha : alt N true [ptq N k, k] true (sgn true (Wt N k (ptq N k))) := ⟨q4, decide_eq_true q1, rfl, rfl⟩
        have R := C_stroke (f := true) hp0 g s 64 (row := [ptq N k, k]) (v := sgn true (Wt N k (ptq N k))) (sn := pw k ||| pw (ptq N k)) (left := 5) (m := m2) (G := G2) (by simp) (by simp) (by omega) hNt (Or.inr ⟨ha, Or.inl rfl⟩) (fun j hj => by
          rw [bt_or, bt_pwk (by omega) hj, bt_pwk (by omega) hj]
          by_cases y1 : j = k <;> by_cases y2 : j = ptq N k <;> simp [y1, y2]) e b
        obtain ⟨m4, e4, z4, G4, y1, y2, y3, y4, y5⟩ := R
        have e13 : z3 (sgn true (Wt N k (ptq N k))) = -i3 (Wt N k (ptq N k)) := by rw [z3_i3, z3_neg]; rfl
        rw [e13] at e4
        show hw (Option.bind (FX9_strokeOn 64 38 p0 (i3 (st [ptq N k, k])) (i3 (h0 [ptq N k, k])) (pw k ||| pw (ptq N k)) (-i3 (Wt N k (ptq N k))) (i3 5) m2) _) _
        rw [e4, ob_some, mx_letI, i3_succ]
        refine next m4 G4 (mx_out.tr z z4) y1 y2 y3 ?_ ⟨fun y => (by rw [hlo] at y; cases y), fun _ => y4⟩
        rcases y5 with rfl | y5
        · exact cc
        · exact Or.inr y5
  obtain ⟨m', e, G, e1, e2⟩ := key
  refine ⟨G, m', ?_, e2⟩
  unfold FX9_greatestGain
  simp only [mx_letI]
  show Option.bind (FX9_greatestGain_L7 38 p0 mx_FU (i3 0) (mx_up c.1 38 1 0, c.2)) _ = _
  rw [e, ob_some, e1]
end GAIN
