/-! ===== the walk ===== -/
section WALKB
variable {N : Rw}
theorem qf_succ (N : Rw) (free k : Nat) : qf N free (k + 1) = qf N free k ++ (if ((clr free (lst free)).testBit k && lk N (lst free) k) = true then [k] else []) := by
  unfold qf
  rw [List.range_succ, List.filter_append]
  congr 1
  by_cases c : ((clr free (lst free)).testBit k && lk N (lst free) k) = true
  · rw [if_pos c, List.filter_cons, if_pos c]; rfl
  · rw [if_neg c, List.filter_cons, if_neg c]; rfl
theorem qf_0 (N : Rw) {free : Nat} (hf : free < 1024) : qf N free (lst free + 1) = [] := by
  unfold qf
  rw [List.filter_eq_nil_iff]
  intro q hq
  rw [List.mem_range] at hq
  rw [clr_bit]
  by_cases e : q = lst free
  · simp [e]
  · rw [lst_least (m := free) (by omega) hf]
    simp
theorem qf_more (g : GI N) (free : Nat) : ∀ k, nP N ≤ k → qf N free k = qf N free (nP N) := by
  intro k
  induction k with
  | zero => intro h; rw [show nP N = 0 by omega]
  | succ k ih =>
    intro h
    by_cases e : nP N = k + 1
    · rw [e]
    · rw [qf_succ, ih (by omega), if_neg, List.append_nil]
      intro q
      rw [Bool.and_eq_true] at q
      have := (lk_lt g q.2).2.1
      omega
def Gq (N : Rw) (pre : List (Nat × Nat)) (fm q : Nat) : List (List (Nat × Nat)) := (en N (clr (clr fm (lst fm)) q)).map (fun M => (pre ++ [(lst fm, q)]) ++ M)
theorem WS_lone {p fm : Nat} {pre : List (Nat × Nat)} {m : mB} (h : WS N p fm pre m) (h0 : fm ≠ 0) : WS N (lst fm + 1) (clr fm (lst fm)) pre m ∧ lst fm < nP N ∧ p ≤ lst fm ∧ mt pre (lst fm) = -1 := by
  obtain ⟨hN, hm, hp, hf, hb, hy, h10, h99⟩ := h
  obtain ⟨l1, l2⟩ := lst_ok fm hf h0
  have l3 := l2
  rw [hb _ l1] at l3
  simp only [Bool.and_eq_true, decide_eq_true_eq] at l3
  have p1 := pc_clr fm hf _ l1 l2
  refine ⟨⟨hN, hm, by omega, clr_1024 fm hf _ l1, fun x hx => ?_, hy, by omega, h99⟩, l3.1.2, l3.1.1, l3.2⟩
  rw [clr_bit]
  rcases Nat.lt_trichotomy x (lst fm) with q | q | q
  · rw [lst_least q hf]
    have : ¬ lst fm + 1 ≤ x := by omega
    simp [this]
  · subst q
    simp
    intro h
    omega
  · rw [hb x hx]
    have c1 : p ≤ x := by omega
    have c2 : lst fm + 1 ≤ x := by omega
    have c3 : ¬ x = lst fm := by omega
    simp [c1, c2, c3]
theorem WS_pair (g : GI N) (s : SI N) {p fm q : Nat} {pre : List (Nat × Nat)} {m : mB} (h : WS N p fm pre m) (h0 : fm ≠ 0) (hq : q < 10) (hbq : (clr fm (lst fm)).testBit q = true) (hk : lk N (lst fm) q = true) :
    WS N (lst fm + 1) (clr (clr fm (lst fm)) q) (pre ++ [(lst fm, q)]) (mx_up (mx_up m.1 238 (lst fm) (i3 q)) 238 q (i3 (lst fm)), m.2) := by
  have ho := h.2.2.2.2.2.2.1
  have hff := h.2.2.2.1
  obtain ⟨k1, k2⟩ := lst_ok fm hff h0
  have p0 := pc_clr fm hff _ k1 k2
  obtain ⟨⟨hN, hm, hp, hf, hb, hy, h10, h99⟩, l1, l2, l3⟩ := WS_lone h h0
  have hn := g.1.2
  have hbq2 := hbq
  rw [hb q hq] at hbq2
  simp only [Bool.and_eq_true, decide_eq_true_eq] at hbq2
  have hA : ∀ y ∈ pre, y.1 < 2147483648 ∧ y.2 < 2147483648 := fun y h => by have := hy y h; omega
  have emt : ∀ x, mt (pre ++ [(lst fm, q)]) x = if x = q then i3 (lst fm) else if x = lst fm then i3 q else mt pre x := by
    intro x
    rw [mt_app _ _ _ _ hA]
    by_cases c1 : x = q
    · rw [c1, hbq2.2, if_pos rfl, if_neg (by omega), if_pos rfl, if_pos rfl]
    · by_cases c2 : x = lst fm
      · rw [c2, l3, if_pos rfl, if_pos rfl, if_neg (by omega), if_pos rfl]
      · rw [if_neg c1, if_neg c2, if_neg c1, if_neg c2]
        by_cases c3 : mt pre x = -1
        · rw [if_pos c3, c3]
        · rw [if_neg c3]
  have p2 := pc_clr _ hf q hq hbq
  have etk : tk N (pre ++ [(lst fm, q)]) = ((tk N pre).1 + Wt N (lst fm) q, (tk N pre).2 + 1) := by rw [tk_app]; simp [tk]
  have hw := Wt_le g s (lst fm) q
  refine ⟨?_, fun x hx => ?_, hp, clr_1024 _ hf q hq, fun x hx => ?_, fun y h => ?_, ?_, ?_⟩
  · show mx_up (mx_up m.1 238 (lst fm) (i3 q)) 238 q (i3 (lst fm)) 224 = N
    rw [up_off _ (by omega), up_off _ (by omega)]; exact hN
  · show mx_up (mx_up m.1 238 (lst fm) (i3 q)) 238 q (i3 (lst fm)) 238 x = _
    rw [up_at, up_at, emt]
    by_cases c1 : x = q
    · rw [if_pos c1, if_pos c1]
    · rw [if_neg c1, if_neg c1]
      by_cases c2 : x = lst fm
      · rw [if_pos c2, if_pos c2]
      · rw [if_neg c2, if_neg c2]; exact hm x hx
  · rw [clr_bit, hb x hx, emt]
    by_cases c1 : x = q
    · have n1 : ¬ i3 (lst fm) = -1 := fun z => (i3_ne1 (a := lst fm) (by omega)).mp z
      simp [c1, n1]
    · by_cases c2 : x = lst fm
      · have : ¬ lst fm + 1 ≤ x := by omega
        simp [this]
      · simp [c1, c2]
  · rw [List.mem_append, List.mem_singleton] at h
    rcases h with h | h
    · exact hy y h
    · rw [h]; exact ⟨by omega, hq⟩
  · rw [etk]; dsimp only; omega
  · rw [etk]; dsimp only; omega
theorem M_walk (g : GI N) (s : SI N) {P : List (List (Nat × Nat)) → mB → Prop}
    (hleaf : ∀ {done : List (List (Nat × Nat))} {M : List (Nat × Nat)} {m : mB}, P done m → m.1 224 = N → (∀ x, x < 10 → m.1 238 x = mt M x) → (tk N M).2 ≤ 5 → (tk N M).1 ≤ 495 → (∀ y ∈ M, y.1 < 10 ∧ y.2 < 10) → hw (FX12_leaf 222 (i3 (tk N M).1) (i3 (tk N M).2) m) (fun m' => P (done ++ [M]) m' ∧ m'.1 224 = m.1 224 ∧ m'.1 238 = m.1 238))
    (hup : ∀ {done : List (List (Nat × Nat))} {m m' : mB}, P done m → mx_out (fun b _ => b = 238) m m' → P done m') :
    ∀ (D : Nat) {p fm : Nat} {pre : List (Nat × Nat)} {done : List (List (Nat × Nat))} {m : mB}, nP N - p < D → WS N p fm pre m → P done m →
      hw (FX12_walk D 222 (i3 p) (i3 (tk N pre).1) (i3 (tk N pre).2) m) (fun m' => P (done ++ (en N fm).map (fun M => pre ++ M)) m' ∧ m'.1 224 = N ∧ ∀ x, x < 10 → m'.1 238 x = mt pre x) := by
  have hn := g.1.2
  intro D
  induction D with
  | zero => intro p fm pre done m hD; omega
  | succ D ih =>
    intro p fm pre done m hD hW hP
    have hN := hW.1
    have hm := hW.2.1
    have hf := hW.2.2.2.1
    have h10 := hW.2.2.2.2.2.2.1
    have h99 := hW.2.2.2.2.2.2.2
    rw [FX12_walk]
    unfold FX12_walk_B
    rw [M_first g hW, ob_some]
    have e0 : m.1 (222 + 2) 0 = i3 (nP N) := by show m.1 224 0 = _; rw [hN, N0 g]
    rw [e0]
    by_cases h0 : fm = 0
    · subst h0
      rw [if_pos rfl, if_pos rfl]
      obtain ⟨m1, e1, P1, n1, d1⟩ := hleaf hP hN hm (by omega) (by omega) hW.2.2.2.2.2.1
      rw [e1, ob_some]
      refine hw_some ⟨?_, by rw [n1]; exact hN, fun x hx => by rw [d1]; exact hm x hx⟩
      rw [en_0]
      simpa using P1
    · obtain ⟨WL, l1, l2, l3⟩ := WS_lone hW h0
      rw [if_neg h0, if_neg (by rw [i3_eq (by omega) (by omega)]; omega), i3_succ, mx_letI]
      have key : hw (FX12_walk_L55 (FX12_walk D) 222 (i3 (tk N pre).1) (i3 (tk N pre).2) (i3 (lst fm)) mx_FU (i3 (lst fm + 1)) m) (fun m' => P (done ++ (qf N fm (nP N)).flatMap (Gq N pre fm)) m' ∧ m'.1 224 = N ∧ ∀ x, x < 10 → m'.1 238 x = mt pre x) := by
        refine lp_inv (L := fun fu y m => FX12_walk_L55 (FX12_walk D) 222 (i3 (tk N pre).1) (i3 (tk N pre).2) (i3 (lst fm)) fu y m) (n := nP N) (fun k m' => lst fm < k ∧ P (done ++ (qf N fm k).flatMap (Gq N pre fm)) m' ∧ m'.1 224 = N ∧ ∀ x, x < 10 → m'.1 238 x = mt pre x) ?_ ?_ (lst fm + 1) mx_FU m (by omega) (FU_lt (by omega)) ⟨by omega, by rw [qf_0 N hf]; simpa using hP, hN, hm⟩
        · intro fu m1 hI
          show hw (FX12_walk_L55 (FX12_walk D) 222 (i3 (tk N pre).1) (i3 (tk N pre).2) (i3 (lst fm)) (fu + 1) (i3 (nP N)) m1) _
          have e1 : m1.1 (222 + 2) 0 = i3 (nP N) := by show m1.1 224 0 = _; rw [hI.2.2.1, N0 g]
          rw [FX12_walk_L55, e1, if_pos (by rw [i3_le (by omega) (by omega)]; omega)]
          exact hw_some hI.2
        · intro fu k m1 hk hI hs
          show hw (FX12_walk_L55 (FX12_walk D) 222 (i3 (tk N pre).1) (i3 (tk N pre).2) (i3 (lst fm)) (fu + 1) (i3 k) m1) _
          obtain ⟨hlk, P1, n1, d1⟩ := hI
          have e1 : m1.1 (222 + 2) 0 = i3 (nP N) := by show m1.1 224 0 = _; rw [n1, N0 g]
          have WL1 : WS N p fm pre m1 := ⟨n1, d1, hW.2.2⟩
          have hbk := WL.2.2.2.2.1 k (by omega)
          have ed : m1.1 (222 + 16) k = mt pre k := d1 k (by omega)
          rw [FX12_walk_L55, e1, if_neg (by rw [i3_le (by omega) (by omega)]; omega), mx_inb_i3 (by omega) (by omega), mx_chkT, i3_toNat (by omega), ed]
          have hno : ((clr fm (lst fm)).testBit k && lk N (lst fm) k) = false → hw (FX12_walk_L55 (FX12_walk D) 222 (i3 (tk N pre).1) (i3 (tk N pre).2) (i3 (lst fm)) fu (i3 (k + 1)) m1) (fun m' => P (done ++ (qf N fm (nP N)).flatMap (Gq N pre fm)) m' ∧ m'.1 224 = N ∧ ∀ x, x < 10 → m'.1 238 x = mt pre x) := fun c => hs m1 ⟨by omega, by rw [qf_succ, c]; simpa using P1, n1, d1⟩
          by_cases c1 : mt pre k = -1
          · rw [if_pos c1, M_areLinked g n1 (by omega) (by omega), ob_some]
            have hbt : (clr fm (lst fm)).testBit k = true := by
              rw [hbk]
              have c2 : lst fm + 1 ≤ k := by omega
              simp [c1, c2, hk]
            cases hkk : lk N (lst fm) k with
            | false =>
              rw [if_pos (show b2 false = 0 from rfl), mx_letI, i3_succ]
              exact hno (by rw [hkk, Bool.and_false])
            | true =>
              rw [if_neg (show ¬ b2 true = 0 from by decide), mx_inb_i3 (by omega) (by omega), mx_chkT, i3_toNat (by omega), mx_letI, mx_letI]
              have W2 := WS_pair g s WL1 h0 (by omega) hbt hkk
              obtain ⟨w, w1, w2, w3, w4⟩ := Wt_some g s hkk
              have hL := g.2.1.2
              show hw (Option.bind (FX12_between 222 (i3 (lst fm)) (i3 k) (mx_up (mx_up m1.1 238 (lst fm) (i3 k)) 238 k (i3 (lst fm)), m1.2)) _) _
              rw [M_between g W2.1 (by omega) (by omega), w1, ob_some]
              have e8 : (128 : Int32) + oi (some w) = i3 (128 + w) := i3_Ladd w 128
              rw [e8, mx_inb_i3 (by omega) (by omega), mx_chkT, i3_toNat (by omega)]
              have e9 : (mx_up (mx_up m1.1 238 (lst fm) (i3 k)) 238 k (i3 (lst fm)), m1.2).1 (222 + 2) (128 + w) = i3 (Wt N (lst fm) k) := by
                show (mx_up (mx_up m1.1 238 (lst fm) (i3 k)) 238 k (i3 (lst fm)), m1.2).1 224 (128 + w) = _
                rw [W2.1, w3]
              have etk : tk N (pre ++ [(lst fm, k)]) = ((tk N pre).1 + Wt N (lst fm) k, (tk N pre).2 + 1) := by rw [tk_app]; simp [tk]
              have z1 : mx_out (fun b _ => b = 238) m1 (mx_up (mx_up m1.1 238 (lst fm) (i3 k)) 238 k (i3 (lst fm)), m1.2) := mx_out_up (mx_out_up mx_out.rf rfl rfl) rfl rfl
              have R := ih (by omega) W2 (hup P1 z1)
              rw [etk] at R
              obtain ⟨m2, e2, P2, n2, d2⟩ := R
              show hw (Option.bind (FX12_walk D 222 (i3 (lst fm) + 1) (i3 (tk N pre).1 + (mx_up (mx_up m1.1 238 (lst fm) (i3 k)) 238 k (i3 (lst fm)), m1.2).1 (222 + 2) (128 + w)) (i3 (tk N pre).2 + 1) (mx_up (mx_up m1.1 238 (lst fm) (i3 k)) 238 k (i3 (lst fm)), m1.2)) _) _
              rw [e9, i3_succ, i3_succ, i3_add, e2, ob_some, mx_letI, mx_letI, mx_letI, i3_succ]
              have z2 : mx_out (fun b _ => b = 238) m2 (mx_up (mx_up m2.1 238 (lst fm) (-1)) 238 k (-1), m2.2) := mx_out_up (mx_out_up mx_out.rf rfl rfl) rfl rfl
              refine hs _ ⟨by omega, ?_, ?_, fun x hx => ?_⟩
              · rw [qf_succ, hkk, hbt]
                have : done ++ (qf N fm k ++ if (true && true) = true then [k] else []).flatMap (Gq N pre fm) = done ++ (qf N fm k).flatMap (Gq N pre fm) ++ (en N (clr (clr fm (lst fm)) k)).map (fun M => (pre ++ [(lst fm, k)]) ++ M) := by
                  rw [if_pos (by rfl), List.flatMap_append, List.append_assoc]
                  simp [Gq]
                rw [this]
                exact hup P2 z2
              · show mx_up (mx_up m2.1 238 (lst fm) (-1)) 238 k (-1) 224 = N
                rw [up_off _ (by omega), up_off _ (by omega)]; exact n2
              · show mx_up (mx_up m2.1 238 (lst fm) (-1)) 238 k (-1) 238 x = _
                rw [up_at, up_at]
                by_cases c3 : x = k
                · rw [if_pos c3, c3, c1]
                · rw [if_neg c3]
                  by_cases c4 : x = lst fm
                  · rw [if_pos c4, c4, l3]
                  · have hA : ∀ y ∈ pre, y.1 < 2147483648 ∧ y.2 < 2147483648 := fun y h => by have := hW.2.2.2.2.2.1 y h; omega
                    rw [if_neg c4, d2 x hx, mt_app _ _ _ _ hA, if_neg c4, if_neg c3]
                    by_cases c5 : mt pre x = -1
                    · rw [if_pos c5, c5]
                    · rw [if_neg c5]
          · rw [if_neg c1, mx_letI, i3_succ]
            exact hno (by rw [hbk]; simp [c1])
      obtain ⟨m1, e1, P1, n1, d1⟩ := key
      rw [e1, ob_some]
      have WL2 : WS N (lst fm + 1) (clr fm (lst fm)) pre m1 := ⟨n1, d1, WL.2.2⟩
      obtain ⟨m2, e2, P2, n2, d2⟩ := ih (by omega) WL2 P1
      rw [e2, ob_some]
      refine hw_some ⟨?_, n2, d2⟩
      rw [en_eq N hf h0, List.map_append, map_flatMap', ← List.append_assoc]
      have eq1 : qsl N fm = qf N fm (nP N) := (qf_more g fm 10 hn)
      rw [eq1]
      have eq2 : (fun a => ((en N (clr (clr fm (lst fm)) a)).map (fun M => (lst fm, a) :: M)).map (fun M => pre ++ M)) = Gq N pre fm := by
        funext a
        unfold Gq
        rw [List.map_map]
        congr 1
        funext M
        simp
      rw [eq2]
      exact P2
end WALKB
