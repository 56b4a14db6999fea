/-! ===== the reference's strokes ===== -/
def GW : Nat → Nat → Prop := fun b j => b = 222 ∧ j = 49
/-- all that goes on from a row is weighed -/
def allx (N : Rw) (f : Bool) (row : List Nat) (G : Int) : Prop := ∀ xs t v, alt N f (xs ++ row) t v → (opn N f (xs ++ row) t → v ≤ G) ∧ (cls N f (xs ++ row) t → clv N (xs ++ row) t v ≤ G)
theorem allx_up {N : Rw} {f : Bool} {row : List Nat} {G G' : Int} (h : allx N f row G) (hg : G ≤ G') : allx N f row G' := fun xs t v ha => ⟨fun ho => by have := (h xs t v ha).1 ho; omega, fun hc => by have := (h xs t v ha).2 hc; omega⟩
/-- what holds of the greatest so far -/
def GB (N : Rw) (G : Int) : Prop := 0 ≤ G ∧ G ≤ 1089
theorem cand_b {N : Rw} {f : Bool} (g : GI N) (s : SI N) {row : List Nat} {t : Bool} {v : Int} (h : alt N f row t v) : -1089 ≤ v ∧ v ≤ 1089 ∧ -1089 ≤ clv N row t v ∧ clv N row t v ≤ 1089 := by
  obtain ⟨-, h1, h2⟩ := alt_b g s h
  have := sgn_le g s (!t) (h0 row) (st row)
  unfold clv
  omega
def QS (N : Rw) (f : Bool) (row : List Nat) (G : Int) (m : mB) : mB → Prop := fun m' => mx_out GW m m' ∧ ∃ G', m'.1 222 49 = z3 G' ∧ GB N G' ∧ G ≤ G' ∧ allx N f row G' ∧ (G' = G ∨ MC N G')
theorem hw_letK {α β : Type} {x : α} {f : α → Option β} {Q : β → Prop} (h : ∀ K, K = x → hw (f K) Q) : hw (mx_let x f) Q := h x rfl
section STRM
variable {d : mB} {N : Rw} {f : Bool}
theorem b2_eq (a b : Bool) : (b2 a = b2 b) = (a = b) := by cases a <;> cases b <;> decide
theorem M_stroke (g : GI N) (s : SI N) : ∀ (D : Nat) {row : List Nat} {t : Bool} {v : Int} {us : Int32} {m : mB} {G : Int}, 11 ≤ D + row.length → m.1 224 = N → alt N f row t v → (∀ j, j < 32 → bt us j = decide (j ∈ row)) → m.1 222 49 = z3 G → GB N G →
    hw (FX12_stroke D 222 (i3 (st row)) (i3 (h0 row)) (i3 (row.length - 1)) (b2 f) (b2 t) us (z3 v) m) (QS N f row G m) := by
  have hn := g.1.2
  intro D
  induction D with
  | zero =>
    intro row t v us m G hD _ ha
    have := (alt_b g s ha).1
    omega
  | succ D ih =>
    intro row t v us m G hD hN ha hb hG hGB
    obtain ⟨r, q, rest, hrow⟩ := alt_ne ha
    have hlen := (alt_b g s ha).1
    obtain ⟨hnd, hlt, -, -⟩ := alt_ok g s ha
    have hh0 : h0 row < nP N := hlt _ (by rw [hrow]; simp [h0])
    have hst : st row < nP N := hlt _ (by
      rw [hrow]
      have : st (r :: q :: rest) = (r :: q :: rest).getLast (by simp) := by simp [st, List.getLastD_eq_getLast?, List.getLast?_eq_some_getLast]
      rw [this]
      exact List.getLast_mem _)
    have hl2 : 2 ≤ row.length := by rw [hrow]; simp
    have hcb := cand_b g s ha
    -- the loop, from any memory behind the first test
    have loop : ∀ (m1 : mB) (G1 : Int), mx_out GW m m1 → m1.1 222 49 = z3 G1 → GB N G1 → G ≤ G1 → (G1 = G ∨ MC N G1) → (opn N f row t → v ≤ G1) →
        hw (FX12_stroke_L44 (FX12_stroke D) 222 (i3 (st row)) (i3 (h0 row)) (i3 (row.length - 1)) (b2 f) (b2 t) us (z3 v) mx_FU (i3 0) m1) (QS N f row G m) := by
      intro m1 G1 z1 e1 b1 l1 c1 o1
      refine lp_inv (L := fun fu y m => FX12_stroke_L44 (FX12_stroke D) 222 (i3 (st row)) (i3 (h0 row)) (i3 (row.length - 1)) (b2 f) (b2 t) us (z3 v) fu y m) (n := nP N)
        (fun k m' => mx_out GW m m' ∧ ∃ G', m'.1 222 49 = z3 G' ∧ GB N G' ∧ G ≤ G' ∧ (G' = G ∨ MC N G') ∧ (opn N f row t → v ≤ G') ∧ (st row < k → cls N f row t → clv N row t v ≤ G') ∧ ∀ j, j < k → allx N f (j :: row) G') ?_ ?_ 0 mx_FU m1 (by omega) (FU_lt (by omega)) ⟨z1, G1, e1, b1, l1, c1, o1, fun h => by omega, fun j hj => by omega⟩
      · intro fu m2 hm
        show hw (FX12_stroke_L44 (FX12_stroke D) 222 (i3 (st row)) (i3 (h0 row)) (i3 (row.length - 1)) (b2 f) (b2 t) us (z3 v) (fu + 1) (i3 (nP N)) m2) _
        obtain ⟨z, G2, e, b, l, cc, o, cl, al⟩ := hm
        have hN2 : m2.1 224 = N := by rw [z.cell 224 (fun j => by unfold GW; omega)]; exact hN
        rw [FX12_stroke_L44]
        simp (disch := omega) only [Nat.reduceAdd, hN2, N0 g, Nat.le_refl, ob_some, mx_letI, mx_chkT, mx_inb_i3, mx_inb_lit, lit_toNat, i3_toNat, i3_le, i3_lt, i3_leL, i3_Lle, i3_ltL, i3_Llt, i3_neg, i3_eq, i3_eqL, i3_ne1, i3_add, i3_addL, i3_Ladd, i3_mul, i3_mulL, i3_Lmul, mx_b01_0, mx_b01_1, b2_01, b2_0, b2_1, se_inl, se_inr, if_true, if_false, e10, e01, e00, e11, em1, em1lt, Nat.not_lt_zero, if_pos, if_neg]
        refine hw_some ⟨z, G2, e, b, l, ?_, cc⟩
        intro xs t' v' hx
        cases h : xs.reverse with
        | nil =>
          have : xs = [] := by simpa using h
          subst this
          obtain ⟨e1, e2⟩ := alt_uniq (row := row) hx ha
          rw [e1, e2]
          exact ⟨o, cl hst⟩
        | cons y ys =>
          have hxs : xs = ys.reverse ++ [y] := by
            have := congrArg List.reverse h
            simpa using this
          rw [hxs, List.append_assoc] at hx
          have hy : y < nP N := (alt_ok g s hx).2.1 y (by simp)
          have := al y hy ys.reverse t' v' hx
          rw [hxs, List.append_assoc]
          exact this
      · intro fu k m2 hk hm hs
        show hw (FX12_stroke_L44 (FX12_stroke D) 222 (i3 (st row)) (i3 (h0 row)) (i3 (row.length - 1)) (b2 f) (b2 t) us (z3 v) (fu + 1) (i3 k) m2) _
        obtain ⟨z, G2, e, b, l, cc, o, cl, al⟩ := hm
        have hN2 : m2.1 224 = N := by rw [z.cell 224 (fun j => by unfold GW; omega)]; exact hN
        -- going on
        have next : ∀ (m3 : mB) (G3 : Int), mx_out GW m m3 → m3.1 222 49 = z3 G3 → GB N G3 → G2 ≤ G3 → (G3 = G ∨ MC N G3) → (st row = k → cls N f row t → clv N row t v ≤ G3) → allx N f (k :: row) G3 → hw (FX12_stroke_L44 (FX12_stroke D) 222 (i3 (st row)) (i3 (h0 row)) (i3 (row.length - 1)) (b2 f) (b2 t) us (z3 v) fu (i3 (k + 1)) m3) (QS N f row G m) := by
          intro m3 G3 w1 w2 w3 w4 w5 w6 w7
          refine hs m3 ⟨w1, G3, w2, w3, by omega, w5, fun h => by have := o h; omega, fun h1 h2 => ?_, fun j hj => ?_⟩
          · by_cases h3 : st row < k
            · have := cl h3 h2; omega
            · exact w6 (by omega) h2
          · by_cases h3 : j < k
            · exact allx_up (al j h3) w4
            · have : j = k := by omega
              rw [this]; exact w7
        have vac : (¬ (lk N (h0 row) k = true ∧ pa N (h0 row) k = !t)) → hw (FX12_stroke_L44 (FX12_stroke D) 222 (i3 (st row)) (i3 (h0 row)) (i3 (row.length - 1)) (b2 f) (b2 t) us (z3 v) fu (i3 (k + 1)) m2) (QS N f row G m) := fun hv =>
          next m2 G2 z e b (by omega) cc (fun h1 h2 => absurd ⟨by rw [← h1]; exact h2.1, by rw [← h1]; exact h2.2.1⟩ hv) (fun xs t' v' hx => by
            obtain ⟨t2, v2, h2⟩ := alt_part (row := k :: row) hx (by simp; omega)
            obtain ⟨a1, a2, a3, a4⟩ := alt_tail h2 hl2
            have := (alt_uniq a1 ha).1
            exact absurd ⟨a2, by rw [a3, ← this, Bool.not_not]⟩ hv)
        have e0 : m2.1 (222 + 2) 0 = i3 (nP N) := by show m2.1 224 0 = _; rw [hN2, N0 g]
        rw [FX12_stroke_L44, e0, if_neg (by rw [i3_le (by omega) (by omega)]; omega), M_areLinked g hN2 (by omega) (by omega), ob_some]
        cases hk1 : lk N (h0 row) k with
        | false =>
          rw [if_pos (show b2 false = 0 from rfl), mx_letI, i3_succ]
          exact vac (fun q => by rw [hk1] at q; exact absurd q.1 (by decide))
        | true =>
          rw [if_neg (show ¬ b2 true = 0 from by decide), M_arePaired_y g hN2 hh0, ob_some]
          by_cases hpa : pa N (h0 row) k = t
          · rw [if_pos (show b2 (decide (N (158 + h0 row) = i3 k)) = b2 t from by rw [b2_eq]; exact hpa), mx_letI, i3_succ]
            exact vac (fun q => by rw [hpa] at q; revert q; cases t <;> simp)
          · rw [if_neg (show ¬ b2 (decide (N (158 + h0 row) = i3 k)) = b2 t from by rw [b2_eq]; exact hpa)]
            have hpa2 : pa N (h0 row) k = !t := by revert hpa; cases pa N (h0 row) k <;> cases t <;> simp
            obtain ⟨w, hw1, hw2, hw3, hw4⟩ := Wt_some g s hk1
            have hL := g.2.1.2
            rw [M_between g hN2 (by omega) (by omega), hw1, ob_some]
            have e8 : (128 : Int32) + oi (some w) = i3 (128 + w) := i3_Ladd w 128
            have e8c : m2.1 (222 + 2) (128 + w) = i3 (Wt N (h0 row) k) := by show m2.1 224 _ = _; rw [hN2, hw3]
            rw [e8, mx_inb_i3 (by omega) (by omega), mx_chkT, i3_toNat (by omega), e8c, mx_letI]
            -- the tail: whether the point is new
            have tail : ∀ (m3 : mB) (G3 : Int), mx_out GW m m3 → m3.1 222 49 = z3 G3 → GB N G3 → G2 ≤ G3 → (G3 = G ∨ MC N G3) → (st row = k → cls N f row t → clv N row t v ≤ G3) →
                hw (Option.bind (FX12_has us (i3 k) m3) (fun r18 => if r18 = 0 then Option.bind (FX12_stroke D 222 (i3 (st row)) (i3 k) (i3 (row.length - 1) + 1) (b2 f) (b2 (!t)) (us ||| pw k) (z3 v + z3 (sgn (!t) (Wt N (h0 row) k))) m3) (fun r24 => FX12_stroke_L44 (FX12_stroke D) 222 (i3 (st row)) (i3 (h0 row)) (i3 (row.length - 1)) (b2 f) (b2 t) us (z3 v) fu (i3 (k + 1)) r24) else FX12_stroke_L44 (FX12_stroke D) 222 (i3 (st row)) (i3 (h0 row)) (i3 (row.length - 1)) (b2 f) (b2 t) us (z3 v) fu (i3 (k + 1)) m3)) (QS N f row G m) := by
              intro m3 G3 w1 w2 w3 w4 w5 w6
              rw [M_has _ (by omega), ob_some, hb k (by omega)]
              by_cases hin : k ∈ row
              · rw [if_neg (by rw [b2_0]; simp [hin])]
                refine next m3 G3 w1 w2 w3 w4 w5 w6 (fun xs t' v' hx => ?_)
                obtain ⟨t2, v2, h2⟩ := alt_part (row := k :: row) hx (by simp; omega)
                exact absurd hin (alt_tail h2 hl2).2.2.2
              · rw [if_pos (by rw [b2_0]; simp [hin])]
                have ha2 := alt_cons ha hk1 hpa2 hin
                have hst2 : st (k :: row) = st row := st_cons _ (by omega)
                have hN3 : m3.1 224 = N := by rw [w1.cell 224 (fun j => by unfold GW; omega)]; exact hN
                have R := ih (row := k :: row) (t := !t) (us := us ||| pw k) (m := m3) (G := G3) (by simp; omega) hN3 ha2 (fun j hj => by
                  rw [bt_or, bt_pwk (by omega) hj, hb j hj]
                  by_cases y1 : j ∈ row <;> by_cases y2 : j = k <;> simp [y1, y2]) w2 w3
                rw [hst2, show h0 (k :: row) = k from rfl, show (k :: row).length - 1 = row.length - 1 + 1 by simp; omega, ← i3_succ, ← z3_add] at R
                obtain ⟨m4, e4, z4, G4, y1, y2, y3, y4, y5⟩ := R
                rw [e4, ob_some]
                refine next m4 G4 (mx_out.tr w1 z4) y1 y2 (by omega) ?_ (fun h1 h2 => by have := w6 h1 h2; omega) y4
                rcases y5 with rfl | y5
                · exact w5
                · exact Or.inr y5
            -- whether the row is closed here
            have mid : ∀ (K : mB → Option mB), (∀ (m3 : mB) (G3 : Int), mx_out GW m m3 → m3.1 222 49 = z3 G3 → GB N G3 → G2 ≤ G3 → (G3 = G ∨ MC N G3) → (st row = k → cls N f row t → clv N row t v ≤ G3) → hw (K m3) (QS N f row G m)) →
                hw (if i3 k = i3 (st row) then (if i3 (row.length - 1) ≤ 2 then K m2 else (if b2 f = b2 t then (if z3 v + z3 (sgn (!t) (Wt N (h0 row) k)) ≤ m2.1 222 49 then K m2 else K (mx_up m2.1 222 49 (z3 v + z3 (sgn (!t) (Wt N (h0 row) k))), m2.2)) else K m2)) else K m2) (QS N f row G m) := by
              intro K hK
              have same : (¬ (st row = k ∧ cls N f row t)) → hw (K m2) (QS N f row G m) := fun hv => hK m2 G2 z e b (by omega) cc (fun h1 h2 => absurd ⟨h1, h2⟩ hv)
              by_cases c1 : k = st row
              · rw [if_pos (by rw [c1])]
                by_cases c2 : row.length - 1 ≤ 2
                · rw [if_pos ((i3_leL (by omega) (by decide)).mpr c2)]
                  exact same (fun q => by have := q.2.2.2.1; omega)
                · rw [if_neg (fun q => c2 ((i3_leL (by omega) (by decide)).mp q))]
                  by_cases c3 : f = t
                  · rw [if_pos (by rw [c3])]
                    have hcls : cls N f row t := ⟨by rw [← c1]; exact hk1, by rw [← c1]; exact hpa2, by omega, c3⟩
                    have hclv : v + sgn (!t) (Wt N (h0 row) k) = clv N row t v := by unfold clv; rw [← c1]
                    have b1 := b.1
                    have b2' := b.2
                    have e7 := z3_le (a := clv N row t v) (b := G2) (by omega) (by omega) (by omega) (by omega)
                    rw [z3_add, e, hclv]
                    by_cases c4 : clv N row t v ≤ G2
                    · rw [if_pos (e7.mpr c4)]
                      exact hK m2 G2 z e b (by omega) cc (fun _ _ => c4)
                    · rw [if_neg (fun q => c4 (e7.mp q))]
                      refine hK _ (clv N row t v) (mx_out_up z rfl ⟨rfl, rfl⟩) (mx_up_self m2.1 222 49 _) ⟨by omega, by omega⟩ (by omega) (Or.inr ⟨f, row, t, v, ha, Or.inr ⟨hcls, rfl⟩⟩) (fun _ _ => by omega)
                  · rw [if_neg (by rw [b2_eq]; exact c3)]
                    exact same (fun q => c3 q.2.2.2.2)
              · rw [if_neg (by rw [i3_eq (by omega) (by omega)]; exact c1)]
                exact same (fun q => c1 q.1.symm)
            cases t with
            | true =>
              rw [if_neg (show ¬ b2 true = 0 from by decide)]
              have e9 : i3 (Wt N (h0 row) k) = z3 (sgn (!true) (Wt N (h0 row) k)) := z3_i3 _
              rw [e9]
              refine hw_letK (fun K hK => mid K (fun m3 G3 w1 w2 w3 w4 w5 w6 => ?_))
              have := tail m3 G3 w1 w2 w3 w4 w5 w6
              rw [hK]
              dsimp only [mx_let]
              simp only [if_neg (show ¬ b2 true = 0 from by decide), i3_succ]
              simp only [i3_succ] at this
              exact this
            | false =>
              rw [if_pos (show b2 false = 0 from rfl), mx_letI]
              have e9 : -i3 (Wt N (h0 row) k) = z3 (sgn (!false) (Wt N (h0 row) k)) := by rw [z3_i3, z3_neg]; rfl
              rw [e9]
              refine hw_letK (fun K hK => mid K (fun m3 G3 w1 w2 w3 w4 w5 w6 => ?_))
              have := tail m3 G3 w1 w2 w3 w4 w5 w6
              rw [hK]
              dsimp only [mx_let]
              simp only [if_pos (show b2 false = 0 from rfl), i3_succ]
              simp only [i3_succ] at this
              exact this
    have loop2 : ∀ (m1 : mB) (G1 : Int), mx_out GW m m1 → m1.1 222 49 = z3 G1 → GB N G1 → G ≤ G1 → (G1 = G ∨ MC N G1) → (opn N f row t → v ≤ G1) →
        hw (Option.bind (FX12_stroke_L44 (FX12_stroke D) 222 (i3 (st row)) (i3 (h0 row)) (i3 (row.length - 1)) (b2 f) (b2 t) us (z3 v) mx_FU 0 m1) (fun q46 => some q46)) (QS N f row G m) := fun m1 G1 y1 y2 y3 y4 y5 y6 => hw_bind (hw_mono (loop m1 G1 y1 y2 y3 y4 y5 y6) (fun r hr => hw_some hr))
    rw [FX12_stroke]
    unfold FX12_stroke_B
    simp only [mx_letI]
    have b1 := hGB.1
    have b2' := hGB.2
    have k49 : opn N f row t → hw (if z3 v ≤ m.1 222 49 then Option.bind (FX12_stroke_L44 (FX12_stroke D) 222 (i3 (st row)) (i3 (h0 row)) (i3 (row.length - 1)) (b2 f) (b2 t) us (z3 v) mx_FU 0 m) (fun q46 => some q46) else Option.bind (FX12_stroke_L44 (FX12_stroke D) 222 (i3 (st row)) (i3 (h0 row)) (i3 (row.length - 1)) (b2 f) (b2 t) us (z3 v) mx_FU 0 (mx_up m.1 222 49 (z3 v), m.2)) (fun q46 => some q46)) (QS N f row G m) := by
      intro ho
      have e7 := z3_le (a := v) (b := G) (by omega) (by omega) (by omega) (by omega)
      rw [hG]
      by_cases c4 : v ≤ G
      · rw [if_pos (e7.mpr c4)]
        exact loop2 m G mx_out.rf hG hGB (by omega) (Or.inl rfl) (fun _ => c4)
      · rw [if_neg (fun q => c4 (e7.mp q))]
        exact loop2 _ v (mx_out_up mx_out.rf rfl ⟨rfl, rfl⟩) (mx_up_self m.1 222 49 (z3 v)) ⟨by omega, by omega⟩ (by omega) (Or.inr ⟨f, row, t, v, ha, Or.inl ⟨ho, rfl⟩⟩) (fun _ => by omega)
    have no : ¬ opn N f row t → hw (Option.bind (FX12_stroke_L44 (FX12_stroke D) 222 (i3 (st row)) (i3 (h0 row)) (i3 (row.length - 1)) (b2 f) (b2 t) us (z3 v) mx_FU 0 m) (fun q46 => some q46)) (QS N f row G m) := fun hno => loop2 m G mx_out.rf hG hGB (by omega) (Or.inl rfl) (fun q => absurd q hno)
    rw [M_isLone_y g hN hst, M_isLone_y g hN hh0]
    simp only [ob_some, b2_0]
    have hA : (f = true ∨ lone N (st row) = true) → hw (if t = false then (if lone N (h0 row) = false then Option.bind (FX12_stroke_L44 (FX12_stroke D) 222 (i3 (st row)) (i3 (h0 row)) (i3 (row.length - 1)) (b2 f) (b2 t) us (z3 v) mx_FU 0 m) (fun q46 => some q46) else (if z3 v ≤ m.1 222 49 then Option.bind (FX12_stroke_L44 (FX12_stroke D) 222 (i3 (st row)) (i3 (h0 row)) (i3 (row.length - 1)) (b2 f) (b2 t) us (z3 v) mx_FU 0 m) (fun q46 => some q46) else Option.bind (FX12_stroke_L44 (FX12_stroke D) 222 (i3 (st row)) (i3 (h0 row)) (i3 (row.length - 1)) (b2 f) (b2 t) us (z3 v) mx_FU 0 (mx_up m.1 222 49 (z3 v), m.2)) (fun q46 => some q46))) else (if z3 v ≤ m.1 222 49 then Option.bind (FX12_stroke_L44 (FX12_stroke D) 222 (i3 (st row)) (i3 (h0 row)) (i3 (row.length - 1)) (b2 f) (b2 t) us (z3 v) mx_FU 0 m) (fun q46 => some q46) else Option.bind (FX12_stroke_L44 (FX12_stroke D) 222 (i3 (st row)) (i3 (h0 row)) (i3 (row.length - 1)) (b2 f) (b2 t) us (z3 v) mx_FU 0 (mx_up m.1 222 49 (z3 v), m.2)) (fun q46 => some q46))) (QS N f row G m) := by
      intro cf
      by_cases c1 : t = false
      · rw [if_pos c1]
        cases h6 : lone N (h0 row) with
        | false =>
          rw [if_pos rfl]
          exact no (fun q => by rcases q.2 with w | w
                                · rw [c1] at w; cases w
                                · rw [h6] at w; cases w)
        | true => rw [if_neg (by decide)]; exact k49 ⟨cf, Or.inr h6⟩
      · rw [if_neg c1]
        exact k49 ⟨cf, Or.inl (by revert c1; cases t <;> simp)⟩
    by_cases c1 : f = false
    · rw [if_pos c1]
      cases h5 : lone N (st row) with
      | false =>
        rw [if_pos rfl]
        exact no (fun q => by rcases q.1 with w | w
                              · rw [c1] at w; cases w
                              · rw [h5] at w; cases w)
      | true => rw [if_neg (by decide)]; exact hA (Or.inr h5)
    · rw [if_neg c1]
      exact hA (Or.inl (by revert c1; cases f <;> simp))
end STRM
