/-! ===== the class's strokes, weighed ===== -/
section STRD
variable {c : mB} {p0 : Nat} {N : Rw} {f : Bool}
theorem Wt_C (g : GI N) (s : SI N) (h : CG c p0 N) {p q : Nat} (hk : lk N p q = true) : FX4_weightOf p0 (i3 p) (i3 q) c = some (i3 (Wt N p q)) := by
  obtain ⟨l, h1, h2, h3, h4⟩ := Wt_some g s hk
  rw [C_weightOf_y g h h1, h3]
theorem GC_nt {c m : mB} {p0 : Nat} {N : Rw} (hp0 : p0 + 11 ≤ 38) (h : Nt c p0 N) (z : mx_out GC c m) : Nt m p0 N := Nt_mem h (fun b h1 h2 => z.cell b (fun j => by unfold GC; omega))
theorem C_stroke (hp0 : p0 + 11 ≤ 38) (g : GI N) (s : SI N) : ∀ (D : Nat) {row : List Nat} {v : Int} {sn : Int32} {left : Nat} {m : mB} {G : Int}, 11 ≤ D + row.length → 10 ≤ row.length + 2 * left → left ≤ 5 → Nt m p0 N → CSt N f row v → (∀ j, j < 32 → bt sn j = decide (j ∈ row)) → m.1 38 1 = z3 G → GB N G →
    hw (FX9_strokeOn D 38 p0 (i3 (st row)) (i3 (h0 row)) sn (z3 v) (i3 left) m) (QC N f row G m) := by
  have hn := g.1.2
  intro D
  induction D with
  | zero =>
    intro row v sn left m G hD _ _ _ hC
    obtain ⟨h1, h2, -⟩ := CSt_ok g s hC
    have := nodup_le h1 h2
    omega
  | succ D ih =>
    intro row v sn left m G hD hl5 hl6 hNt hC hb hG hGB
    obtain ⟨hnd, hlt, hl1, hv1, hv2, hm0, hms⟩ := CSt_ok g s hC
    have hlen := nodup_le hnd hlt
    have hh0 := hlt _ hm0
    have hst := hlt _ hms
    have b1 := hGB.1
    have b2' := hGB.2
    -- the loop
    have loop : ∀ (m1 : mB) (G1 : Int), mx_out GC m m1 → m1.1 38 1 = z3 G1 → GB N G1 → G ≤ G1 → (G1 = G ∨ CC N G1) → (∀ t' v', alt N f row t' v' → (opn N f row t' → v' ≤ G1) ∧ (cls N f row t' → t' = true → clv N row t' v' ≤ G1)) → ∀ near : Int32, (∀ j, j < 32 → bt near j = (lk N (h0 row) j && !decide (j ∈ row))) →
        hw (FX9_strokeOn_L74 (FX9_strokeOn D) 38 p0 (i3 (st row)) (i3 (h0 row)) sn (z3 v) (i3 left) near mx_FU (i3 0) m1) (QC N f row G m) := by
      intro m1 G1 z1 e1 c1 l1 d1 o1 near hv
      refine lp_inv (L := fun fu y m => FX9_strokeOn_L74 (FX9_strokeOn D) 38 p0 (i3 (st row)) (i3 (h0 row)) sn (z3 v) (i3 left) near fu y m) (n := 10)
        (fun k m' => mx_out GC m m' ∧ ∃ G', m'.1 38 1 = z3 G' ∧ GB N G' ∧ G1 ≤ G' ∧ (G' = G ∨ CC N G') ∧ ∀ j, j < k → allc N f (j :: row) G') ?_ ?_ 0 mx_FU m1 (by omega) (FU_lt (by omega)) ⟨z1, G1, e1, c1, by omega, d1, fun j hj => by omega⟩
      · intro fu m2 hm
        show hw (FX9_strokeOn_L74 (FX9_strokeOn D) 38 p0 (i3 (st row)) (i3 (h0 row)) sn (z3 v) (i3 left) near (fu + 1) (i3 10) m2) _
        obtain ⟨z, G2, e, b, l, cc, al⟩ := hm
        rw [FX9_strokeOn_L74]
        refine hw_some ⟨z, G2, e, b, by omega, ?_, cc⟩
        intro xs t' v' hx
        cases h : xs.reverse with
        | nil =>
          have : xs = [] := by simpa using h
          subst this
          have := o1 t' v' hx
          exact ⟨fun w => by have := this.1 w; show v' ≤ G2; omega, fun w w2 => by have := this.2 w w2; show clv N row t' v' ≤ G2; omega⟩
        | cons y ys =>
          have hxs : xs = ys.reverse ++ [y] := by
            have := congrArg List.reverse h
            simpa using this
          rw [hxs, List.append_assoc] at hx
          have hy : y < nP N := (alt_ok g s hx).2.1 y (by simp)
          have := al y (by omega) ys.reverse t' v' hx
          rw [hxs, List.append_assoc]
          exact this
      · intro fu k m2 hk hm hs
        show hw (FX9_strokeOn_L74 (FX9_strokeOn D) 38 p0 (i3 (st row)) (i3 (h0 row)) sn (z3 v) (i3 left) near (fu + 1) (i3 k) m2) _
        obtain ⟨z, G2, e, b, l, cc, al⟩ := hm
        have next : ∀ (m3 : mB) (G3 : Int), mx_out GC m m3 → m3.1 38 1 = z3 G3 → GB N G3 → G2 ≤ G3 → (G3 = G ∨ CC N G3) → allc N f (k :: row) G3 → hw (FX9_strokeOn_L74 (FX9_strokeOn D) 38 p0 (i3 (st row)) (i3 (h0 row)) sn (z3 v) (i3 left) near fu (i3 (k + 1)) m3) (QC N f row G m) := by
          intro m3 G3 w1 w2 w3 w4 w5 w7
          refine hs m3 ⟨w1, G3, w2, w3, by omega, w5, fun j hj => ?_⟩
          by_cases h3 : j < k
          · exact allc_up (al j h3) w4
          · have : j = k := by omega
            rw [this]; exact w7
        obtain ⟨-, -, hm2, hm3⟩ := GC_nt hp0 hNt z
        have bb1 := b.1
        have bb2 := b.2
        rw [FX9_strokeOn_L74, if_neg (by show ¬ i3 10 ≤ i3 k; rw [i3_le (by omega) (by omega)]; omega)]
        have ebt := bt_sh near (k := k) (by omega)
        rw [hv k (by omega)] at ebt
        by_cases hok : lk N (h0 row) k = true ∧ k ∉ row
        · obtain ⟨hk1, hin⟩ := hok
          rw [if_neg (fun q => by have := ebt.mp q; simp [hk1, hin] at this)]
          have hkn := (lk_lt g hk1).2.1
          obtain ⟨a1, a2⟩ := CSt_one g s hC hk1 hin
          obtain ⟨-, a3, a4⟩ := alt_b g s a1
          rw [Wt_C g s hm2 hk1, ob_some, mx_letI, z3_i3 (Wt N (h0 row) k), z3_add, C_partnerOf_y g hm2 hm3 hkn, ob_some]
          cases hlo : lone N k with
          | true =>
            rw [if_pos (of_decide_eq_true hlo), e, J_max (by omega) (by omega) (by omega) (by omega), ob_some, mx_letI, mx_letI, i3_succ]
            have hopn : opn N f (k :: row) false := ⟨a2, Or.inr hlo⟩
            have hall : ∀ G3, v + (Wt N (h0 row) k : Int) ≤ G3 → allc N f (k :: row) G3 := by
              intro G3 hg xs t' v' hx
              -- a lone point is a last one
              cases h : xs.reverse with
              | nil =>
                have : xs = [] := by simpa using h
                subst this
                obtain ⟨u1, u2⟩ := alt_uniq (row := k :: row) hx a1
                refine ⟨fun _ => by rw [u2]; exact hg, fun _ h9 => by rw [u1] at h9; cases h9⟩
              | cons y ys =>
                exfalso
                have hxs : xs = ys.reverse ++ [y] := by
                  have := congrArg List.reverse h
                  simpa using this
                rw [hxs, List.append_assoc] at hx
                obtain ⟨t2, v2, h2⟩ := alt_part (row := y :: k :: row) hx (by simp)
                obtain ⟨u1, u2, u3, u4⟩ := alt_tail h2 (by simp; omega)
                have := (alt_uniq u1 a1).1
                have ht2 : t2 = true := by revert this; cases t2 <;> simp
                rw [ht2] at u3
                have e5 : N (158 + k) = i3 y := of_decide_eq_true u3
                have e6 : N (158 + k) = -1 := of_decide_eq_true hlo
                rw [e6] at e5
                exact m1_ne 10 (by omega) y (by have := (lk_lt g u2).2.1; omega) e5
            by_cases c9 : G2 < v + (Wt N (h0 row) k : Int)
            · rw [if_pos c9]
              exact next _ (v + (Wt N (h0 row) k : Int)) (mx_out_up z rfl ⟨rfl, rfl⟩) (mx_up_self m2.1 38 1 _) ⟨by omega, by omega⟩ (by omega) (Or.inr ⟨f, k :: row, false, _, a1, Or.inl ⟨hopn, rfl⟩⟩) (hall _ (by omega))
            · rw [if_neg c9]
              exact next _ G2 (mx_out_up z rfl ⟨rfl, rfl⟩) (mx_up_self m2.1 38 1 _) b (by omega) cc (hall _ (by omega))
          | false =>
            rw [if_neg (of_decide_eq_false hlo)]
            obtain ⟨q1, q2, q3, q4, q5⟩ := pt_of g s hkn hlo
            obtain ⟨c2, n2⟩ := CSt_two g s hC hk1 hin hlo
            obtain ⟨o1', o2', -, -, -, -, -⟩ := CSt_ok g s c2
            have hle2 := nodup_le o1' o2'
            simp only [List.length_cons] at hle2
            rw [if_neg (by show ¬ i3 left ≤ i3 0; rw [i3_le (by omega) (by omega)]; omega), q1, Wt_C g s hm2 q4, ob_some, z3_i3 (Wt N k (ptq N k)), z3_sub]
            have hst2 : st (ptq N k :: k :: row) = st row := by rw [st_cons _ (by simp), st_cons _ hl1]
            have R := ih (row := ptq N k :: k :: row) (sn := (sn ||| pw k) ||| pw (ptq N k)) (left := left - 1) (m := m2) (G := G2) (by simp only [List.length_cons]; omega) (by simp only [List.length_cons]; omega) (by omega) (GC_nt hp0 hNt z) c2 (fun j hj => by
              rw [bt_or, bt_or, bt_pwk (by omega) hj, bt_pwk (by omega) hj, hb j hj]
              by_cases y1 : j ∈ row <;> by_cases y2 : j = k <;> by_cases y3 : j = ptq N k <;> simp [y1, y2, y3]) e b
            rw [hst2, show h0 (ptq N k :: k :: row) = ptq N k from rfl] at R
            obtain ⟨m4, e4, z4, G4, y1, y2, y3, y4, y5⟩ := R
            rw [show i3 left - 1 = i3 (left - 1) from i3_pred (by omega)]
            show hw (Option.bind (FX9_strokeOn D 38 p0 (i3 (st row)) (i3 (ptq N k)) ((sn ||| pw k) ||| pw (ptq N k)) (z3 (v + (Wt N (h0 row) k : Int) - (Wt N k (ptq N k) : Int))) (i3 (left - 1)) m2) _) _
            rw [e4, ob_some, mx_letI, i3_succ]
            refine next m4 G4 (mx_out.tr z z4) y1 y2 (by omega) ?_ ?_
            · rcases y5 with rfl | y5
              · exact cc
              · exact Or.inr y5
            · intro xs t' v' hx
              cases h : xs.reverse with
              | nil =>
                have : xs = [] := by simpa using h
                subst this
                obtain ⟨u1, u2⟩ := alt_uniq (row := k :: row) hx a1
                subst u1
                refine ⟨fun h8 => ?_, fun _ h9 => by cases h9⟩
                rcases h8.2 with w | w
                · cases w
                · have : lone N k = true := w
                  rw [hlo] at this; cases this
              | cons y ys =>
                have hxs : xs = ys.reverse ++ [y] := by
                  have := congrArg List.reverse h
                  simpa using this
                rw [hxs, List.append_assoc] at hx ⊢
                obtain ⟨t2, v2, h2⟩ := alt_part (row := y :: k :: row) hx (by simp)
                obtain ⟨u1, u2, u3, u4⟩ := alt_tail h2 (by simp; omega)
                have := (alt_uniq u1 a1).1
                have ht2 : t2 = true := by revert this; cases t2 <;> simp
                rw [ht2] at u3
                have e5 : N (158 + k) = i3 y := of_decide_eq_true u3
                have hyl := (lk_lt g u2).2.1
                rw [q1, i3_eq (by omega) (by omega)] at e5
                subst e5
                exact y4 ys.reverse t' v' hx
        · rw [if_pos (ebt.mpr (by
            by_cases y1 : lk N (h0 row) k = true <;> by_cases y2 : k ∈ row <;> simp_all)), mx_letI, i3_succ]
          refine next m2 G2 z e b (by omega) cc (fun xs t' v' hx => ?_)
          exfalso
          have hl3 : 2 ≤ (k :: row).length := by simp; omega
          obtain ⟨t2, v2, h2⟩ := alt_part (row := k :: row) hx hl3
          rcases hC with ⟨p1, rfl, -, -, -, -⟩ | ⟨ha, -⟩
          · exact hok ⟨h2.1, by
              have := (alt_ok g s h2).1
              exact (List.nodup_cons.mp this).1⟩
          · obtain ⟨r9, q9, rest9, e9⟩ := alt_ne ha
            obtain ⟨-, u2, -, u4⟩ := alt_tail h2 (by rw [e9]; simp)
            exact hok ⟨u2, u4⟩
    have own : ∀ G3 : Int, (∀ _ : alt N f row true v, v ≤ G3 ∧ (cls N f row true → clv N row true v ≤ G3)) → ∀ t' v', alt N f row t' v' → (opn N f row t' → v' ≤ G3) ∧ (cls N f row t' → t' = true → clv N row t' v' ≤ G3) := by
      intro G3 h t' v' hx
      rcases hC with ⟨p1, rfl, -, -, -, -⟩ | ⟨ha, -⟩
      · exact hx.elim
      · obtain ⟨u1, u2⟩ := alt_uniq hx ha
        rw [u1, u2]
        exact ⟨fun _ => (h ha).1, fun w _ => (h ha).2 w⟩
    rw [FX9_strokeOn]
    unfold FX9_strokeOn_B
    rw [hG, J_max (by omega) (by omega) (by omega) (by omega), ob_some, mx_letI, seen_bits g hnd hlt hb, ob_some]
    refine hw_letK (fun K hK => ?_)
    have kk : ∀ (m3 : mB) (G3 : Int), mx_out GC m m3 → m3.1 38 1 = z3 G3 → GB N G3 → G ≤ G3 → (G3 = G ∨ CC N G3) → (∀ _ : alt N f row true v, v ≤ G3 ∧ (cls N f row true → clv N row true v ≤ G3)) → hw (K m3) (QC N f row G m) := by
      intro m3 G3 w1 w2 w3 w4 w5 w6
      rw [hK]
      obtain ⟨-, -, hm2, hm3⟩ := GC_nt hp0 hNt w1
      dsimp only
      rw [C_nearTo_y g hm2 hh0, ob_some, mx_letI]
      refine hw_bind (hw_mono (loop m3 G3 w1 w2 w3 w4 w5 (own G3 w6) _ (fun j hj => ?_)) (fun r hr => hw_some hr))
      rw [bt_and, bt_xor, bt_m1 hj, hm2.2.1 _ hh0, hb j hj]
      cases decide (j ∈ row) <;> rfl
    -- the greatest behind the first look
    obtain ⟨Gm, hGm, g1, g2, g3, g4⟩ : ∃ Gm : Int, (if G < v then v else G) = Gm ∧ GB N Gm ∧ G ≤ Gm ∧ (Gm = G ∨ CC N Gm) ∧ v ≤ Gm := by
      by_cases c9 : G < v
      · refine ⟨v, if_pos c9, ⟨by omega, by omega⟩, by omega, Or.inr ?_, by omega⟩
        rcases hC with ⟨p1, -, -, -, -, hv0⟩ | ⟨ha, hf⟩
        · omega
        · exact ⟨f, row, true, v, ha, Or.inl ⟨⟨hf, Or.inl rfl⟩, rfl⟩⟩
      · exact ⟨G, if_neg c9, hGB, by omega, Or.inl rfl, by omega⟩
    rw [hGm]
    have zm : mx_out GC m (mx_up m.1 38 1 (z3 Gm), m.2) := mx_out_up mx_out.rf rfl ⟨rfl, rfl⟩
    have em : (mx_up m.1 38 1 (z3 Gm), m.2).1 38 1 = z3 Gm := mx_up_self m.1 38 1 _
    obtain ⟨-, -, hm2, hm3⟩ := GC_nt hp0 hNt zm
    have gb1 := g1.1
    have gb2 := g1.2
    have same : (∀ _ : alt N f row true v, ¬ cls N f row true) → hw (K (mx_up m.1 38 1 (z3 Gm), m.2)) (QC N f row G m) := fun hno => kk _ Gm zm em g1 g2 g3 (fun ha => ⟨g4, fun w => absurd w (hno ha)⟩)
    by_cases c1 : row.length < 4
    · rw [if_pos ((i3_ltL (by omega) (by decide)).mpr c1)]
      exact same (fun _ w => by have := w.2.2.1; omega)
    · rw [if_neg (fun q => c1 ((i3_ltL (by omega) (by decide)).mp q)), C_isLone_y g hm2 hm3 hst, ob_some]
      by_cases c2 : N (158 + st row) = -1
      · rw [if_neg (by rw [b2_0]; simp [c2])]
        refine same (fun ha w => ?_)
        obtain ⟨xs, q, p, -, e2, e3, e4, -⟩ := alt_first ha
        have hf : f = true := w.2.2.2
        rw [hf] at e2
        have e5 : N (158 + p) = i3 q := of_decide_eq_true e2
        rw [← e4, c2] at e5
        exact m1_ne 10 (by omega) q (by have := (lk_lt g e3).2.1; omega) e5
      · rw [if_pos (by rw [b2_0]; simp [c2]), C_areLinked g hm2 (by omega) (by omega), ob_some]
        cases hk : lk N (h0 row) (st row) with
        | false =>
          rw [if_pos (show b2 false = 0 from rfl)]
          exact same (fun _ w => by rw [w.1] at hk; cases hk)
        | true =>
          rw [if_neg (show ¬ b2 true = 0 from by decide), Wt_C g s hm2 hk, ob_some, z3_i3 (Wt N (h0 row) (st row)), z3_add]
          show hw (Option.bind (FJ9_max_7cf53 (mx_up m.1 38 1 (z3 Gm) 38 1) (z3 (v + (Wt N (h0 row) (st row) : Int))) (mx_up m.1 38 1 (z3 Gm), m.2)) _) _
          have hWl := Wt_le g s (h0 row) (st row)
          rw [mx_up_self, J_max (by omega) (by omega) (by omega) (by omega), ob_some, mx_letI]
          rcases hC with ⟨p1, rfl, -, -, -, -⟩ | ⟨ha, hf⟩
          · simp at c1
          · have hft : f = true := by
              rcases hf with w | w
              · exact w
              · exact absurd (of_decide_eq_true w) c2
            have hclv : v + (Wt N (h0 row) (st row) : Int) = clv N row true v := rfl
            have hcls : cls N f row true := by
              refine ⟨hk, ?_, by omega, hft⟩
              show pa N (h0 row) (st row) = false
              cases e : pa N (h0 row) (st row) with
              | false => rfl
              | true =>
                exfalso
                rw [pa_comm g s hh0 hst] at e
                have e1 : N (158 + st row) = i3 (h0 row) := of_decide_eq_true e
                obtain ⟨xs, q, p, e0, e2, e3, e4, -⟩ := alt_first ha
                rw [hft] at e2
                have e5 : N (158 + p) = i3 q := of_decide_eq_true e2
                have hql := (lk_lt g e3).2.1
                rw [← e4, e1, i3_eq (by omega) (by omega)] at e5
                rw [e0] at hnd e5 c1
                cases xs with
                | nil => simp at c1
                | cons y ys =>
                  have e6 : h0 (y :: ys ++ [q, p]) = y := rfl
                  rw [e6] at e5
                  rw [List.cons_append, List.nodup_cons] at hnd
                  exact hnd.1 (by rw [e5]; simp)
            by_cases c9 : Gm < v + (Wt N (h0 row) (st row) : Int)
            · rw [if_pos c9]
              exact kk _ (v + (Wt N (h0 row) (st row) : Int)) (mx_out_up zm rfl ⟨rfl, rfl⟩) (mx_up_self (mx_up m.1 38 1 (z3 Gm)) 38 1 _) ⟨by omega, by omega⟩ (by omega) (Or.inr ⟨f, row, true, v, ha, Or.inr ⟨hcls, rfl, hclv⟩⟩) (fun _ => ⟨by omega, fun _ => by omega⟩)
            · rw [if_neg c9]
              exact kk _ Gm (mx_out_up zm rfl ⟨rfl, rfl⟩) (mx_up_self (mx_up m.1 38 1 (z3 Gm)) 38 1 _) g1 g2 g3 (fun _ => ⟨g4, fun _ => by omega⟩)
end STRD
