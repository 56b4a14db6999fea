/-! ===== the reference's search ===== -/
def ways (d : mB) (row : List Nat) : Prop := ∀ i, i < row.length → d.1 235 i = i3 (row.getD i 0)
def WY : Nat → Nat → Prop := fun b _ => b = 235
def WQ (N : Rw) (closed : Bool) (n : Nat) (row : List Nat) (d : mB) : Int32 × mB → Prop := fun r => mx_out WY d r.2 ∧ match ext N closed n row with
  | some row' => r.1 = 1 ∧ ways r.2 row'
  | none => r.1 = 0 ∧ ways r.2 row
theorem fs_none {α : Type} {F : Nat → Option α} : ∀ {n : Nat}, (∀ p, p < n → F p = none) → fs F n = none := by
  intro n
  induction n with
  | zero => intro _; rfl
  | succ n ih => intro h; rw [fs_step (ih (fun p hp => h p (by omega)))]; exact h n (by omega)
theorem fs_one {α : Type} {F : Nat → Option α} {k n : Nat} (h : ∀ p, p < n → p ≠ k → F p = none) (hk : k < n) : fs F n = F k := by
  rw [fs_more (n := k + 1) (by omega) (fun p h1 h2 => h p h2 (by omega)), fs_step (fs_none (fun p hp => h p (by omega) (by omega)))]
theorem ways_set {m : mB} {row : List Nat} (h : ways m row) (p : Nat) : ways (mx_up m.1 235 row.length (i3 p), m.2) (row ++ [p]) := by
  intro i hi
  show mx_up m.1 235 row.length (i3 p) 235 i = _
  rw [up_at, gd_app1]
  by_cases e : i = row.length
  · rw [if_pos e, if_neg (by omega), if_pos e]
  · rw [List.length_append] at hi
    simp only [List.length_cons, List.length_nil] at hi
    rw [if_neg e, if_pos (by omega)]
    exact h i (by omega)
theorem ways_sub {m : mB} {row l : List Nat} (h : ways m (row ++ l)) : ways m row := by
  intro i hi
  rw [h i (by rw [List.length_append]; omega), List.getD_eq_getElem?_getD, List.getD_eq_getElem?_getD, List.getElem?_append_left hi]
theorem WYtr {c m m1 : mB} (h : mx_out WY c m) (h1 : mx_out WY m m1) : mx_out WY c m1 := mx_out.tr h h1
theorem WY_row {d m : mB} {N : Rw} (h : d.1 224 = N) (z : mx_out WY d m) : m.1 224 = N := by rw [z.cell 224 (fun j => by unfold WY; omega)]; exact h
/-- the one way on from a point to its partner -/
def Gx (N : Rw) (closed : Bool) (n : Nat) (row : List Nat) : Nat → Option (List Nat) := fun q => if (decide (N (158 + ls row) = i3 q) && !row.contains q) = true then ext N closed n (row ++ [q]) else none
def ev (N : Rw) (closed : Bool) (n : Nat) (row : List Nat) : Option (List Nat) := if (!lone N (ls row) && !row.contains (ptq N (ls row))) = true then ext N closed n (row ++ [ptq N (ls row)]) else none
theorem Gx_ev {N : Rw} (g : GI N) (s : SI N) {closed : Bool} {n : Nat} {row : List Nat} (hp : ls row < nP N) : fs (Gx N closed n row) (nP N) = ev N closed n row := by
  have hn := g.1.2
  unfold ev
  cases hl : lone N (ls row) with
  | true =>
    rw [if_neg (by simp)]
    refine fs_none (fun q hq => ?_)
    unfold Gx
    have e : N (158 + ls row) = -1 := of_decide_eq_true hl
    have : ¬ N (158 + ls row) = i3 q := fun z => by
      rw [e] at z
      exact m1_ne 10 (by omega) q (by omega) z
    simp [this]
  | false =>
    obtain ⟨q1, q2, q3, q4, q5⟩ := pt_of g s hp hl
    rw [fs_one (k := ptq N (ls row)) (fun q hq hne => ?_) q2]
    · unfold Gx
      simp [← q1]
    · unfold Gx
      have : ¬ N (158 + ls row) = i3 q := fun z => by
        rw [q1, i3_eq (by omega) (by omega)] at z
        exact hne z.symm
      simp [this]
section GOES
variable {c d : mB} {N : Rw}
theorem M_evenP (g : GI N) (s : SI N) {rec : Nat → Int32 → Int32 → Int32 → mB → Option (Int32 × mB)} {n many : Nat} {row : List Nat} {us : Int32}
    (hrec : ∀ {q : Nat} {d' : mB} {us' : Int32}, q < nP N → N (158 + ls row) = i3 q → q ∉ row → d'.1 224 = N → ways d' (row ++ [q]) → (∀ j, j < 32 → bt us' j = decide (j ∈ row ++ [q])) → hw (rec 222 (i3 (row.length + 1)) (i3 many) us' d') (WQ N false n (row ++ [q]) d'))
    (h : d.1 224 = N) (hW : ways d row) (he : row.length % 2 = 0) (h1 : 1 ≤ row.length) (hl : row.length < 10) (hm : row.length < many) (hm2 : many ≤ 10) (hp : ls row < nP N) (hb : ∀ j, j < 32 → bt us j = decide (j ∈ row)) :
    hw (FX12_goesOn_B rec 222 (i3 row.length) (i3 many) us d) (fun r => mx_out WY d r.2 ∧ match ev N false n row with
      | some row' => r.1 = 1 ∧ ways r.2 row'
      | none => r.1 = 0 ∧ ways r.2 row) := by
  have hn := g.1.2
  have ew : d.1 235 (row.length - 1) = i3 (ls row) := hW _ (by omega)
  unfold FX12_goesOn_B
  rw [i3_pred h1]
  simp (disch := omega) only [Nat.reduceAdd, ew, ob_some, mx_letI, mx_chkT, mx_inb_i3, mx_inb_lit, lit_toNat, i3_toNat, i3_le, i3_lt, i3_leL, i3_Lle, i3_ltL, i3_Llt, i3_neg, i3_eq, i3_eqL, i3_ne1, i3_add, i3_addL, i3_Ladd, i3_mul, i3_mulL, i3_Lmul, mx_b01_0, mx_b01_1, b2_01, b2_0, b2_1, se_inl, se_inr, if_true, if_false, e10, e01, e00, e11, em1, em1lt, Nat.not_lt_zero]
  rw [if_neg (by omega)]
  rw [← Gx_ev g s hp]
  have key : hw (FX12_goesOn_L25 rec 222 (i3 row.length) (i3 many) us (i3 (ls row)) mx_FU (i3 0) d) (fun q => match q with
      | .inl rr => mx_out WY d rr.2 ∧ rr.1 = 1 ∧ ∃ row', fs (Gx N false n row) (nP N) = some row' ∧ ways rr.2 row'
      | .inr m => mx_out WY d m ∧ fs (Gx N false n row) (nP N) = none ∧ ways m row) := by
    refine lp_inv (L := fun fu y m => FX12_goesOn_L25 rec 222 (i3 row.length) (i3 many) us (i3 (ls row)) fu y m) (n := nP N) (fun q m => mx_out WY d m ∧ ways m row ∧ fs (Gx N false n row) q = none) ?_ ?_ 0 mx_FU d (by omega) (FU_lt (by omega)) ⟨mx_out.rf, hW, rfl⟩
    · intro fu m hm
      show hw (FX12_goesOn_L25 rec 222 (i3 row.length) (i3 many) us (i3 (ls row)) (fu + 1) (i3 (nP N)) m) _
      rw [FX12_goesOn_L25]
      simp (disch := omega) only [Nat.reduceAdd, WY_row h hm.1, N0 g, Nat.le_refl, ob_some, mx_letI, mx_chkT, mx_inb_i3, mx_inb_lit, lit_toNat, i3_toNat, i3_le, i3_lt, i3_leL, i3_Lle, i3_ltL, i3_Llt, i3_neg, i3_eq, i3_eqL, i3_ne1, i3_add, i3_addL, i3_Ladd, i3_mul, i3_mulL, i3_Lmul, mx_b01_0, mx_b01_1, b2_01, b2_0, b2_1, se_inl, se_inr, if_true, if_false, e10, e01, e00, e11, em1, em1lt, Nat.not_lt_zero, if_pos, if_neg]
      exact hw_some ⟨hm.1, hm.2.2, hm.2.1⟩
    · intro fu q m hq hm hs
      show hw (FX12_goesOn_L25 rec 222 (i3 row.length) (i3 many) us (i3 (ls row)) (fu + 1) (i3 q) m) _
      obtain ⟨z, hWm, hf⟩ := hm
      have hNm := WY_row h z
      have next : Gx N false n row q = none → ∀ m', mx_out WY d m' → ways m' row → hw (FX12_goesOn_L25 rec 222 (i3 row.length) (i3 many) us (i3 (ls row)) fu (i3 (q + 1)) m') _ := fun e m' z' r' => hs m' ⟨z', r', by rw [fs_step hf]; exact e⟩
      rw [FX12_goesOn_L25]
      simp (disch := omega) only [Nat.reduceAdd, hNm, N0 g, M_has, hb q (by omega), M_areLinked g hNm, M_arePaired_y g hNm hp, even_i3, ob_some, mx_letI, mx_chkT, mx_inb_i3, mx_inb_lit, lit_toNat, i3_toNat, i3_le, i3_lt, i3_leL, i3_Lle, i3_ltL, i3_Llt, i3_neg, i3_eq, i3_eqL, i3_ne1, i3_add, i3_addL, i3_Ladd, i3_mul, i3_mulL, i3_Lmul, mx_b01_0, mx_b01_1, b2_01, b2_0, b2_1, se_inl, se_inr, if_true, if_false, e10, e01, e00, e11, em1, em1lt, Nat.not_lt_zero]
      rw [if_neg (by omega)]
      by_cases hin : q ∈ row
      · rw [if_neg (by simp [hin])]
        exact next (by unfold Gx; simp [hin]) m z hWm
      · rw [if_pos (by simp [hin])]
        by_cases hpr : N (158 + ls row) = i3 q
        · have hk : lk N (ls row) q = true := by
            rcases prt s hp with w | ⟨w, w1, w2, w3, w4⟩
            · rw [hpr] at w
              have := i3_ne1 (a := q) (by omega)
              rw [w] at this
              simp at this
            · rw [hpr, i3_eq (by omega) (by omega)] at w2
              rw [w2]; exact w4
          rw [if_neg (by rw [hk]; decide), if_pos he, if_pos (by simp [hpr])]
          have hW2 := ways_set hWm q
          have z2 : mx_out WY d (mx_up m.1 235 row.length (i3 q), m.2) := mx_out_up z rfl rfl
          obtain ⟨⟨v, m3⟩, eR, z3, R2⟩ := hrec (d' := (mx_up m.1 235 row.length (i3 q), m.2)) (us' := us ||| pw q) hq hpr hin (WY_row h z2) hW2 (fun j hj => by
            rw [bt_or, bt_pwk (by omega) hj, hb j hj]
            by_cases w1 : j ∈ row <;> by_cases w2 : j = q <;> simp [w1, w2])
          show hw (Option.bind (rec 222 (i3 (row.length + 1)) (i3 many) (us ||| pw q) (mx_up m.1 235 row.length (i3 q), m.2)) _) _
          rw [eR, ob_some]
          have eG : Gx N false n row q = ext N false n (row ++ [q]) := by unfold Gx; rw [if_pos (by simp [hpr, hin])]
          cases hE : ext N false n (row ++ [q]) with
          | some row' =>
            rw [hE] at R2
            obtain ⟨rfl, R3⟩ := R2
            rw [if_neg n10]
            exact hw_some ⟨WYtr z2 z3, rfl, row', fs_hit hf (by rw [eG, hE]) hq, R3⟩
          | none =>
            rw [hE] at R2
            obtain ⟨rfl, R3⟩ := R2
            rw [if_pos rfl]
            exact next (by rw [eG, hE]) m3 (WYtr z2 z3) (ways_sub R3)
        · cases hk : lk N (ls row) q with
          | false =>
            rw [if_pos rfl]
            exact next (by unfold Gx; simp [hpr]) m z hWm
          | true =>
            rw [if_neg (by decide), if_pos he, if_neg (by simp [hpr])]
            exact next (by unfold Gx; simp [hpr]) m z hWm
  refine hw_bind (hw_mono key (fun q hq => ?_))
  cases q with
  | inl rr =>
    obtain ⟨z, e, row', he, hr⟩ := hq
    exact hw_some ⟨z, by rw [he]; exact ⟨e, hr⟩⟩
  | inr m =>
    obtain ⟨z, he, hr⟩ := hq
    exact hw_some ⟨z, by rw [he]; exact ⟨rfl, hr⟩⟩
theorem Fx_ev0 (N : Rw) (row : List Nat) (p : Nat) : Fx N false 0 row p = if (lk N (ls row) p && !row.contains p) = true then (if lone N p = true then some (row ++ [p]) else none) else none := by
  unfold Fx
  dsimp only
  cases lk N (ls row) p <;> cases row.contains p <;> cases lone N p <;> rfl
theorem Fx_ev {N : Rw} (g : GI N) (s : SI N) (closed : Bool) (n : Nat) (row : List Nat) (p : Nat) : Fx N closed (n + 1) row p = if (lk N (ls row) p && !row.contains p) = true then ev N closed n (row ++ [p]) else none := by
  unfold Fx ev
  dsimp only
  rw [ls_app]
  cases hk : lk N (ls row) p with
  | false => rfl
  | true =>
    cases hl : lone N p with
    | true => simp
    | false =>
      obtain ⟨q1, q2, q3, q4, q5⟩ := pt_of g s (lk_lt g hk).2.1 hl
      by_cases h1 : p ∈ row <;> by_cases h2 : ptq N p ∈ row <;> simp [h1, h2, q3]
theorem M_goesOn (g : GI N) (s : SI N) : ∀ (n D : Nat) {row : List Nat} {d : mB} {us : Int32}, 2 * n + 1 < D → d.1 224 = N → ways d row → row.length % 2 = 1 → row.length + 2 * n + 1 ≤ 10 → (∀ x ∈ row, x < nP N) → (∀ j, j < 32 → bt us j = decide (j ∈ row)) → (lone N (ls row) = true ∨ ptq N (ls row) ∈ row) → hw (FX12_goesOn D 222 (i3 row.length) (i3 (row.length + 2 * n + 1)) us d) (WQ N false n row d) := by
  have hn := g.1.2
  intro n
  induction n with
  | zero =>
    intro D row d us hD h hW ho hl hx hb hlo
    obtain ⟨D, rfl⟩ : ∃ E, D = E + 1 + 1 := ⟨D - 2, by omega⟩
    have h1 : 1 ≤ row.length := by omega
    have hls := hx _ (ls_mem h1)
    have ew : d.1 235 (row.length - 1) = i3 (ls row) := hW _ (by omega)
    rw [FX12_goesOn]
    unfold FX12_goesOn_B WQ
    rw [i3_pred h1, ext_fs (by decide)]
    simp (disch := omega) only [Nat.reduceAdd, ew, ob_some, mx_letI, mx_chkT, mx_inb_i3, mx_inb_lit, lit_toNat, i3_toNat, i3_le, i3_lt, i3_leL, i3_Lle, i3_ltL, i3_Llt, i3_neg, i3_eq, i3_eqL, i3_ne1, i3_add, i3_addL, i3_Ladd, i3_mul, i3_mulL, i3_Lmul, mx_b01_0, mx_b01_1, b2_01, b2_0, b2_1, se_inl, se_inr, if_true, if_false, e10, e01, e00, e11, em1, em1lt, Nat.not_lt_zero]
    rw [if_neg (by omega)]
    have key : hw (FX12_goesOn_L25 (FX12_goesOn (D + 1)) 222 (i3 row.length) (i3 (row.length + 2 * 0 + 1)) us (i3 (ls row)) mx_FU (i3 0) d) (fun q => match q with
        | .inl rr => mx_out WY d rr.2 ∧ rr.1 = 1 ∧ ∃ row', fs (Fx N false 0 row) (nP N) = some row' ∧ ways rr.2 row'
        | .inr m => mx_out WY d m ∧ fs (Fx N false 0 row) (nP N) = none ∧ ways m row) := by
      refine lp_inv (L := fun fu y m => FX12_goesOn_L25 (FX12_goesOn (D + 1)) 222 (i3 row.length) (i3 (row.length + 2 * 0 + 1)) us (i3 (ls row)) fu y m) (n := nP N) (fun q m => mx_out WY d m ∧ ways m row ∧ fs (Fx N false 0 row) q = none) ?_ ?_ 0 mx_FU d (by omega) (FU_lt (by omega)) ⟨mx_out.rf, hW, rfl⟩
      · intro fu m hm
        show hw (FX12_goesOn_L25 (FX12_goesOn (D + 1)) 222 (i3 row.length) (i3 (row.length + 2 * 0 + 1)) us (i3 (ls row)) (fu + 1) (i3 (nP N)) m) _
        rw [FX12_goesOn_L25]
        simp (disch := omega) only [Nat.reduceAdd, WY_row h hm.1, N0 g, Nat.le_refl, ob_some, mx_letI, mx_chkT, mx_inb_i3, mx_inb_lit, lit_toNat, i3_toNat, i3_le, i3_lt, i3_leL, i3_Lle, i3_ltL, i3_Llt, i3_neg, i3_eq, i3_eqL, i3_ne1, i3_add, i3_addL, i3_Ladd, i3_mul, i3_mulL, i3_Lmul, mx_b01_0, mx_b01_1, b2_01, b2_0, b2_1, se_inl, se_inr, if_true, if_false, e10, e01, e00, e11, em1, em1lt, Nat.not_lt_zero, if_pos, if_neg]
        exact hw_some ⟨hm.1, hm.2.2, hm.2.1⟩
      · intro fu q m hq hm hs
        show hw (FX12_goesOn_L25 (FX12_goesOn (D + 1)) 222 (i3 row.length) (i3 (row.length + 2 * 0 + 1)) us (i3 (ls row)) (fu + 1) (i3 q) m) _
        obtain ⟨z, hWm, hf⟩ := hm
        have hNm := WY_row h z
        have next : Fx N false 0 row q = none → ∀ m', mx_out WY d m' → ways m' row → hw (FX12_goesOn_L25 (FX12_goesOn (D + 1)) 222 (i3 row.length) (i3 (row.length + 2 * 0 + 1)) us (i3 (ls row)) fu (i3 (q + 1)) m') _ := fun e m' z' r' => hs m' ⟨z', r', by rw [fs_step hf]; exact e⟩
        rw [FX12_goesOn_L25]
        simp (disch := omega) only [Nat.reduceAdd, hNm, N0 g, M_has, hb q (by omega), M_areLinked g hNm, M_arePaired_y g hNm hls, even_i3, ob_some, mx_letI, mx_chkT, mx_inb_i3, mx_inb_lit, lit_toNat, i3_toNat, i3_le, i3_lt, i3_leL, i3_Lle, i3_ltL, i3_Llt, i3_neg, i3_eq, i3_eqL, i3_ne1, i3_add, i3_addL, i3_Ladd, i3_mul, i3_mulL, i3_Lmul, mx_b01_0, mx_b01_1, b2_01, b2_0, b2_1, se_inl, se_inr, if_true, if_false, e10, e01, e00, e11, em1, em1lt, Nat.not_lt_zero]
        rw [if_neg (by omega)]
        by_cases hin : q ∈ row
        · rw [if_neg (by simp [hin])]
          exact next (by rw [Fx_ev0]; simp [hin]) m z hWm
        · rw [if_pos (by simp [hin])]
          cases hk : lk N (ls row) q with
          | false =>
            rw [if_pos rfl]
            exact next (by rw [Fx_ev0]; simp [hk]) m z hWm
          | true =>
            have hpr : ¬ N (158 + ls row) = i3 q := fun e => by
              rcases hlo with w | w
              · have w2 : N (158 + ls row) = -1 := of_decide_eq_true w
                rw [e] at w2
                have := i3_ne1 (a := q) (by omega)
                rw [w2] at this
                simp at this
              · have : ptq N (ls row) = q := by unfold ptq; rw [e, i3_toNat (by omega)]
                rw [this] at w
                exact hin w
            rw [if_neg (by decide), if_neg (by omega), if_pos (by simp [hpr])]
            have hW2 := ways_set hWm q
            have z2 : mx_out WY d (mx_up m.1 235 row.length (i3 q), m.2) := mx_out_up z rfl rfl
            have hN2 := WY_row h z2
            have eR : FX12_goesOn (D + 1) 222 (i3 (row.length + 1)) (i3 (row.length + 2 * 0 + 1)) (us ||| pw q) (mx_up m.1 235 row.length (i3 q), m.2) = some (b2 (lone N q), (mx_up m.1 235 row.length (i3 q), m.2)) := by
              rw [FX12_goesOn]
              unfold FX12_goesOn_B
              rw [i3_m1]
              simp (disch := omega) only [Nat.reduceAdd, mx_up_self, M_isLone_y g hN2 hq, Nat.mul_zero, Nat.add_zero, ob_some, mx_letI, mx_chkT, mx_inb_i3, mx_inb_lit, lit_toNat, i3_toNat, i3_le, i3_lt, i3_leL, i3_Lle, i3_ltL, i3_Llt, i3_neg, i3_eq, i3_eqL, i3_ne1, i3_add, i3_addL, i3_Ladd, i3_mul, i3_mulL, i3_Lmul, mx_b01_0, mx_b01_1, b2_01, b2_0, b2_1, se_inl, se_inr, if_true, if_false, e10, e01, e00, e11, em1, em1lt, Nat.not_lt_zero]
            show hw (Option.bind (FX12_goesOn (D + 1) 222 (i3 (row.length + 1)) (i3 (row.length + 2 * 0 + 1)) (us ||| pw q) (mx_up m.1 235 row.length (i3 q), m.2)) _) _
            rw [eR, ob_some]
            cases hlq : lone N q with
            | true =>
              rw [if_neg (show ¬ b2 true = 0 from by decide)]
              exact hw_some ⟨z2, rfl, row ++ [q], fs_hit hf (by rw [Fx_ev0]; simp [hk, hin, hlq]) hq, hW2⟩
            | false =>
              rw [if_pos (show b2 false = 0 from rfl)]
              exact next (by rw [Fx_ev0]; simp [hlq]) _ z2 (ways_sub hW2)
    have hmore : fs (Fx N false 0 row) 10 = fs (Fx N false 0 row) (nP N) := fs_more hn (fun p h1 h2 => by
      rw [Fx_ev0]
      cases e : lk N (ls row) p with
      | false => rfl
      | true => have := (lk_lt g e).2.1; omega)
    rw [hmore]
    refine hw_bind (hw_mono key (fun q hq => ?_))
    cases q with
    | inl rr =>
      obtain ⟨z, e, row', he, hr⟩ := hq
      exact hw_some ⟨z, by rw [he]; exact ⟨e, hr⟩⟩
    | inr m =>
      obtain ⟨z, he, hr⟩ := hq
      exact hw_some ⟨z, by rw [he]; exact ⟨rfl, hr⟩⟩
  | succ n ih =>
    intro D row d us hD h hW ho hl hx hb hlo
    obtain ⟨D, rfl⟩ : ∃ E, D = E + 1 + 1 := ⟨D - 2, by omega⟩
    have h1 : 1 ≤ row.length := by omega
    have hls := hx _ (ls_mem h1)
    have ew : d.1 235 (row.length - 1) = i3 (ls row) := hW _ (by omega)
    rw [FX12_goesOn]
    unfold FX12_goesOn_B WQ
    rw [i3_pred h1, ext_fs (fun q => by omega)]
    simp (disch := omega) only [Nat.reduceAdd, ew, ob_some, mx_letI, mx_chkT, mx_inb_i3, mx_inb_lit, lit_toNat, i3_toNat, i3_le, i3_lt, i3_leL, i3_Lle, i3_ltL, i3_Llt, i3_neg, i3_eq, i3_eqL, i3_ne1, i3_add, i3_addL, i3_Ladd, i3_mul, i3_mulL, i3_Lmul, mx_b01_0, mx_b01_1, b2_01, b2_0, b2_1, se_inl, se_inr, if_true, if_false, e10, e01, e00, e11, em1, em1lt, Nat.not_lt_zero]
    rw [if_neg (by omega)]
    have key : hw (FX12_goesOn_L25 (FX12_goesOn (D + 1)) 222 (i3 row.length) (i3 (row.length + 2 * (n + 1) + 1)) us (i3 (ls row)) mx_FU (i3 0) d) (fun q => match q with
        | .inl rr => mx_out WY d rr.2 ∧ rr.1 = 1 ∧ ∃ row', fs (Fx N false (n + 1) row) (nP N) = some row' ∧ ways rr.2 row'
        | .inr m => mx_out WY d m ∧ fs (Fx N false (n + 1) row) (nP N) = none ∧ ways m row) := by
      refine lp_inv (L := fun fu y m => FX12_goesOn_L25 (FX12_goesOn (D + 1)) 222 (i3 row.length) (i3 (row.length + 2 * (n + 1) + 1)) us (i3 (ls row)) fu y m) (n := nP N) (fun q m => mx_out WY d m ∧ ways m row ∧ fs (Fx N false (n + 1) row) q = none) ?_ ?_ 0 mx_FU d (by omega) (FU_lt (by omega)) ⟨mx_out.rf, hW, rfl⟩
      · intro fu m hm
        show hw (FX12_goesOn_L25 (FX12_goesOn (D + 1)) 222 (i3 row.length) (i3 (row.length + 2 * (n + 1) + 1)) us (i3 (ls row)) (fu + 1) (i3 (nP N)) m) _
        rw [FX12_goesOn_L25]
        simp (disch := omega) only [Nat.reduceAdd, WY_row h hm.1, N0 g, Nat.le_refl, ob_some, mx_letI, mx_chkT, mx_inb_i3, mx_inb_lit, lit_toNat, i3_toNat, i3_le, i3_lt, i3_leL, i3_Lle, i3_ltL, i3_Llt, i3_neg, i3_eq, i3_eqL, i3_ne1, i3_add, i3_addL, i3_Ladd, i3_mul, i3_mulL, i3_Lmul, mx_b01_0, mx_b01_1, b2_01, b2_0, b2_1, se_inl, se_inr, if_true, if_false, e10, e01, e00, e11, em1, em1lt, Nat.not_lt_zero, if_pos, if_neg]
        exact hw_some ⟨hm.1, hm.2.2, hm.2.1⟩
      · intro fu q m hq hm hs
        show hw (FX12_goesOn_L25 (FX12_goesOn (D + 1)) 222 (i3 row.length) (i3 (row.length + 2 * (n + 1) + 1)) us (i3 (ls row)) (fu + 1) (i3 q) m) _
        obtain ⟨z, hWm, hf⟩ := hm
        have hNm := WY_row h z
        have next : Fx N false (n + 1) row q = none → ∀ m', mx_out WY d m' → ways m' row → hw (FX12_goesOn_L25 (FX12_goesOn (D + 1)) 222 (i3 row.length) (i3 (row.length + 2 * (n + 1) + 1)) us (i3 (ls row)) fu (i3 (q + 1)) m') _ := fun e m' z' r' => hs m' ⟨z', r', by rw [fs_step hf]; exact e⟩
        rw [FX12_goesOn_L25]
        simp (disch := omega) only [Nat.reduceAdd, hNm, N0 g, M_has, hb q (by omega), M_areLinked g hNm, M_arePaired_y g hNm hls, even_i3, ob_some, mx_letI, mx_chkT, mx_inb_i3, mx_inb_lit, lit_toNat, i3_toNat, i3_le, i3_lt, i3_leL, i3_Lle, i3_ltL, i3_Llt, i3_neg, i3_eq, i3_eqL, i3_ne1, i3_add, i3_addL, i3_Ladd, i3_mul, i3_mulL, i3_Lmul, mx_b01_0, mx_b01_1, b2_01, b2_0, b2_1, se_inl, se_inr, if_true, if_false, e10, e01, e00, e11, em1, em1lt, Nat.not_lt_zero]
        rw [if_neg (by omega)]
        by_cases hin : q ∈ row
        · rw [if_neg (by simp [hin])]
          exact next (by rw [Fx_ev g s]; simp [hin]) m z hWm
        · rw [if_pos (by simp [hin])]
          cases hk : lk N (ls row) q with
          | false =>
            rw [if_pos rfl]
            exact next (by rw [Fx_ev g s]; simp [hk]) m z hWm
          | true =>
            have hpr : ¬ N (158 + ls row) = i3 q := fun e => by
              rcases hlo with w | w
              · have w2 : N (158 + ls row) = -1 := of_decide_eq_true w
                rw [e] at w2
                have := i3_ne1 (a := q) (by omega)
                rw [w2] at this
                simp at this
              · have : ptq N (ls row) = q := by unfold ptq; rw [e, i3_toNat (by omega)]
                rw [this] at w
                exact hin w
            rw [if_neg (by decide), if_neg (by omega), if_pos (by simp [hpr])]
            have hW2 := ways_set hWm q
            have z2 : mx_out WY d (mx_up m.1 235 row.length (i3 q), m.2) := mx_out_up z rfl rfl
            have hN2 := WY_row h z2
            have hlen : (row ++ [q]).length = row.length + 1 := by rw [List.length_append]; rfl
            have hb2 : ∀ j, j < 32 → bt (us ||| pw q) j = decide (j ∈ row ++ [q]) := fun j hj => by
              rw [bt_or, bt_pwk (by omega) hj, hb j hj]
              by_cases w1 : j ∈ row <;> by_cases w2 : j = q <;> simp [w1, w2]
            have eF := Fx_ev g s false n row q
            rw [if_pos (by simp [hk, hin])] at eF
            have R := M_evenP (d := (mx_up m.1 235 row.length (i3 q), m.2)) g s (rec := FX12_goesOn D) (n := n) (many := row.length + 2 * (n + 1) + 1) (row := row ++ [q]) (us := us ||| pw q)
              (fun {q'} {d'} {us'} w1 w2 w3 w4 w5 w6 => by
                have e1 : ls (row ++ [q] ++ [q']) = q' := ls_app _ _
                have := ih D (row := row ++ [q] ++ [q']) (d := d') (us := us') (by omega) w4 w5 (by rw [List.length_append, hlen]; simp; omega) (by rw [List.length_append, hlen]; simp; omega)
                  (fun x hx2 => by
                    simp only [List.mem_append, List.mem_singleton] at hx2
                    rcases hx2 with (y | y) | y
                    · exact hx x y
                    · rw [y]; exact hq
                    · rw [y]; exact w1)
                  w6 (Or.inr (by
                    rw [e1]
                    have e2 : N (158 + q') = i3 q := by
                      rw [ls_app] at w2
                      rcases prt s hq with y | ⟨y, y1, y2, y3, y4⟩
                      · rw [w2] at y
                        have := i3_ne1 (a := q') (by omega)
                        rw [y] at this
                        simp at this
                      · rw [w2, i3_eq (by omega) (by omega)] at y2
                        rw [y2]; exact y3
                    have e3 : ptq N q' = q := by unfold ptq; rw [e2, i3_toNat (by omega)]
                    rw [e3]; simp))
                rw [List.length_append, hlen, show row.length + 1 + [q'].length + 2 * n + 1 = row.length + 2 * (n + 1) + 1 by simp; omega] at this
                rw [hlen]
                exact this)
              hN2 hW2 (by rw [hlen]; omega) (by rw [hlen]; omega) (by rw [hlen]; omega) (by rw [hlen]; omega) (by omega) (by rw [ls_app]; exact hq) hb2
            rw [hlen] at R
            obtain ⟨⟨v, m3⟩, eR, z3, R2⟩ := R
            show hw (Option.bind (FX12_goesOn (D + 1) 222 (i3 (row.length + 1)) (i3 (row.length + 2 * (n + 1) + 1)) (us ||| pw q) (mx_up m.1 235 row.length (i3 q), m.2)) _) _
            rw [FX12_goesOn, eR, ob_some]
            cases hE : ev N false n (row ++ [q]) with
            | some row' =>
              rw [hE] at R2
              obtain ⟨rfl, R3⟩ := R2
              rw [if_neg n10]
              exact hw_some ⟨WYtr z2 z3, rfl, row', fs_hit hf (by rw [eF, hE]) hq, R3⟩
            | none =>
              rw [hE] at R2
              obtain ⟨rfl, R3⟩ := R2
              rw [if_pos rfl]
              exact next (by rw [eF, hE]) m3 (WYtr z2 z3) (ways_sub R3)
    have hmore : fs (Fx N false (n + 1) row) 10 = fs (Fx N false (n + 1) row) (nP N) := fs_more hn (fun p h1 h2 => by
      rw [Fx_ev g s]
      cases e : lk N (ls row) p with
      | false => rfl
      | true => have := (lk_lt g e).2.1; omega)
    rw [hmore]
    refine hw_bind (hw_mono key (fun q hq => ?_))
    cases q with
    | inl rr =>
      obtain ⟨z, e, row', he, hr⟩ := hq
      exact hw_some ⟨z, by rw [he]; exact ⟨e, hr⟩⟩
    | inr m =>
      obtain ⟨z, he, hr⟩ := hq
      exact hw_some ⟨z, by rw [he]; exact ⟨rfl, hr⟩⟩
end GOES
