/-! ===== the reference's search of flowers ===== -/
section FLOW
variable {c d : mB} {N : Rw}
theorem M_evenF (g : GI N) (s : SI N) {rec : Nat → Int32 → Int32 → Int32 → mB → Option (Int32 × mB)} {n many : Nat} {row : List Nat} {us : Int32}
    (hrec : ∀ {q : Nat} {d' : mB} {us' : Int32}, q < nP N → N (158 + ls row) = i3 q → q ∉ row → d'.1 224 = N → ways d' (row ++ [q]) → (∀ j, j < 32 → bt us' j = decide (j ∈ row ++ [q])) → hw (rec 222 (i3 (row.length + 1)) (i3 many) us' d') (WQ N true n (row ++ [q]) d'))
    (h : d.1 224 = N) (hW : ways d row) (he : row.length % 2 = 0) (h1 : 1 ≤ row.length) (hl : row.length < 10) (hm : row.length < many) (hm2 : many ≤ 10) (hp : ls row < nP N) (hb : ∀ j, j < 32 → bt us j = decide (j ∈ row)) :
    hw (FX12_flowers_B rec 222 (i3 row.length) (i3 many) us d) (fun r => mx_out WY d r.2 ∧ match ev N true n row with
      | some row' => r.1 = 1 ∧ ways r.2 row'
      | none => r.1 = 0 ∧ ways r.2 row) := by
  have hn := g.1.2
  have ew : d.1 235 (row.length - 1) = i3 (ls row) := hW _ (by omega)
  unfold FX12_flowers_B
  rw [i3_pred h1]
  simp (disch := omega) only [Nat.reduceAdd, ew, ob_some, mx_letI, mx_chkT, mx_inb_i3, mx_inb_lit, lit_toNat, i3_toNat, i3_le, i3_lt, i3_leL, i3_Lle, i3_ltL, i3_Llt, i3_neg, i3_eq, i3_eqL, i3_ne1, i3_add, i3_addL, i3_Ladd, i3_mul, i3_mulL, i3_Lmul, mx_b01_0, mx_b01_1, b2_01, b2_0, b2_1, se_inl, se_inr, if_true, if_false, e10, e01, e00, e11, em1, em1lt, Nat.not_lt_zero]
  rw [if_neg (by omega)]
  rw [← Gx_ev g s hp]
  have key : hw (FX12_flowers_L31 rec 222 (i3 row.length) (i3 many) us (i3 (ls row)) mx_FU (i3 0) d) (fun q => match q with
      | .inl rr => mx_out WY d rr.2 ∧ rr.1 = 1 ∧ ∃ row', fs (Gx N true n row) (nP N) = some row' ∧ ways rr.2 row'
      | .inr m => mx_out WY d m ∧ fs (Gx N true n row) (nP N) = none ∧ ways m row) := by
    refine lp_inv (L := fun fu y m => FX12_flowers_L31 rec 222 (i3 row.length) (i3 many) us (i3 (ls row)) fu y m) (n := nP N) (fun q m => mx_out WY d m ∧ ways m row ∧ fs (Gx N true n row) q = none) ?_ ?_ 0 mx_FU d (by omega) (FU_lt (by omega)) ⟨mx_out.rf, hW, rfl⟩
    · intro fu m hm
      show hw (FX12_flowers_L31 rec 222 (i3 row.length) (i3 many) us (i3 (ls row)) (fu + 1) (i3 (nP N)) m) _
      rw [FX12_flowers_L31]
      simp (disch := omega) only [Nat.reduceAdd, WY_row h hm.1, N0 g, Nat.le_refl, ob_some, mx_letI, mx_chkT, mx_inb_i3, mx_inb_lit, lit_toNat, i3_toNat, i3_le, i3_lt, i3_leL, i3_Lle, i3_ltL, i3_Llt, i3_neg, i3_eq, i3_eqL, i3_ne1, i3_add, i3_addL, i3_Ladd, i3_mul, i3_mulL, i3_Lmul, mx_b01_0, mx_b01_1, b2_01, b2_0, b2_1, se_inl, se_inr, if_true, if_false, e10, e01, e00, e11, em1, em1lt, Nat.not_lt_zero, if_pos, if_neg]
      exact hw_some ⟨hm.1, hm.2.2, hm.2.1⟩
    · intro fu q m hq hm hs
      show hw (FX12_flowers_L31 rec 222 (i3 row.length) (i3 many) us (i3 (ls row)) (fu + 1) (i3 q) m) _
      obtain ⟨z, hWm, hf⟩ := hm
      have hNm := WY_row h z
      have next : Gx N true n row q = none → ∀ m', mx_out WY d m' → ways m' row → hw (FX12_flowers_L31 rec 222 (i3 row.length) (i3 many) us (i3 (ls row)) fu (i3 (q + 1)) m') _ := fun e m' z' r' => hs m' ⟨z', r', by rw [fs_step hf]; exact e⟩
      rw [FX12_flowers_L31]
      simp (disch := omega) only [Nat.reduceAdd, hNm, N0 g, M_has, hb q (by omega), M_areLinked g hNm, M_arePaired_y g hNm hp, even_i3, ob_some, mx_letI, mx_chkT, mx_inb_i3, mx_inb_lit, lit_toNat, i3_toNat, i3_le, i3_lt, i3_leL, i3_Lle, i3_ltL, i3_Llt, i3_neg, i3_eq, i3_eqL, i3_ne1, i3_add, i3_addL, i3_Ladd, i3_mul, i3_mulL, i3_Lmul, mx_b01_0, mx_b01_1, b2_01, b2_0, b2_1, se_inl, se_inr, if_true, if_false, e10, e01, e00, e11, em1, em1lt, Nat.not_lt_zero]
      rw [if_neg (by omega)]
      by_cases hin : q ∈ row
      · rw [if_neg (by simp [hin])]
        exact next (by unfold Gx; simp [hin]) m z hWm
      · rw [if_pos (by simp [hin])]
        by_cases hpr : N (158 + ls row) = i3 q
        · have hk : lk N (ls row) q = true := by
            rcases prt s hp with w | ⟨w, w1, w2, w3, w4⟩
            · rw [hpr] at w
              have := i3_ne1 (a := q) (by omega)
              rw [w] at this
              simp at this
            · rw [hpr, i3_eq (by omega) (by omega)] at w2
              rw [w2]; exact w4
          rw [if_neg (by rw [hk]; decide), if_pos he, if_neg (by simp [hpr])]
          have hW2 := ways_set hWm q
          have z2 : mx_out WY d (mx_up m.1 235 row.length (i3 q), m.2) := mx_out_up z rfl rfl
          obtain ⟨⟨v, m3⟩, eR, z3, R2⟩ := hrec (d' := (mx_up m.1 235 row.length (i3 q), m.2)) (us' := us ||| pw q) hq hpr hin (WY_row h z2) hW2 (fun j hj => by
            rw [bt_or, bt_pwk (by omega) hj, hb j hj]
            by_cases w1 : j ∈ row <;> by_cases w2 : j = q <;> simp [w1, w2])
          show hw (Option.bind (rec 222 (i3 (row.length + 1)) (i3 many) (us ||| pw q) (mx_up m.1 235 row.length (i3 q), m.2)) _) _
          rw [eR, ob_some]
          have eG : Gx N true n row q = ext N true n (row ++ [q]) := by unfold Gx; rw [if_pos (by simp [hpr, hin])]
          cases hE : ext N true n (row ++ [q]) with
          | some row' =>
            rw [hE] at R2
            obtain ⟨rfl, R3⟩ := R2
            rw [if_neg n10]
            exact hw_some ⟨WYtr z2 z3, rfl, row', fs_hit hf (by rw [eG, hE]) hq, R3⟩
          | none =>
            rw [hE] at R2
            obtain ⟨rfl, R3⟩ := R2
            rw [if_pos rfl]
            exact next (by rw [eG, hE]) m3 (WYtr z2 z3) (ways_sub R3)
        · cases hk : lk N (ls row) q with
          | false =>
            rw [if_pos rfl]
            exact next (by unfold Gx; simp [hpr]) m z hWm
          | true =>
            rw [if_neg (by decide), if_pos he, if_pos (by simp [hpr])]
            exact next (by unfold Gx; simp [hpr]) m z hWm
  refine hw_bind (hw_mono key (fun q hq => ?_))
  cases q with
  | inl rr =>
    obtain ⟨z, e, row', he, hr⟩ := hq
    exact hw_some ⟨z, by rw [he]; exact ⟨e, hr⟩⟩
  | inr m =>
    obtain ⟨z, he, hr⟩ := hq
    exact hw_some ⟨z, by rw [he]; exact ⟨rfl, hr⟩⟩
theorem M_flowers (g : GI N) (s : SI N) : ∀ (n D : Nat) {row : List Nat} {d : mB} {us : Int32}, 2 * n < D → d.1 224 = N → ways d row → row.length % 2 = 1 → row.length + 2 * n ≤ 10 → (∀ x ∈ row, x < nP N) → (∀ j, j < 32 → bt us j = decide (j ∈ row)) → hw (FX12_flowers D 222 (i3 row.length) (i3 (row.length + 2 * n)) us d) (WQ N true n row d) := by
  have hn := g.1.2
  intro n
  induction n with
  | zero =>
    intro D row d us hD h hW ho hl hx hb
    obtain ⟨D, rfl⟩ : ∃ E, D = E + 1 := ⟨D - 1, by omega⟩
    have h1 : 1 ≤ row.length := by omega
    have hls := hx _ (ls_mem h1)
    have ew : d.1 235 (row.length - 1) = i3 (ls row) := hW _ (by omega)
    have e0 : d.1 235 0 = i3 (hd0 row) := hW _ (by omega)
    have hh := hx (row.getD 0 0) (by rw [List.getD_eq_getElem?_getD, List.getElem?_eq_getElem (by omega)]; exact List.getElem_mem _)
    have hh2 : hd0 row < nP N := hh
    rw [FX12_flowers]
    unfold FX12_flowers_B WQ ext
    rw [i3_pred h1]
    simp (disch := omega) only [Nat.reduceAdd, Nat.mul_zero, Nat.add_zero, ew, e0, M_areLinked g h, ob_some, mx_letI, mx_chkT, mx_inb_i3, mx_inb_lit, lit_toNat, i3_toNat, i3_le, i3_lt, i3_leL, i3_Lle, i3_ltL, i3_Llt, i3_neg, i3_eq, i3_eqL, i3_ne1, i3_add, i3_addL, i3_Ladd, i3_mul, i3_mulL, i3_Lmul, mx_b01_0, mx_b01_1, b2_01, b2_0, b2_1, se_inl, se_inr, if_true, if_false, e10, e01, e00, e11, em1, em1lt, Nat.not_lt_zero]
    refine hw_some ⟨mx_out.rf, ?_⟩
    cases lk N (ls row) (hd0 row) with
    | true => exact ⟨rfl, hW⟩
    | false => exact ⟨rfl, hW⟩
  | succ n ih =>
    intro D row d us hD h hW ho hl hx hb
    obtain ⟨D, rfl⟩ : ∃ E, D = E + 1 + 1 := ⟨D - 2, by omega⟩
    have h1 : 1 ≤ row.length := by omega
    have hls := hx _ (ls_mem h1)
    have ew : d.1 235 (row.length - 1) = i3 (ls row) := hW _ (by omega)
    rw [FX12_flowers]
    unfold FX12_flowers_B WQ
    rw [i3_pred h1, ext_fs (fun q => by omega)]
    simp (disch := omega) only [Nat.reduceAdd, ew, ob_some, mx_letI, mx_chkT, mx_inb_i3, mx_inb_lit, lit_toNat, i3_toNat, i3_le, i3_lt, i3_leL, i3_Lle, i3_ltL, i3_Llt, i3_neg, i3_eq, i3_eqL, i3_ne1, i3_add, i3_addL, i3_Ladd, i3_mul, i3_mulL, i3_Lmul, mx_b01_0, mx_b01_1, b2_01, b2_0, b2_1, se_inl, se_inr, if_true, if_false, e10, e01, e00, e11, em1, em1lt, Nat.not_lt_zero]
    rw [if_neg (by omega)]
    have key : hw (FX12_flowers_L31 (FX12_flowers (D + 1)) 222 (i3 row.length) (i3 (row.length + 2 * (n + 1))) us (i3 (ls row)) mx_FU (i3 0) d) (fun q => match q with
        | .inl rr => mx_out WY d rr.2 ∧ rr.1 = 1 ∧ ∃ row', fs (Fx N true (n + 1) row) (nP N) = some row' ∧ ways rr.2 row'
        | .inr m => mx_out WY d m ∧ fs (Fx N true (n + 1) row) (nP N) = none ∧ ways m row) := by
      refine lp_inv (L := fun fu y m => FX12_flowers_L31 (FX12_flowers (D + 1)) 222 (i3 row.length) (i3 (row.length + 2 * (n + 1))) us (i3 (ls row)) fu y m) (n := nP N) (fun q m => mx_out WY d m ∧ ways m row ∧ fs (Fx N true (n + 1) row) q = none) ?_ ?_ 0 mx_FU d (by omega) (FU_lt (by omega)) ⟨mx_out.rf, hW, rfl⟩
      · intro fu m hm
        show hw (FX12_flowers_L31 (FX12_flowers (D + 1)) 222 (i3 row.length) (i3 (row.length + 2 * (n + 1))) us (i3 (ls row)) (fu + 1) (i3 (nP N)) m) _
        rw [FX12_flowers_L31]
        simp (disch := omega) only [Nat.reduceAdd, WY_row h hm.1, N0 g, Nat.le_refl, ob_some, mx_letI, mx_chkT, mx_inb_i3, mx_inb_lit, lit_toNat, i3_toNat, i3_le, i3_lt, i3_leL, i3_Lle, i3_ltL, i3_Llt, i3_neg, i3_eq, i3_eqL, i3_ne1, i3_add, i3_addL, i3_Ladd, i3_mul, i3_mulL, i3_Lmul, mx_b01_0, mx_b01_1, b2_01, b2_0, b2_1, se_inl, se_inr, if_true, if_false, e10, e01, e00, e11, em1, em1lt, Nat.not_lt_zero, if_pos, if_neg]
        exact hw_some ⟨hm.1, hm.2.2, hm.2.1⟩
      · intro fu q m hq hm hs
        show hw (FX12_flowers_L31 (FX12_flowers (D + 1)) 222 (i3 row.length) (i3 (row.length + 2 * (n + 1))) us (i3 (ls row)) (fu + 1) (i3 q) m) _
        obtain ⟨z, hWm, hf⟩ := hm
        have hNm := WY_row h z
        have next : Fx N true (n + 1) row q = none → ∀ m', mx_out WY d m' → ways m' row → hw (FX12_flowers_L31 (FX12_flowers (D + 1)) 222 (i3 row.length) (i3 (row.length + 2 * (n + 1))) us (i3 (ls row)) fu (i3 (q + 1)) m') _ := fun e m' z' r' => hs m' ⟨z', r', by rw [fs_step hf]; exact e⟩
        rw [FX12_flowers_L31]
        simp (disch := omega) only [Nat.reduceAdd, hNm, N0 g, M_has, hb q (by omega), M_areLinked g hNm, M_arePaired_y g hNm hls, even_i3, ob_some, mx_letI, mx_chkT, mx_inb_i3, mx_inb_lit, lit_toNat, i3_toNat, i3_le, i3_lt, i3_leL, i3_Lle, i3_ltL, i3_Llt, i3_neg, i3_eq, i3_eqL, i3_ne1, i3_add, i3_addL, i3_Ladd, i3_mul, i3_mulL, i3_Lmul, mx_b01_0, mx_b01_1, b2_01, b2_0, b2_1, se_inl, se_inr, if_true, if_false, e10, e01, e00, e11, em1, em1lt, Nat.not_lt_zero]
        rw [if_neg (by omega)]
        by_cases hin : q ∈ row
        · rw [if_neg (by simp [hin])]
          exact next (by rw [Fx_ev g s]; simp [hin]) m z hWm
        · rw [if_pos (by simp [hin])]
          cases hk : lk N (ls row) q with
          | false =>
            rw [if_pos rfl]
            exact next (by rw [Fx_ev g s]; simp [hk]) m z hWm
          | true =>
            rw [if_neg (by decide), if_neg (by omega)]
            have hW2 := ways_set hWm q
            have z2 : mx_out WY d (mx_up m.1 235 row.length (i3 q), m.2) := mx_out_up z rfl rfl
            have hN2 := WY_row h z2
            have hlen : (row ++ [q]).length = row.length + 1 := by rw [List.length_append]; rfl
            have hb2 : ∀ j, j < 32 → bt (us ||| pw q) j = decide (j ∈ row ++ [q]) := fun j hj => by
              rw [bt_or, bt_pwk (by omega) hj, hb j hj]
              by_cases w1 : j ∈ row <;> by_cases w2 : j = q <;> simp [w1, w2]
            have eF := Fx_ev g s true n row q
            rw [if_pos (by simp [hk, hin])] at eF
            have R := M_evenF (d := (mx_up m.1 235 row.length (i3 q), m.2)) g s (rec := FX12_flowers D) (n := n) (many := row.length + 2 * (n + 1)) (row := row ++ [q]) (us := us ||| pw q)
              (fun {q'} {d'} {us'} w1 w2 w3 w4 w5 w6 => by
                have := ih D (row := row ++ [q] ++ [q']) (d := d') (us := us') (by omega) w4 w5 (by rw [List.length_append, hlen]; simp; omega) (by rw [List.length_append, hlen]; simp; omega)
                  (fun x hx2 => by
                    simp only [List.mem_append, List.mem_singleton] at hx2
                    rcases hx2 with (y | y) | y
                    · exact hx x y
                    · rw [y]; exact hq
                    · rw [y]; exact w1)
                  w6
                rw [List.length_append, hlen, show row.length + 1 + [q'].length + 2 * n = row.length + 2 * (n + 1) by simp; omega] at this
                rw [hlen]
                exact this)
              hN2 hW2 (by rw [hlen]; omega) (by rw [hlen]; omega) (by rw [hlen]; omega) (by rw [hlen]; omega) (by omega) (by rw [ls_app]; exact hq) hb2
            rw [hlen] at R
            obtain ⟨⟨v, m3⟩, eR, z3, R2⟩ := R
            show hw (Option.bind (FX12_flowers (D + 1) 222 (i3 (row.length + 1)) (i3 (row.length + 2 * (n + 1))) (us ||| pw q) (mx_up m.1 235 row.length (i3 q), m.2)) _) _
            rw [FX12_flowers, eR, ob_some]
            cases hE : ev N true n (row ++ [q]) with
            | some row' =>
              rw [hE] at R2
              obtain ⟨rfl, R3⟩ := R2
              rw [if_neg n10]
              exact hw_some ⟨WYtr z2 z3, rfl, row', fs_hit hf (by rw [eF, hE]) hq, R3⟩
            | none =>
              rw [hE] at R2
              obtain ⟨rfl, R3⟩ := R2
              rw [if_pos rfl]
              exact next (by rw [eF, hE]) m3 (WYtr z2 z3) (ways_sub R3)
    have hmore : fs (Fx N true (n + 1) row) 10 = fs (Fx N true (n + 1) row) (nP N) := fs_more hn (fun p h1 h2 => by
      rw [Fx_ev g s]
      cases e : lk N (ls row) p with
      | false => rfl
      | true => have := (lk_lt g e).2.1; omega)
    rw [hmore]
    refine hw_bind (hw_mono key (fun q hq => ?_))
    cases q with
    | inl rr =>
      obtain ⟨z, e, row', he, hr⟩ := hq
      exact hw_some ⟨z, by rw [he]; exact ⟨e, hr⟩⟩
    | inr m =>
      obtain ⟨z, he, hr⟩ := hq
      exact hw_some ⟨z, by rw [he]; exact ⟨rfl, hr⟩⟩
end FLOW
