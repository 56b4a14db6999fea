/-! ===== the class's search ===== -/
theorem i3_pred {a : Nat} (h : 1 ≤ a) : i3 a - 1 = i3 (a - 1) := i3_sub h
theorem n10 : ¬ ((1 : Int32) = 0) := by decide
def Fx (N : Rw) (closed : Bool) (n : Nat) (row : List Nat) : Nat → Option (List Nat) := fun p => match n with
  | 0 => if (lk N (ls row) p && !row.contains p && lone N p) = true then some (row ++ [p]) else none
  | n + 1 => if (lk N (ls row) p && !row.contains p && !lone N p && !row.contains (ptq N p)) = true then ext N closed n (row ++ [p, ptq N p]) else none
theorem ext_fs {N : Rw} {closed : Bool} {n : Nat} {row : List Nat} (h : ¬ (closed = true ∧ n = 0)) : ext N closed n row = fs (Fx N closed n row) 10 := by
  cases n with
  | zero =>
    unfold ext
    rw [if_neg (fun q => h ⟨q, rfl⟩)]
    rfl
  | succ n => rfl
def GQ (N : Rw) (closed : Bool) (n : Nat) (row : List Nat) (c : mB) : Int32 × mB → Prop := fun r => mx_out (SW 39) c r.2 ∧ match ext N closed n row with
  | some row' => r.1 = 1 ∧ Rx r.2 39 row'
  | none => r.1 = 0 ∧ Rx r.2 39 row
theorem SW_nt {c m : mB} {p0 : Nat} {N : Rw} (hp0 : p0 + 11 ≤ 39) (h : Nt c p0 N) (z : mx_out (SW 39) c m) : Nt m p0 N := Nt_mem h (fun b h1 h2 => z.cell b (fun j => by unfold SW; omega))
theorem SWtr {c m m1 : mB} {r : Nat} (h : mx_out (SW r) c m) (h1 : mx_out (SW r) m m1) : mx_out (SW r) c m1 := mx_out.tr h h1
theorem pt_of {N : Rw} (g : GI N) (s : SI N) {p : Nat} (hp : p < nP N) (hl : lone N p = false) : N (158 + p) = i3 (ptq N p) ∧ ptq N p < nP N ∧ ptq N p ≠ p ∧ lk N p (ptq N p) = true ∧ N (158 + ptq N p) = i3 p := by
  have hn := g.1.2
  rcases prt s hp with q | ⟨q, q1, q2, q3, q4⟩
  · exact absurd q (of_decide_eq_false hl)
  · have : ptq N p = q := by unfold ptq; rw [q2, i3_toNat (by omega)]
    rw [this]
    exact ⟨q2, q1, fun e => (lk_lt g q4).2.2 e.symm, q4, q3⟩
section GOON
variable {c d : mB} {p0 : Nat} {N : Rw}
theorem C_goL (hp0 : p0 + 11 ≤ 39) (closed : Bool) {rec : Nat → Nat → Int32 → Int32 → Int32 → mB → Option (Int32 × mB)} {n : Nat} {row : List Nat} {sn v6 : Int32}
    (hrec : ∀ n', n = n' + 1 → ∀ {row' : List Nat} {c' : mB} {sn' : Int32}, Nt c' p0 N → Rx c' 39 row' → 1 ≤ row'.length → row'.length + 2 * n' + (if closed = true then 0 else 1) ≤ 10 → (∀ x ∈ row', x < nP N) → (∀ j, j < 32 → bt sn' j = decide (j ∈ row')) → hw (rec 38 p0 sn' (i3 n') (b2 closed) c') (GQ N closed n' row' c'))
    (hnc : ¬ (closed = true ∧ n = 0)) (h : Nt c p0 N) (hR : Rx c 39 row) (h1 : 1 ≤ row.length) (hl : row.length + 2 * n + (if closed = true then 0 else 1) ≤ 10) (hx : ∀ x ∈ row, x < nP N) (hb : ∀ j, j < 32 → bt sn j = decide (j ∈ row)) (hv : ∀ j, j < 32 → bt v6 j = (lk N (ls row) j && !decide (j ∈ row))) :
    hw (FX9_goOn_L57 rec 38 p0 sn (i3 n) (b2 closed) v6 mx_FU (i3 0) c) (fun q => match q with
      | .inl rr => mx_out (SW 39) c rr.2 ∧ rr.1 = 1 ∧ ∃ row', ext N closed n row = some row' ∧ Rx rr.2 39 row'
      | .inr m => mx_out (SW 39) c m ∧ ext N closed n row = none ∧ Rx m 39 row) := by
  have hh := h
  obtain ⟨g, s, h2, h3⟩ := hh
  have hn10 := g.1.2
  rw [ext_fs hnc]
  have hl2 : n ≤ 5 := by omega
  refine lp_inv (L := fun fu y m => FX9_goOn_L57 rec 38 p0 sn (i3 n) (b2 closed) v6 fu y m) (n := 10) (fun p m => mx_out (SW 39) c m ∧ Rx m 39 row ∧ fs (Fx N closed n row) p = none) ?_ ?_ 0 mx_FU c (by omega) (FU_lt (by omega)) ⟨mx_out.rf, hR, rfl⟩
  · intro fu m hm
    show hw (FX9_goOn_L57 rec 38 p0 sn (i3 n) (b2 closed) v6 (fu + 1) (i3 10) m) _
    rw [FX9_goOn_L57]
    exact hw_some ⟨hm.1, hm.2.2, hm.2.1⟩
  · intro fu p m hp hm hs
    show hw (FX9_goOn_L57 rec 38 p0 sn (i3 n) (b2 closed) v6 (fu + 1) (i3 p) m) _
    obtain ⟨z, hRm, hf⟩ := hm
    have next : Fx N closed n row p = none → ∀ m', mx_out (SW 39) c m' → Rx m' 39 row → hw (FX9_goOn_L57 rec 38 p0 sn (i3 n) (b2 closed) v6 fu (i3 (p + 1)) m') _ := fun e m' z' r' => hs m' ⟨z', r', by rw [fs_step hf]; exact e⟩
    have hm' := SW_nt hp0 h z
    obtain ⟨-, -, hm2, hm3⟩ := hm'
    rw [FX9_goOn_L57]
    simp (disch := omega) only [bt_sh, hv p (by omega), i3_succ, mx_letI, i3_Lle]
    rw [if_neg (by omega)]
    cases hk : lk N (ls row) p with
    | false =>
      rw [if_pos (by rfl)]
      exact next (by unfold Fx; cases n <;> simp [hk]) m z hRm
    | true =>
      by_cases hin : p ∈ row
      · rw [if_pos (by simp [hin])]
        exact next (by unfold Fx; cases n <;> simp [hin]) m z hRm
      · rw [if_neg (by simp [hin])]
        have hpn := (lk_lt g hk).2.1
        rw [C_partnerOf_y g hm2 hm3 hpn, ob_some]
        cases n with
        | zero =>
          have hcl : closed = false := by
            cases closed with
            | false => rfl
            | true => exact absurd ⟨rfl, rfl⟩ hnc
          subst hcl
          simp (disch := omega) only [ob_some, mx_letI, mx_chkT, mx_inb_i3, mx_inb_lit, lit_toNat, i3_toNat, i3_le, i3_lt, i3_leL, i3_Lle, i3_ltL, i3_Llt, i3_neg, i3_eq, i3_eqL, i3_ne1, i3_add, i3_addL, i3_Ladd, i3_mul, i3_mulL, i3_Lmul, mx_b01_0, mx_b01_1, b2_01, b2_0, b2_1, se_inl, se_inr, if_true, if_false, e10, e01, e00, e11, em1, em1lt, Nat.not_lt_zero, Nat.lt_irrefl, Nat.le_refl]
          cases hlo : lone N p with
          | true =>
            rw [if_pos (of_decide_eq_true hlo)]
            obtain ⟨c1, e1, r1, z1⟩ := Rx_add hRm (by simp at hl; omega) p
            simp only [show (38 + 1 : Nat) = 39 from rfl, e1, ob_some]
            refine hw_some ⟨SWtr z z1, rfl, row ++ [p], ?_, r1⟩
            exact fs_hit hf (by unfold Fx; simp [hk, hin, hlo]) (by omega)
          | false =>
            rw [if_neg (of_decide_eq_false hlo)]
            exact next (by unfold Fx; simp [hlo]) m z hRm
        | succ n' =>
          simp (disch := omega) only [ob_some, mx_letI, mx_chkT, mx_inb_i3, mx_inb_lit, lit_toNat, i3_toNat, i3_le, i3_lt, i3_leL, i3_Lle, i3_ltL, i3_Llt, i3_neg, i3_eq, i3_eqL, i3_ne1, i3_add, i3_addL, i3_Ladd, i3_mul, i3_mulL, i3_Lmul, mx_b01_0, mx_b01_1, b2_01, b2_0, b2_1, se_inl, se_inr, if_true, if_false, e10, e01, e00, e11, em1, em1lt, Nat.not_lt_zero, Nat.succ_pos]
          rw [if_neg (by omega)]
          cases hlo : lone N p with
          | true =>
            rw [if_pos (of_decide_eq_true hlo)]
            exact next (by unfold Fx; simp [hlo]) m z hRm
          | false =>
            rw [if_neg (of_decide_eq_false hlo)]
            obtain ⟨q1, q2, q3, q4, q5⟩ := pt_of g s hpn hlo
            rw [q1]
            simp (disch := omega) only [bt_sh, hb (ptq N p) (by omega)]
            by_cases hq : ptq N p ∈ row
            · rw [if_neg (by simp [hq])]
              exact next (by unfold Fx; simp [hq]) m z hRm
            · rw [if_pos (by simp [hq])]
              obtain ⟨c1, e1, r1, z1⟩ := Rx_add hRm (by omega) p
              obtain ⟨c2, e2, r2, z2⟩ := Rx_add r1 (by rw [List.length_append]; simp; omega) (ptq N p)
              rw [← app2] at r2
              simp only [show (38 + 1 : Nat) = 39 from rfl, e1, e2, ob_some]
              have zz := SWtr (SWtr z z1) z2
              have hlen : (row ++ [p, ptq N p]).length = row.length + 2 := by rw [List.length_append]; rfl
              have hmem : ∀ j, j ∈ row ++ [p, ptq N p] ↔ (j ∈ row ∨ j = p ∨ j = ptq N p) := fun j => by simp [List.mem_append]
              have R := hrec n' rfl (row' := row ++ [p, ptq N p]) (c' := c2) (sn' := (sn ||| pw p) ||| pw (ptq N p)) (SW_nt hp0 h zz) r2 (by omega) (by omega)
                (fun x hx2 => by
                  rcases (hmem x).mp hx2 with w | w | w
                  · exact hx x w
                  · rw [w]; exact hpn
                  · rw [w]; exact q2)
                (fun j hj => by
                  rw [bt_or, bt_or, bt_pwk (by omega) hj, bt_pwk (by omega) hj, hb j hj]
                  by_cases w1 : j ∈ row <;> by_cases w2 : j = p <;> by_cases w3 : j = ptq N p <;> simp [hmem, w1, w2, w3])
              obtain ⟨⟨v, c3⟩, eR, z3, R2⟩ := R
              rw [show i3 (n' + 1) - 1 = i3 n' from i3_m1 n']
              show hw (Option.bind (rec 38 p0 ((sn ||| pw p) ||| pw (ptq N p)) (i3 n') (b2 closed) c2) _) _
              rw [eR, ob_some]
              cases hE : ext N closed n' (row ++ [p, ptq N p]) with
              | some row' =>
                rw [hE] at R2
                obtain ⟨rfl, R3⟩ := R2
                rw [if_neg n10]
                refine hw_some ⟨SWtr zz z3, rfl, row', ?_, R3⟩
                refine fs_hit hf ?_ (by omega)
                unfold Fx
                simp only [hk, hlo, Bool.true_and, Bool.not_false, Bool.and_true]
                rw [if_pos (by simp [hin, hq]), hE]
              | none =>
                rw [hE] at R2
                obtain ⟨rfl, R3⟩ := R2
                rw [if_pos rfl]
                obtain ⟨c4, e4, r4, z4⟩ := Rx_drop R3
                rw [e4, ob_some]
                refine next ?_ c4 (SWtr (SWtr zz z3) z4) r4
                unfold Fx
                simp only [hE, ite_self]
theorem C_goOn (hp0 : p0 + 11 ≤ 39) (closed : Bool) : ∀ (n D : Nat) {row : List Nat} {c : mB} {sn : Int32}, n < D → Nt c p0 N → Rx c 39 row → 1 ≤ row.length → row.length + 2 * n + (if closed = true then 0 else 1) ≤ 10 → (∀ x ∈ row, x < nP N) → (∀ j, j < 32 → bt sn j = decide (j ∈ row)) → hw (FX9_goOn D 38 p0 sn (i3 n) (b2 closed) c) (GQ N closed n row c) := by
  intro n
  induction n with
  | zero =>
    intro D row c sn hD h hR h1 hl hx hb
    obtain ⟨D, rfl⟩ : ∃ E, D = E + 1 := ⟨D - 1, by omega⟩
    have hh := h
    obtain ⟨g, s, h2, h3⟩ := hh
    have hls := hx _ (ls_mem h1)
    have hn10 := g.1.2
    have a1 := R_at_y hR.1 (i := row.length - 1) (by omega)
    rw [hR.2 _ (by omega)] at a1
    have e1 : FX7_size (38 + 1) c = some (i3 row.length) := by unfold FX7_size; exact congrArg some hR.1.1
    have hcap := hR.1.2.1
    rw [FX9_goOn]
    unfold FX9_goOn_B
    rw [e1, ob_some, i3_pred h1]
    show hw (Option.bind (FX7_at 39 (i3 (row.length - 1)) c) _) _
    rw [a1, ob_some, mx_letI, if_neg (by decide)]
    cases closed with
    | true =>
      rw [if_neg (by decide)]
      have a0 := R_at_y hR.1 (i := 0) (by omega)
      rw [hR.2 0 (by omega)] at a0
      show hw (Option.bind (FX7_at 39 (i3 0) c) _) _
      rw [a0, ob_some]
      have hd := hx (row.getD 0 0) (by rw [List.getD_eq_getElem?_getD, List.getElem?_eq_getElem (by omega)]; exact List.getElem_mem _)
      have el := C_areLinked g h2 (p := ls row) (q := hd0 row) (by omega) (by unfold hd0; omega)
      show hw (Option.bind (FX4_areLinked p0 (i3 (ls row)) (i3 (hd0 row)) c) _) _
      rw [el, ob_some, b2_01, mx_chkT]
      refine hw_some ⟨mx_out.rf, ?_⟩
      unfold ext
      rw [if_pos rfl]
      cases lk N (ls row) (hd0 row) with
      | true => exact ⟨rfl, hR⟩
      | false => exact ⟨rfl, hR⟩
    | false =>
      rw [if_pos (show b2 false = 0 from rfl)]
      show hw (Option.bind (FX4_nearTo p0 (i3 (ls row)) c) _) _
      rw [C_nearTo_y g h2 hls, ob_some, mx_letI]
      refine hw_bind (hw_mono (C_goL hp0 false (n := 0) (fun n' e => by omega) (by decide) h hR h1 hl hx hb (fun j hj => ?_)) (fun q hq => ?_))
      · rw [bt_and, bt_xor, bt_m1 hj, h2.2.1 _ hls, hb j hj]
        cases decide (j ∈ row) <;> rfl
      · cases q with
        | inl rr =>
          obtain ⟨z, e, row', he, hr⟩ := hq
          exact hw_some ⟨z, by rw [he]; exact ⟨e, hr⟩⟩
        | inr m =>
          obtain ⟨z, he, hr⟩ := hq
          exact hw_some ⟨z, by rw [he]; exact ⟨rfl, hr⟩⟩
  | succ n ih =>
    intro D row c sn hD h hR h1 hl hx hb
    obtain ⟨D, rfl⟩ : ∃ E, D = E + 1 := ⟨D - 1, by omega⟩
    have hh := h
    obtain ⟨g, s, h2, h3⟩ := hh
    have hls := hx _ (ls_mem h1)
    have hn10 := g.1.2
    have a1 := R_at_y hR.1 (i := row.length - 1) (by omega)
    rw [hR.2 _ (by omega)] at a1
    have e1 : FX7_size (38 + 1) c = some (i3 row.length) := by unfold FX7_size; exact congrArg some hR.1.1
    have hcap := hR.1.2.1
    rw [FX9_goOn]
    unfold FX9_goOn_B
    rw [e1, ob_some, i3_pred h1]
    show hw (Option.bind (FX7_at 39 (i3 (row.length - 1)) c) _) _
    rw [a1, ob_some, mx_letI, if_pos (by show i3 0 < i3 (n + 1); rw [i3_lt (by omega) (by omega)]; omega)]
    show hw (Option.bind (FX4_nearTo p0 (i3 (ls row)) c) _) _
    rw [C_nearTo_y g h2 hls, ob_some, mx_letI]
    refine hw_bind (hw_mono (C_goL hp0 closed (n := n + 1) (fun n' e => ?_) (fun q => by omega) h hR h1 hl hx hb (fun j hj => ?_)) (fun q hq => ?_))
    · have : n' = n := by omega
      subst this
      intro row' c' sn' q1 q2 q3 q4 q5 q6
      exact ih D (by omega) q1 q2 q3 q4 q5 q6
    · rw [bt_and, bt_xor, bt_m1 hj, h2.2.1 _ hls, hb j hj]
      cases decide (j ∈ row) <;> rfl
    · cases q with
      | inl rr =>
        obtain ⟨z, e, row', he, hr⟩ := hq
        exact hw_some ⟨z, by rw [he]; exact ⟨e, hr⟩⟩
      | inr m =>
        obtain ⟨z, he, hr⟩ := hq
        exact hw_some ⟨z, by rw [he]; exact ⟨rfl, hr⟩⟩
end GOON
