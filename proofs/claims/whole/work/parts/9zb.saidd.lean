/-! ===== operation: said ===== -/
section SAIDD
variable {c c' d : mB} {N : Rw}
theorem i3_dn (n : Nat) : i3 (n + 1) + (-1) = i3 n := by
  rw [← i3_succ, Int32.add_assoc]
  show i3 n + 0 = _
  rw [Int32.add_zero]
theorem stk_len {f : Nat → Nat} : ∀ {i : Nat}, (stk f i).length ≤ i := by
  intro i
  induction i with
  | zero => exact Nat.le_refl _
  | succ i ih =>
    unfold stk
    rw [List.length_cons]
    split
    · omega
    · split
      · rw [List.length_tail]; omega
      · rw [List.length_tail, List.length_tail]; omega
theorem C_pile {A B W O : Nat → Int32} {k : Nat} (hk : k ≤ 40) (hA : c.1 175 = A) (hB : c.1 176 = B) (hW : c.1 177 = W) (h4 : c.1 174 4 = i3 k) (hc : Nt c 4 N) (hS : ∀ i, i < k → SYP A B W N i) (hO : OKO N A B W O k) (al : Int32) :
    ∀ (f i : Nat) (m : mB), i ≤ k → k - i < f → mx_out (fun b _ => b = 178) c m → (∀ j, j < (stk (cdf A) i).length → m.1 178 j = pv A O al ((stk (cdf A) i).reverse.getD j 0)) → hw (FX8_pointsOf_L21 174 4 al f (i3 (stk (cdf A) i).length) (i3 i) m) (fun m' => mx_out (fun b _ => b = 178) c m' ∧ ∀ j, j < (stk (cdf A) k).length → m'.1 178 j = pv A O al ((stk (cdf A) k).reverse.getD j 0)) := by
  intro f
  induction f with
  | zero => intro i m _ hf; omega
  | succ f ih =>
    intro i m hi hf z hm
    have e4 : m.1 174 4 = i3 k := by rw [z.fld 174 4 (by omega)]; exact h4
    rw [FX8_pointsOf_L21, e4]
    by_cases q : k ≤ i
    · rw [if_pos (by rw [i3_le (by omega) (by omega)]; exact q)]
      have : i = k := by omega
      subst this
      exact hw_some ⟨z, hm⟩
    · have hlen := stk_len (f := cdf A) (i := i)
      have eA : m.1 (174 + 1) i = A i := by show m.1 175 i = _; rw [z.fld 175 i (by omega), hA]
      have eB : m.1 (174 + 2) i = B i := by show m.1 176 i = _; rw [z.fld 176 i (by omega), hB]
      have eW : m.1 (174 + 3) i = W i := by show m.1 177 i = _; rw [z.fld 177 i (by omega), hW]
      rw [if_neg (by rw [i3_le (by omega) (by omega)]; exact q), if_neg (by show ¬ i3 40 ≤ i3 i; rw [i3_le (by omega) (by omega)]; omega), mx_inb_i3 (by omega) (by omega), mx_chkT, i3_toNat (by omega), eA]
      simp only [mx_letI]
      rw [i3_succ]
      have hS' : ∀ j, j < i → SYP A B W N j := fun j hj => hS j (by omega)
      rcases hS i (by omega) with ⟨a1, a2, x, r, a3, a4⟩ | ⟨a1, y, x, r, a3, a4, a5⟩ | ⟨u, v, sg, a1, a2, a3, a4, -⟩
      · have e := pv_not (O := O) (al := al) hS' a1 a3
        have es : stk (cdf A) (i + 1) = i :: r := by
          show i :: (if cdf A i = 0 then _ else if cdf A i = 1 then _ else _) = _
          rw [cdf_1 a1, if_neg (by omega), if_pos rfl, a3]; rfl
        have hl : (stk (cdf A) i).length = r.length + 1 := by rw [a3]; rfl
        rw [hl] at hlen
        have mx : m.1 178 r.length = pv A O al x := by
          rw [hm r.length (by omega), a3, List.reverse_cons, gd_app1, List.length_reverse, if_neg (by omega), if_pos rfl]
        rw [hl, a1, if_pos (show (112 : Int32) = 112 from rfl), if_neg (by show ¬ i3 _ < i3 1; rw [i3_lt (by omega) (by omega)]; omega), if_neg (by show ¬ i3 40 < i3 _; rw [i3_lt (by omega) (by omega)]; omega), i3_subL (by omega), Nat.add_sub_cancel, mx_inb_i3 (by omega) (by omega), mx_chkT, i3_toNat (by omega)]
        show hw (FX8_pointsOf_L21 174 4 al f (i3 (r.length + 1)) (i3 (i + 1)) (mx_up m.1 178 r.length (al &&& (m.1 178 r.length ^^^ -1)), m.2)) _
        rw [mx, ← e]
        have z2 : mx_out (fun b _ => b = 178) c (mx_up m.1 178 r.length (pv A O al i), m.2) := mx_out_up z rfl rfl
        have := ih (i + 1) (mx_up m.1 178 r.length (pv A O al i), m.2) (by omega) (by omega) z2 (fun j hj => by
          rw [es] at hj ⊢
          rw [List.length_cons] at hj
          rw [List.reverse_cons, gd_app1, List.length_reverse]
          show mx_up m.1 178 r.length (pv A O al i) 178 j = _
          rw [up_at]
          by_cases q2 : j = r.length
          · rw [if_pos q2, if_neg (by omega), if_pos q2]
          · rw [if_neg q2, if_pos (by omega), hm j (by rw [hl]; omega), a3, List.reverse_cons, gd_app1, List.length_reverse, if_pos (by omega)])
        rw [es, List.length_cons] at this
        exact this
      · have a1' : A i = 110 ∨ A i = 111 := by rcases a1 with a1 | a1 <;> exact (by first | exact Or.inl a1.1 | exact Or.inr a1.1)
        have e := pv_two (O := O) (al := al) hS' a1' a3
        have es : stk (cdf A) (i + 1) = i :: r := by
          show i :: (if cdf A i = 0 then _ else if cdf A i = 1 then _ else _) = _
          rw [cdf_2 a1', if_neg (by omega), if_neg (by omega), a3]; rfl
        have hl : (stk (cdf A) i).length = r.length + 2 := by rw [a3]; rfl
        rw [hl] at hlen
        have mx : m.1 178 r.length = pv A O al x := by
          rw [hm r.length (by omega), a3, List.reverse_cons, List.reverse_cons, gd_app1, if_pos (by rw [List.length_append, List.length_reverse]; simp), gd_app1, List.length_reverse, if_neg (by omega), if_pos rfl]
        have my : m.1 178 (r.length + 1) = pv A O al y := by
          rw [hm (r.length + 1) (by omega), a3, List.reverse_cons, List.reverse_cons, gd_app1, List.length_append, List.length_reverse]
          show pv A O al (if r.length + 1 < r.length + 1 then _ else if r.length + 1 = r.length + 1 then _ else _) = _
          rw [if_neg (by omega), if_pos rfl]
        have z2 : mx_out (fun b _ => b = 178) c (mx_up m.1 178 r.length (pv A O al i), m.2) := mx_out_up z rfl rfl
        have fin := ih (i + 1) (mx_up m.1 178 r.length (pv A O al i), m.2) (by omega) (by omega) z2 (fun j hj => by
          rw [es] at hj ⊢
          rw [List.length_cons] at hj
          rw [List.reverse_cons, gd_app1, List.length_reverse]
          show mx_up m.1 178 r.length (pv A O al i) 178 j = _
          rw [up_at]
          by_cases q2 : j = r.length
          · rw [if_pos q2, if_neg (by omega), if_pos q2]
          · rw [if_neg q2, if_pos (by omega), hm j (by rw [hl]; omega), a3, List.reverse_cons, List.reverse_cons, gd_app1, if_pos (by rw [List.length_append, List.length_reverse]; simp; omega), gd_app1, List.length_reverse, if_pos (by omega)])
        rw [es, List.length_cons] at fin
        rcases a1 with ⟨b1, b2'⟩ | ⟨b1, b2'⟩
        · rw [b1, if_neg (show ¬ (110 : Int32) = 111 by decide)] at e
          rw [hl, b1, if_neg (show ¬ (110 : Int32) = 112 by decide), if_neg (show ¬ (110 : Int32) = 111 by decide), if_pos (show (110 : Int32) = 110 from rfl), if_neg (by show ¬ i3 _ < i3 2; rw [i3_lt (by omega) (by omega)]; omega), if_neg (by show ¬ i3 40 < i3 _; rw [i3_lt (by omega) (by omega)]; omega), i3_subL (by omega), i3_subL (by omega), show r.length + 2 - OfNat.ofNat 2 = r.length from rfl, show r.length + 2 - OfNat.ofNat 1 = r.length + 1 from rfl, mx_inb_i3 (by omega) (by omega), mx_chkT, mx_inb_i3 (by omega) (by omega), mx_chkT, i3_toNat (by omega), i3_toNat (by omega), i3_dn]
          show hw (FX8_pointsOf_L21 174 4 al f (i3 (r.length + 1)) (i3 (i + 1)) (mx_up m.1 178 r.length (m.1 178 r.length ||| m.1 178 (r.length + 1)), m.2)) _
          rw [mx, my, ← e]
          exact fin
        · rw [b1, if_pos (show (111 : Int32) = 111 from rfl)] at e
          rw [hl, b1, if_neg (show ¬ (111 : Int32) = 112 by decide), if_pos (show (111 : Int32) = 111 from rfl), if_neg (by show ¬ i3 _ < i3 2; rw [i3_lt (by omega) (by omega)]; omega), if_neg (by show ¬ i3 40 < i3 _; rw [i3_lt (by omega) (by omega)]; omega), i3_subL (by omega), i3_subL (by omega), show r.length + 2 - OfNat.ofNat 2 = r.length from rfl, show r.length + 2 - OfNat.ofNat 1 = r.length + 1 from rfl, mx_inb_i3 (by omega) (by omega), mx_chkT, mx_inb_i3 (by omega) (by omega), mx_chkT, i3_toNat (by omega), i3_toNat (by omega), i3_dn]
          show hw (FX8_pointsOf_L21 174 4 al f (i3 (r.length + 1)) (i3 (i + 1)) (mx_up m.1 178 r.length (m.1 178 r.length &&& m.1 178 (r.length + 1)), m.2)) _
          rw [mx, my, ← e]
          exact fin
      · have e := pv_one (O := O) (al := al) a3 a1 a2
        have c0 := cdf_0 a3 a1 a2
        have es : stk (cdf A) (i + 1) = i :: stk (cdf A) i := by
          show i :: (if cdf A i = 0 then _ else if cdf A i = 1 then _ else _) = _
          rw [c0, if_pos rfl]
        have ne : ∀ k, 100 + u ≠ k → k < 1000 → ¬ i3 (100 + u) = i3 k := fun k h1 h2 e => h1 ((i3_eq (by omega) (by omega)).mp e)
        have hmN : Nt m 4 N := Nt_mem hc (fun b q1 q2 => z.cell b (fun j => by omega))
        have eO := (hO i (by omega) c0).1 m hmN.2.2.1 hmN.2.2.2
        rw [a3] at eO
        rw [a3, if_neg (show ¬ i3 (100 + u) = 112 from ne 112 (by omega) (by omega)), if_neg (show ¬ i3 (100 + u) = 111 from ne 111 (by omega) (by omega)), if_neg (show ¬ i3 (100 + u) = 110 from ne 110 (by omega) (by omega)), if_neg (i3_ge0 (by omega)), if_neg (by show ¬ i3 40 ≤ i3 _; rw [i3_le (by omega) (by omega)]; omega), eB, eW, eO, ob_some, mx_inb_i3 (by omega) (by omega), mx_chkT, i3_toNat (by omega), i3_succ]
        show hw (FX8_pointsOf_L21 174 4 al f (i3 ((stk (cdf A) i).length + 1)) (i3 (i + 1)) (mx_up m.1 178 (stk (cdf A) i).length (O i), m.2)) _
        have z2 : mx_out (fun b _ => b = 178) c (mx_up m.1 178 (stk (cdf A) i).length (O i), m.2) := mx_out_up z rfl rfl
        have := ih (i + 1) (mx_up m.1 178 (stk (cdf A) i).length (O i), m.2) (by omega) (by omega) z2 (fun j hj => by
          rw [es] at hj ⊢
          rw [List.length_cons] at hj
          rw [List.reverse_cons, gd_app1, List.length_reverse]
          show mx_up m.1 178 (stk (cdf A) i).length (O i) 178 j = _
          rw [up_at]
          by_cases q2 : j = (stk (cdf A) i).length
          · rw [if_pos q2, if_neg (by omega), if_pos q2, e]
          · rw [if_neg q2, if_pos (by omega), hm j (by omega)])
        rw [es, List.length_cons] at this
        exact this
end SAIDD
