/-! ===== a book is judged ===== -/
section BOOKE
variable {c c' d d' : mB} {a n lim p l P : Nat} {t : Nat → Nat} {N : Rw}
def LV (a : Nat) (N : Rw) (c d : mB) (r s : Int32 × mB) : Prop := r.1 = s.1 ∧ ∃ N', (∀ k, k < 125 ∨ 190 ≤ k → N' k = N k) ∧ Nt r.2 a N' ∧ s.2.1 224 = N' ∧ mx_out (WC0 a) c r.2 ∧ mx_out WD0 d s.2 ∧ (r.1 = 0 ∨ r.1 ≠ 0 ∧ N' = N)
theorem LV_no (hc : Nt c a N) (hd : d.1 224 = N) {x : Int32} (hx : x ≠ 0) : LV a N c d (x, c) (x, d) := ⟨rfl, N, fun _ _ => rfl, hc, hd, mx_out.rf, mx_out.rf, Or.inr ⟨hx, rfl⟩⟩
theorem DE_go {F : mB → Option (Int32 × mB)} {k i : Nat} {x y n : Int32} (hE : DE a N F (i3 k) x y n) (hk : k ≤ 6) (hc : Nt c a N) (hd : d.1 224 = N) (e1 : d.1 246 (4 * i + 1) = x) (e2 : d.1 246 (4 * i + 2) = y) (e3 : d.1 246 (4 * i + 3) = n) :
    hb (Option.bind (F c) (fun r8 => Option.bind (FX0_behind (i3 (10 * k)) r8.1 r8.2) (fun r9 => some (r9, r8.2)))) (Option.bind (FX12_refusal 222 (i3 k) x y n d) (fun r8 => if r8.1 = 0 then Option.bind (FX12_live 222 (i3 k) (r8.2.1 246 (4 * i + 1)) (r8.2.1 246 (4 * i + 2)) (r8.2.1 246 (4 * i + 3)) r8.2) (fun r10 => some (0, r10)) else some (10 * i3 k + r8.1, r8.2))) (LV a N c d) := by
  obtain ⟨rc, N', h9, f1, f2, f3, f4⟩ := hE
  obtain ⟨c1, a1, a2, a3⟩ := f1 c hc
  obtain ⟨d1, b1, b2', b3⟩ := f2 d hd
  have v : ∀ j, d1.1 246 j = d.1 246 j := fun j => b3.fld 246 j (by unfold WD0; omega)
  rw [a1, b1, ob_some, ob_some]
  unfold FX0_behind
  dsimp only
  rw [v, v, v, e1, e2, e3]
  by_cases q : rc = 0
  · rw [if_pos q] at a2
    subst q
    rw [if_pos (show i3 0 = 0 from rfl), if_pos (show i3 0 = 0 from rfl), ob_some]
    obtain ⟨d2, k1, k2, k3⟩ := f3 rfl d1 b2'
    rw [k1, ob_some]
    exact hb_some ⟨rfl, N', f4, a2, k2, a3, mx_out.tr b3 k3, Or.inl rfl⟩
  · rw [if_neg q] at a2
    have q0 : ¬ i3 rc = 0 := by show ¬ i3 rc = i3 0; rw [i3_eq (by omega) (by omega)]; exact q
    rw [if_neg q0, if_neg q0, ob_some, i3_add, i3_Lmul, i3_add]
    refine hb_some ⟨rfl, N, fun _ _ => rfl, a2, b2', a3, b3, Or.inr ⟨?_, rfl⟩⟩
    show ¬ i3 _ = i3 0
    rw [i3_eq (by omega) (by omega)]
    omega
theorem B_live (ha : a = 4 ∨ a = 15) {i : Nat} (hi : i < 40) (hB : BL (nP N) c d i) (hc : Nt c a N) (hd : d.1 224 = N) : hb (FX0_live 169 (i3 i) a 38 c) (FX12_goBy 222 (i3 (4 * i)) d) (LV a N c d) := by
  obtain ⟨k, hk, h1, h2, x, y, n, h3, h4, h5, h6, h7⟩ := hB
  have hcc := hc
  obtain ⟨g, s, hg, hs⟩ := hcc
  have hP := g.1.2
  have hK := s.1.2
  unfold FX0_live FX12_goBy
  rw [if_neg (i3_ge0 (by omega)), if_pos (by show i3 i < i3 40; rw [i3_lt (by omega) (by omega)]; exact hi), mx_inb_i3 (by omega) (by omega), mx_chkT, mx_letI, i3_toNat (by omega), mx_inb_i3 (by omega) (by omega), mx_chkT, mx_letI, mx_letI, mx_letI, i3_toNat (by omega), i3_succ, i3_addL, i3_addL, mx_inb_i3 (by omega) (by omega), mx_chkT, mx_chkT, mx_inb_i3 (by omega) (by omega), mx_chkT, mx_inb_i3 (by omega) (by omega), mx_chkT, i3_toNat (by omega), i3_toNat (by omega), i3_toNat (by omega)]
  show hb (if c.1 170 i = 102 then Option.bind (FX4_pairUp a (c.1 171 i) (c.1 172 i) c) _ else if c.1 170 i = 103 then Option.bind (FX4_priceAt a (c.1 171 i) (c.1 173 i) c) _ else if c.1 170 i = 105 then Option.bind (FX4_partFrom a (c.1 171 i) c) _ else if c.1 170 i = 106 then Option.bind (FX4_weighAnew a (c.1 171 i) (c.1 172 i) (c.1 173 i) c) _ else if c.1 170 i = 107 then Option.bind (FX4_hasSet a (c.1 171 i) c) (fun r17 => if r17 = 0 then _ else Option.bind (FX4_crownAt a (c.1 171 i) (c.1 173 i) c) _) else if c.1 170 i = 108 then Option.bind (FX4_hasSet a (c.1 171 i) c) (fun r22 => if r22 = 0 then _ else Option.bind (FX4_openSet a (c.1 171 i) c) _) else Option.bind (FX9_growFrom 38 a (c.1 171 i) c) _) (if d.1 246 (4 * i) = 4 then Option.bind (FX12_isOdd 222 (d.1 246 (4 * i + 1)) d) (fun r13 => if r13 = 0 then some (10 * d.1 246 (4 * i) + 9, d) else Option.bind (FX12_refusal 222 (d.1 246 (4 * i)) (d.1 246 (4 * i + 1)) (d.1 246 (4 * i + 2)) (d.1 246 (4 * i + 3)) d) (fun r8 => if r8.1 = 0 then Option.bind (FX12_live 222 (d.1 246 (4 * i)) (r8.2.1 246 (4 * i + 1)) (r8.2.1 246 (4 * i + 2)) (r8.2.1 246 (4 * i + 3)) r8.2) (fun r10 => some (0, r10)) else some (10 * d.1 246 (4 * i) + r8.1, r8.2))) else if d.1 246 (4 * i) = 5 then Option.bind (FX12_isOdd 222 (d.1 246 (4 * i + 1)) d) (fun r13 => if r13 = 0 then some (10 * d.1 246 (4 * i) + 9, d) else Option.bind (FX12_refusal 222 (d.1 246 (4 * i)) (d.1 246 (4 * i + 1)) (d.1 246 (4 * i + 2)) (d.1 246 (4 * i + 3)) d) (fun r8 => if r8.1 = 0 then Option.bind (FX12_live 222 (d.1 246 (4 * i)) (r8.2.1 246 (4 * i + 1)) (r8.2.1 246 (4 * i + 2)) (r8.2.1 246 (4 * i + 3)) r8.2) (fun r10 => some (0, r10)) else some (10 * d.1 246 (4 * i) + r8.1, r8.2))) else Option.bind (FX12_refusal 222 (d.1 246 (4 * i)) (d.1 246 (4 * i + 1)) (d.1 246 (4 * i + 2)) (d.1 246 (4 * i + 3)) d) (fun r8 => if r8.1 = 0 then Option.bind (FX12_live 222 (d.1 246 (4 * i)) (r8.2.1 246 (4 * i + 1)) (r8.2.1 246 (4 * i + 2)) (r8.2.1 246 (4 * i + 3)) r8.2) (fun r10 => some (0, r10)) else some (10 * d.1 246 (4 * i) + r8.1, r8.2))) _
  rw [h1, h2, h3, h4]
  rcases (by omega : k = 0 ∨ k = 1 ∨ k = 2 ∨ k = 3 ∨ k = 4 ∨ k = 5 ∨ k = 6) with e | e | e | e | e | e | e <;> subst e
  · rw [if_neg (by omega)] at h5
    obtain ⟨y1, y2, y3⟩ := h6 (by omega)
    rw [y1, y2, if_pos (show i3 (100 + mi (3 + 0)) = 102 from rfl), if_neg (show ¬ i3 0 = 4 by decide), if_neg (show ¬ i3 0 = 5 by decide)]
    have e0 : ∀ z : Option (Int32 × mB), Option.bind z (fun r6 => some (r6.1, r6.2)) = Option.bind z (fun r8 => Option.bind (FX0_behind (i3 (10 * 0)) r8.1 r8.2) (fun r9 => some (r9, r8.2))) := fun z => by
      congr 1
      funext r
      unfold FX0_behind
      by_cases q : r.1 = 0
      · rw [if_pos q, ob_some, q]
      · rw [if_neg q, ob_some]
        show some (r.1, r.2) = some (0 + r.1, r.2)
        rw [Int32.zero_add]
    rw [e0]
    exact DE_go (k := 0) (F := fun m => FX4_pairUp a (i3 x) (i3 y) m) (DE_pair g s h5 y3 _) (by omega) hc hd h4 y2 rfl
  · rw [if_neg (by omega)] at h5
    rw [if_neg (show ¬ i3 (100 + mi (3 + 1)) = 102 by decide), if_neg (show ¬ i3 (100 + mi (3 + 1)) = 103 by decide), if_pos (show i3 (100 + mi (3 + 1)) = 105 from rfl), if_neg (show ¬ i3 1 = 4 by decide), if_neg (show ¬ i3 1 = 5 by decide)]
    exact DE_go (k := 1) (F := fun m => FX4_partFrom a (i3 x) m) (DE_part g s h5 _ _) (by omega) hc hd h4 rfl rfl
  · rw [if_neg (by omega)] at h5
    obtain ⟨y1, y2, y3⟩ := h6 (by omega)
    obtain ⟨n1, n2, n3⟩ := h7 (by omega)
    rw [if_pos rfl] at n3
    rw [y1, y2, n1, n2, if_neg (show ¬ i3 (100 + mi (3 + 2)) = 102 by decide), if_neg (show ¬ i3 (100 + mi (3 + 2)) = 103 by decide), if_neg (show ¬ i3 (100 + mi (3 + 2)) = 105 by decide), if_pos (show i3 (100 + mi (3 + 2)) = 106 from rfl), if_neg (show ¬ i3 2 = 4 by decide), if_neg (show ¬ i3 2 = 5 by decide)]
    exact DE_go (k := 2) (F := fun m => FX4_weighAnew a (i3 x) (i3 y) (i3 n) m) (DE_weigh g s h5 y3 n3.1 n3.2) (by omega) hc hd h4 y2 n2
  · rw [if_neg (by omega)] at h5
    obtain ⟨n1, n2, n3⟩ := h7 (by omega)
    rw [if_neg (by omega)] at n3
    rw [n1, n2, if_neg (show ¬ i3 (100 + mi (3 + 3)) = 102 by decide), if_pos (show i3 (100 + mi (3 + 3)) = 103 from rfl), if_neg (show ¬ i3 3 = 4 by decide), if_neg (show ¬ i3 3 = 5 by decide)]
    exact DE_go (k := 3) (F := fun m => FX4_priceAt a (i3 x) (i3 n) m) (DE_price g h5 _ n3) (by omega) hc hd h4 rfl n2
  · rw [if_pos (by omega)] at h5
    obtain ⟨n1, n2, n3⟩ := h7 (by omega)
    rw [if_neg (by omega)] at n3
    rw [n1, n2, if_neg (show ¬ i3 (100 + mi (3 + 4)) = 102 by decide), if_neg (show ¬ i3 (100 + mi (3 + 4)) = 103 by decide), if_neg (show ¬ i3 (100 + mi (3 + 4)) = 105 by decide), if_neg (show ¬ i3 (100 + mi (3 + 4)) = 106 by decide), if_pos (show i3 (100 + mi (3 + 4)) = 107 from rfl), if_pos (show i3 4 = 4 from rfl)]
    by_cases q : x < nK N
    · rw [C_hasSet_y s hs q, M_isOdd_y s hd q, ob_some, ob_some, if_neg (show ¬ (1 : Int32) = 0 by decide), if_neg (show ¬ (1 : Int32) = 0 by decide)]
      exact DE_go (k := 4) (F := fun m => FX4_crownAt a (i3 x) (i3 n) m) (DE_crown s q _ n3) (by omega) hc hd h4 rfl n2
    · have hx : ∀ k, k < nK N → i3 x ≠ i3 k := fun k hk e => by rw [i3_eq (by omega) (by omega)] at e; omega
      rw [C_hasSet_n s hs hx, M_isOdd_n s hd hx, ob_some, ob_some, if_pos rfl, if_pos rfl]
      exact hb_some (LV_no hc hd (x := 49) (by decide))
  · rw [if_pos (by omega)] at h5
    rw [if_neg (show ¬ i3 (100 + mi (3 + 5)) = 102 by decide), if_neg (show ¬ i3 (100 + mi (3 + 5)) = 103 by decide), if_neg (show ¬ i3 (100 + mi (3 + 5)) = 105 by decide), if_neg (show ¬ i3 (100 + mi (3 + 5)) = 106 by decide), if_neg (show ¬ i3 (100 + mi (3 + 5)) = 107 by decide), if_pos (show i3 (100 + mi (3 + 5)) = 108 from rfl), if_neg (show ¬ i3 5 = 4 by decide), if_pos (show i3 5 = 5 from rfl)]
    by_cases q : x < nK N
    · rw [C_hasSet_y s hs q, M_isOdd_y s hd q, ob_some, ob_some, if_neg (show ¬ (1 : Int32) = 0 by decide), if_neg (show ¬ (1 : Int32) = 0 by decide)]
      exact DE_go (k := 5) (F := fun m => FX4_openSet a (i3 x) m) (DE_open s q _ _) (by omega) hc hd h4 rfl rfl
    · have hx : ∀ k, k < nK N → i3 x ≠ i3 k := fun k hk e => by rw [i3_eq (by omega) (by omega)] at e; omega
      rw [C_hasSet_n s hs hx, M_isOdd_n s hd hx, ob_some, ob_some, if_pos rfl, if_pos rfl]
      exact hb_some (LV_no hc hd (x := 59) (by decide))
  · rw [if_neg (by omega)] at h5
    rw [if_neg (show ¬ i3 (100 + mi (3 + 6)) = 102 by decide), if_neg (show ¬ i3 (100 + mi (3 + 6)) = 103 by decide), if_neg (show ¬ i3 (100 + mi (3 + 6)) = 105 by decide), if_neg (show ¬ i3 (100 + mi (3 + 6)) = 106 by decide), if_neg (show ¬ i3 (100 + mi (3 + 6)) = 107 by decide), if_neg (show ¬ i3 (100 + mi (3 + 6)) = 108 by decide), if_neg (show ¬ i3 6 = 4 by decide), if_neg (show ¬ i3 6 = 5 by decide)]
    exact DE_go (k := 6) (F := fun m => FX9_growFrom 38 a (i3 x) m) (DE_grow g s ha h5 _ _) (by omega) hc hd h4 rfl rfl
end BOOKE
