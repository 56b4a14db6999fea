/-! ===== the reference's first walk ===== -/
section SURV
variable {N : Rw} {m : mB}
/-- the first of the greatest total -/
def isB (N : Rw) (done : List (List (Nat × Nat))) (B : List (Nat × Nat)) (t : Int) : Prop := (done = [] ∧ t = -1) ∨ ∃ a b, done = a ++ B :: b ∧ ((tk N B).1 : Int) = t ∧ (∀ M ∈ a, ((tk N M).1 : Int) < t) ∧ ∀ M ∈ b, ((tk N M).1 : Int) ≤ t
def P1 (N : Rw) (done : List (List (Nat × Nat))) (m : mB) : Prop := m.1 222 46 = 0 ∧ (∀ k, k < 6 → m.1 242 k = i3 (wy (done.map (tk N)) k) ∧ ∃ h, m.1 241 k = z3 h ∧ isHv (done.map (tk N)) k h) ∧ (∃ t B, m.1 222 41 = z3 t ∧ isB N done B t ∧ ∀ x, x < nP N → done ≠ [] → m.1 239 x = mt B x) ∧ ∀ M ∈ done, (tk N M).1 ≤ 495
theorem isB_b {done : List (List (Nat × Nat))} {B : List (Nat × Nat)} {t : Int} (h : isB N done B t) (hb : ∀ M ∈ done, (tk N M).1 ≤ 495) : -1 ≤ t ∧ t ≤ 495 := by
  rcases h with ⟨-, rfl⟩ | ⟨a, b, e, h1, -, -⟩
  · omega
  · have := hb B (by rw [e]; simp)
    omega
theorem isHv_one (x : Nat × Nat) : isHv [x] x.2 x.1 := Or.inr ⟨x, by simp, rfl, rfl, by simp⟩
theorem M_leaf_L50 (g : GI N) (hN : m.1 224 = N) : hw (FX12_leaf_L50 222 mx_FU (i3 0) m) (fun m' => mx_out (fun b _ => b = 239) m m' ∧ ∀ x, x < nP N → m'.1 239 x = m.1 238 x) := by
  have hn := g.1.2
  refine lp_inv (L := fun fu y m => FX12_leaf_L50 222 fu y m) (n := nP N) (fun k m' => mx_out (fun b _ => b = 239) m m' ∧ ∀ x, x < k → m'.1 239 x = m.1 238 x) ?_ ?_ 0 mx_FU m (by omega) (FU_lt (by omega)) ⟨mx_out.rf, fun x hx => by omega⟩
  · intro fu m1 hI
    show hw (FX12_leaf_L50 222 (fu + 1) (i3 (nP N)) m1) _
    have e1 : m1.1 (222 + 2) 0 = i3 (nP N) := by show m1.1 224 0 = _; rw [hI.1.cell 224 (fun j => by omega), hN, N0 g]
    rw [FX12_leaf_L50, e1, if_pos (by rw [i3_le (by omega) (by omega)]; omega)]
    exact hw_some hI
  · intro fu k m1 hk hI hs
    show hw (FX12_leaf_L50 222 (fu + 1) (i3 k) m1) _
    have e1 : m1.1 (222 + 2) 0 = i3 (nP N) := by show m1.1 224 0 = _; rw [hI.1.cell 224 (fun j => by omega), hN, N0 g]
    rw [FX12_leaf_L50, e1, if_neg (by rw [i3_le (by omega) (by omega)]; omega), mx_inb_i3 (by omega) (by omega), mx_chkT, i3_toNat (by omega), mx_letI, mx_letI, i3_succ]
    refine hs _ ⟨mx_out_up hI.1 rfl rfl, fun x hx => ?_⟩
    show mx_up m1.1 239 k (m1.1 238 k) 239 x = _
    rw [up_at, hI.1.cell 238 (fun j => by omega)]
    by_cases c : x = k
    · rw [if_pos c, c]
    · rw [if_neg c]; exact hI.2 x (by omega)
theorem M_leaf1 (g : GI N) {done : List (List (Nat × Nat))} {M : List (Nat × Nat)} (hP : P1 N done m) (hN : m.1 224 = N) (hm : ∀ x, x < 10 → m.1 238 x = mt M x) (h5 : (tk N M).2 ≤ 5) (h495 : (tk N M).1 ≤ 495) :
    hw (FX12_leaf 222 (i3 (tk N M).1) (i3 (tk N M).2) m) (fun m' => P1 N (done ++ [M]) m' ∧ m'.1 224 = m.1 224 ∧ m'.1 238 = m.1 238) := by
  have hn := g.1.2
  obtain ⟨p1, p2, ⟨t, B, p3, p4, p5⟩, p6⟩ := hP
  have hbt := isB_b p4 p6
  obtain ⟨w1, h, w2, w3⟩ := p2 (tk N M).2 (by omega)
  have hbh := isHv_b w3 (fun x hx => by
    obtain ⟨y, hy, rfl⟩ := List.mem_map.mp hx
    have := p6 y hy; omega)
  unfold FX12_leaf
  rw [if_pos p1, mx_inb_i3 (by omega) (by omega), mx_chkT, i3_toNat (by omega), mx_letI]
  refine hw_letK (fun K hK => ?_)
  have hall : ∀ M' ∈ done ++ [M], (tk N M').1 ≤ 495 := fun M' hM => by
    rw [List.mem_append, List.mem_singleton] at hM
    rcases hM with hM | rfl
    · exact p6 M' hM
    · exact h495
  have kk : ∀ m1 : mB, mx_out (fun b _ => b = 242 ∨ b = 241) m m1 → (∀ k, k < 6 → m1.1 242 k = i3 (wy ((done ++ [M]).map (tk N)) k) ∧ ∃ h, m1.1 241 k = z3 h ∧ isHv ((done ++ [M]).map (tk N)) k h) → hw (K m1) (fun m' => P1 N (done ++ [M]) m' ∧ m'.1 224 = m.1 224 ∧ m'.1 238 = m.1 238) := by
    intro m1 z q2
    rw [hK]
    dsimp only
    have e41 : m1.1 222 41 = z3 t := by rw [z.fld 222 41 (by omega)]; exact p3
    have hN1 : m1.1 224 = N := by rw [z.cell 224 (fun j => by omega)]; exact hN
    rw [e41, z3_i3 (tk N M).1]
    have e7 := z3_lt (a := t) (b := ((tk N M).1 : Int)) (by omega) (by omega) (by omega) (by omega)
    by_cases c : t < ((tk N M).1 : Int)
    · rw [if_pos (e7.mpr c), mx_letI]
      have z2 : mx_out (fun b j => b = 222 ∧ j = 41) m1 (mx_up m1.1 222 41 (z3 ((tk N M).1 : Int)), m1.2) := mx_out_up mx_out.rf rfl ⟨rfl, rfl⟩
      obtain ⟨m2, e2, z3', A2⟩ := M_leaf_L50 (m := (mx_up m1.1 222 41 (z3 ((tk N M).1 : Int)), m1.2)) g (by rw [z2.cell 224 (fun j => by omega)]; exact hN1)
      show hw (Option.bind (FX12_leaf_L50 222 mx_FU (i3 0) (mx_up m1.1 222 41 (z3 ((tk N M).1 : Int)), m1.2)) _) _
      rw [e2, ob_some]
      have cel : ∀ b, b ≠ 239 → b ≠ 222 → m2.1 b = m1.1 b := fun b hb hb2 => by rw [z3'.cell b (fun j => hb), z2.cell b (fun j => by omega)]
      refine hw_some ⟨⟨?_, fun k hk => ?_, ⟨((tk N M).1 : Int), M, ?_, Or.inr ⟨done, [], by simp, rfl, fun M' hM' => ?_, by simp⟩, fun x hx _ => ?_⟩, hall⟩, ?_, ?_⟩
      · rw [z3'.fld 222 46 (by omega), z2.fld 222 46 (by omega), z.fld 222 46 (by omega)]; exact p1
      · rw [cel 242 (by omega) (by omega), cel 241 (by omega) (by omega)]; exact q2 k hk
      · rw [z3'.fld 222 41 (by omega)]; exact mx_up_self m1.1 222 41 _
      · rcases p4 with ⟨e, -⟩ | ⟨a, b, e, h1, h2, h3⟩
        · rw [e] at hM'; cases hM'
        · rw [e, List.mem_append, List.mem_cons] at hM'
          rcases hM' with w | w | w
          · have := h2 M' w; omega
          · rw [w]; omega
          · have := h3 M' w; omega
      · rw [A2 x hx, z2.cell 238 (fun j => by omega), z.cell 238 (fun j => by omega)]; exact hm x (by omega)
      · rw [cel 224 (by omega) (by omega), z.cell 224 (fun j => by omega)]
      · rw [cel 238 (by omega) (by omega), z.cell 238 (fun j => by omega)]
    · rw [if_neg (fun q => c (e7.mp q))]
      refine hw_some ⟨⟨by rw [z.fld 222 46 (by omega)]; exact p1, q2, ⟨t, B, e41, ?_, fun x hx _ => ?_⟩, hall⟩, z.cell 224 (fun j => by omega), z.cell 238 (fun j => by omega)⟩
      · rcases p4 with ⟨e, e2⟩ | ⟨a, b, e, h1, h2, h3⟩
        · omega
        · refine Or.inr ⟨a, b ++ [M], by rw [e]; simp, h1, h2, fun M' hM' => ?_⟩
          rw [List.mem_append, List.mem_singleton] at hM'
          rcases hM' with w | rfl
          · exact h3 M' w
          · omega
      · rw [z.cell 239 (fun j => by omega)]
        refine p5 x hx (fun q => ?_)
        rcases p4 with ⟨e, e2⟩ | ⟨a, b, e, h1, h2, h3⟩
        · omega
        · rw [q] at e; simp at e
  -- how many, the heaviest
  have hmap : (done ++ [M]).map (tk N) = done.map (tk N) ++ [tk N M] := by simp
  have e19 : (mx_up m.1 (222 + 20) (tk N M).2 (m.1 (222 + 20) (tk N M).2 + 1), m.2).1 (222 + 19) (tk N M).2 = z3 h := by
    show mx_up m.1 242 (tk N M).2 (m.1 242 (tk N M).2 + 1) 241 (tk N M).2 = _
    rw [up_off _ (by omega)]; exact w2
  have zA : mx_out (fun b _ => b = 242 ∨ b = 241) m (mx_up m.1 (222 + 20) (tk N M).2 (m.1 (222 + 20) (tk N M).2 + 1), m.2) := mx_out_up mx_out.rf rfl (Or.inl rfl)
  have r242 : ∀ k, (mx_up m.1 (222 + 20) (tk N M).2 (m.1 (222 + 20) (tk N M).2 + 1), m.2).1 242 k = i3 (wy ((done ++ [M]).map (tk N)) k) ∨ 6 ≤ k := by
    intro k
    by_cases hk : k < 6
    · left
      show mx_up m.1 242 (tk N M).2 (m.1 242 (tk N M).2 + 1) 242 k = _
      rw [up_at, hmap, wy_app]
      by_cases c : k = (tk N M).2
      · rw [if_pos c, w1, i3_succ, c]
        congr 2
        simp [wy]
      · have hne : ¬ (tk N M).2 = k := fun q => c q.symm
        rw [if_neg c, (p2 k hk).1]
        congr 1
        simp [wy, hne]
    · right; omega
  have oldh : ∀ k, k < 6 → k ≠ (tk N M).2 → ∃ h, m.1 241 k = z3 h ∧ isHv ((done ++ [M]).map (tk N)) k h := by
    intro k hk hne
    obtain ⟨-, h', x1, x2⟩ := p2 k hk
    refine ⟨h', x1, ?_⟩
    rw [hmap]
    have := isHv_app x2 (B := [tk N M]) (t' := -1) (Or.inl ⟨rfl, by simp; exact fun q => hne q.symm⟩)
    have hb := isHv_b x2 (fun x hx => by
      obtain ⟨y, hy, rfl⟩ := List.mem_map.mp hx
      have := p6 y hy; omega)
    rw [if_neg (by omega)] at this
    exact this
  have newh := isHv_app w3 (isHv_one (tk N M))
  rw [← hmap] at newh
  rw [e19, z3_i3 (tk N M).1]
  have e7 := z3_le (a := ((tk N M).1 : Int)) (b := h) (by omega) (by omega) (by omega) (by omega)
  by_cases c : ((tk N M).1 : Int) ≤ h
  · rw [if_pos (e7.mpr c)]
    rw [if_neg (by omega)] at newh
    refine kk _ zA (fun k hk => ⟨(r242 k).resolve_right (by omega), ?_⟩)
    by_cases ck : k = (tk N M).2
    · rw [ck]; exact ⟨h, e19, newh⟩
    · obtain ⟨h', x1, x2⟩ := oldh k hk ck
      refine ⟨h', ?_, x2⟩
      show mx_up m.1 242 (tk N M).2 (m.1 242 (tk N M).2 + 1) 241 k = _
      rw [up_off _ (by omega)]; exact x1
  · rw [if_neg (fun q => c (e7.mp q)), mx_letI]
    rw [if_pos (by omega)] at newh
    refine kk _ (mx_out_up zA rfl (Or.inr rfl)) (fun k hk => ⟨?_, ?_⟩)
    · show mx_up (mx_up m.1 (222 + 20) (tk N M).2 (m.1 (222 + 20) (tk N M).2 + 1)) 241 (tk N M).2 (z3 ((tk N M).1 : Int)) 242 k = _
      rw [up_off _ (by omega)]
      exact (r242 k).resolve_right (by omega)
    · by_cases ck : k = (tk N M).2
      · rw [ck]
        exact ⟨_, mx_up_self (mx_up m.1 (222 + 20) (tk N M).2 (m.1 (222 + 20) (tk N M).2 + 1)) 241 (tk N M).2 _, newh⟩
      · obtain ⟨h', x1, x2⟩ := oldh k hk ck
        refine ⟨h', ?_, x2⟩
        show mx_up (mx_up m.1 242 (tk N M).2 (m.1 242 (tk N M).2 + 1)) 241 (tk N M).2 (z3 ((tk N M).1 : Int)) 241 k = _
        rw [up_at, if_neg ck, up_off _ (by omega)]; exact x1
end SURV
