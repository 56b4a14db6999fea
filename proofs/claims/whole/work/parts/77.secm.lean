/-! ===== the reference's second walk ===== -/
section SECM
variable {N : Rw} {m : mB} {T nq : Nat} {qp qv : Nat → Nat}
def aqv (v : Nat) : Int32 := if v = 255 then -1 else i3 v
/-- a pairing is as asked -/
def asq (nq : Nat) (qp qv : Nat → Nat) (M : List (Nat × Nat)) : Bool := (List.range nq).all (fun k => decide (mt M (qp k) = aqv (qv k)))
theorem asq_iff {M : List (Nat × Nat)} : asq nq qp qv M = true ↔ ∀ k, k < nq → mt M (qp k) = aqv (qv k) := by
  unfold asq
  rw [List.all_eq_true]
  constructor
  · intro h k hk
    simpa using h k (List.mem_range.mpr hk)
  · intro h k hk
    simpa using h k (List.mem_range.mp hk)
def AK (nq : Nat) (qp qv : Nat → Nat) (m : mB) : Prop := m.1 222 47 = i3 (2 * nq) ∧ nq ≤ 6 ∧ ∀ k, k < nq → m.1 223 (2 * k) = i3 (qp k) ∧ m.1 223 (2 * k + 1) = i3 (qv k) ∧ qp k < 10 ∧ qv k < 256
theorem M_isAsked (hA : AK nq qp qv m) {M : List (Nat × Nat)} (hm : ∀ x, x < 10 → m.1 238 x = mt M x) : FX12_isAsked 222 m = some (b2 (asq nq qp qv M)) := by
  obtain ⟨h1, h2, h3⟩ := hA
  have key := lp_all (L := fun fu y => FX12_isAsked_L2 222 m fu y) (fun k => i3 (2 * k)) (n := nq) (fun k => mt M (qp k) = aqv (qv k)) (0 : Int32) (fun fu => by
      show FX12_isAsked_L2 222 m (fu + 1) (i3 (2 * nq)) = _
      rw [FX12_isAsked_L2, h1, if_pos (by rw [i3_le (by omega) (by omega)]; omega)]) (fun fu k hk _ => by
      show (_ ∧ FX12_isAsked_L2 222 m (fu + 1) (i3 (2 * k)) = FX12_isAsked_L2 222 m fu (i3 (2 * (k + 1)))) ∨ (_ ∧ FX12_isAsked_L2 222 m (fu + 1) (i3 (2 * k)) = some (.inl 0))
      obtain ⟨t1, t2, t3, t4⟩ := h3 k hk
      have e1 : m.1 (222 + 1) (2 * k) = i3 (qp k) := t1
      have e2 : m.1 (222 + 1) (2 * k + 1) = i3 (qv k) := t2
      have e3 : m.1 (222 + 16) (qp k) = mt M (qp k) := hm _ t3
      have e4 : i3 (2 * k) + 2 = i3 (2 * (k + 1)) := i3_add (2 * k) 2
      rw [FX12_isAsked_L2, h1, if_neg (by rw [i3_le (by omega) (by omega)]; omega), mx_inb_i3 (by omega) (by omega), mx_chkT, i3_toNat (by omega), e1, mx_inb_i3 t3 (by omega), mx_chkT, i3_succ, mx_inb_i3 (by omega) (by omega), mx_chkT, i3_toNat (by omega), e2, i3_toNat (by omega), e3, e4]
      unfold aqv
      by_cases c : qv k = 255
      · rw [if_pos (show i3 (qv k) = 255 by rw [c]; rfl), if_pos c]
        by_cases c2 : mt M (qp k) = -1
        · rw [if_pos c2]; exact Or.inl ⟨c2, rfl⟩
        · rw [if_neg c2]; exact Or.inr ⟨c2, rfl⟩
      · rw [if_neg (show ¬ i3 (qv k) = 255 from fun e => c ((i3_eq (a := qv k) (b := 255) (by omega) (by omega)).mp e)), if_neg c]
        by_cases c2 : mt M (qp k) = i3 (qv k)
        · rw [if_pos c2]; exact Or.inl ⟨c2, rfl⟩
        · rw [if_neg c2]; exact Or.inr ⟨c2, rfl⟩) mx_FU (FU_lt (by omega))
  unfold FX12_isAsked
  rcases key with ⟨e, h⟩ | ⟨e, h⟩
  · show Option.bind (FX12_isAsked_L2 222 m mx_FU (i3 (2 * 0))) _ = _
    rw [e, ob_some, asq_iff.mpr h]
    rfl
  · show Option.bind (FX12_isAsked_L2 222 m mx_FU (i3 (2 * 0))) _ = _
    have hf : asq nq qp qv M = false := by
      cases hb : asq nq qp qv M with
      | false => rfl
      | true => exact absurd (asq_iff.mp hb) h
    rw [e, ob_some, hf]
    rfl
theorem M_leaf_L121 (g : GI N) (hN : m.1 224 = N) {M : List (Nat × Nat)} (hm : ∀ x, x < 10 → m.1 238 x = mt M x) : hw (FX12_leaf_L121 222 mx_FU (i3 0) m) (fun m' => mx_out (fun b _ => b = 243) m m' ∧ ∀ l, l < nL N → m'.1 243 l = if mt M (nA N l) = i3 (nB N l) then m.1 243 l + 1 else m.1 243 l) := by
  have hn := g.1.2
  have hL := g.2.1.2
  refine lp_inv (L := fun fu y m => FX12_leaf_L121 222 fu y m) (n := nL N) (fun k m' => mx_out (fun b _ => b = 243) m m' ∧ (∀ l, l < k → m'.1 243 l = if mt M (nA N l) = i3 (nB N l) then m.1 243 l + 1 else m.1 243 l) ∧ ∀ l, k ≤ l → m'.1 243 l = m.1 243 l) ?_ ?_ 0 mx_FU m (by omega) (FU_lt (by omega)) ⟨mx_out.rf, fun x hx => by omega, fun l _ => rfl⟩
  · intro fu m1 hI
    show hw (FX12_leaf_L121 222 (fu + 1) (i3 (nL N)) m1) _
    have e1 : m1.1 (222 + 2) 1 = i3 (nL N) := by show m1.1 224 1 = _; rw [hI.1.cell 224 (fun j => by omega), hN, g.2.1.1]
    rw [FX12_leaf_L121, e1, if_pos (by rw [i3_le (by omega) (by omega)]; omega)]
    exact hw_some ⟨hI.1, hI.2.1⟩
  · intro fu k m1 hk hI hs
    show hw (FX12_leaf_L121 222 (fu + 1) (i3 k) m1) _
    obtain ⟨a1, a2, a3, a4, -⟩ := g.2.2.1 k hk
    have e1 : m1.1 (222 + 2) 1 = i3 (nL N) := by show m1.1 224 1 = _; rw [hI.1.cell 224 (fun j => by omega), hN, g.2.1.1]
    have e3 : m1.1 (222 + 2) (3 + k) = i3 (nA N k) := by show m1.1 224 _ = _; rw [hI.1.cell 224 (fun j => by omega), hN, a1]
    have e4 : m1.1 (222 + 2) (33 + k) = i3 (nB N k) := by show m1.1 224 _ = _; rw [hI.1.cell 224 (fun j => by omega), hN, a2]
    have e5 : m1.1 (222 + 16) (nA N k) = mt M (nA N k) := by show m1.1 238 _ = _; rw [hI.1.cell 238 (fun j => by omega)]; exact hm _ (by omega)
    rw [FX12_leaf_L121, e1, if_neg (by rw [i3_le (by omega) (by omega)]; omega)]
    show hw (mx_chk (mx_inb (i3 3 + i3 k) 432) (mx_chk (mx_inb (m1.1 (222 + 2) (Int32.toNatClampNeg (i3 3 + i3 k))) 10) (mx_chk (mx_inb (i3 33 + i3 k) 432) (if m1.1 (222 + 16) (Int32.toNatClampNeg (m1.1 (222 + 2) (Int32.toNatClampNeg (i3 3 + i3 k)))) = m1.1 (222 + 2) (Int32.toNatClampNeg (i3 33 + i3 k)) then _ else _)))) _
    rw [i3_add, i3_add, i3_toNat (by omega), i3_toNat (by omega), e3, e4, mx_inb_i3 (by omega) (by omega), mx_chkT, mx_inb_i3 (by omega) (by omega), mx_chkT, mx_inb_i3 (by omega) (by omega), mx_chkT, i3_toNat (by omega), e5, mx_inb_i3 (by omega) (by omega), mx_chkT, i3_toNat (by omega), mx_letI, mx_letI, mx_letI, i3_succ]
    by_cases c : mt M (nA N k) = i3 (nB N k)
    · rw [if_pos c]
      refine hs _ ⟨mx_out_up hI.1 rfl rfl, fun l hl => ?_, fun l hl => ?_⟩
      · show mx_up m1.1 243 k (m1.1 243 k + 1) 243 l = _
        rw [up_at]
        by_cases c2 : l = k
        · rw [if_pos c2, c2, if_pos c, hI.2.2 k (by omega)]
        · rw [if_neg c2]; exact hI.2.1 l (by omega)
      · show mx_up m1.1 243 k (m1.1 243 k + 1) 243 l = _
        rw [up_at, if_neg (by omega)]; exact hI.2.2 l (by omega)
    · rw [if_neg c]
      refine hs _ ⟨hI.1, fun l hl => ?_, fun l hl => hI.2.2 l (by omega)⟩
      by_cases c2 : l = k
      · rw [c2, if_neg c]; exact hI.2.2 k (by omega)
      · exact hI.2.1 l (by omega)
theorem mt1 {M : List (Nat × Nat)} (hM : ∀ y ∈ M, y.1 < 10 ∧ y.2 < 10) (x : Nat) : ∃ u, u < 11 ∧ mt M x + 1 = i3 u := by
  rcases mt_lt hM x with e | ⟨k, hk, e⟩
  · exact ⟨0, by omega, by rw [e]; rfl⟩
  · exact ⟨k + 1, by omega, by rw [e, i3_succ]⟩
theorem M_leaf_L192 (g : GI N) (hN : m.1 224 = N) {M : List (Nat × Nat)} (hm : ∀ x, x < 10 → m.1 238 x = mt M x) (hM : ∀ y ∈ M, y.1 < 10 ∧ y.2 < 10) : hw (FX12_leaf_L192 222 mx_FU (i3 0) m) (fun m' => mx_out (fun b _ => b = 244) m m' ∧ ∀ x, x < nP N → ∀ j, j < 11 → m'.1 244 (11 * x + j) = if mt M x + 1 = i3 j then m.1 244 (11 * x + j) + 1 else m.1 244 (11 * x + j)) := by
  have hn := g.1.2
  refine lp_inv (L := fun fu y m => FX12_leaf_L192 222 fu y m) (n := nP N) (fun k m' => mx_out (fun b _ => b = 244) m m' ∧ (∀ x, x < k → ∀ j, j < 11 → m'.1 244 (11 * x + j) = if mt M x + 1 = i3 j then m.1 244 (11 * x + j) + 1 else m.1 244 (11 * x + j)) ∧ ∀ x, k ≤ x → ∀ j, j < 11 → m'.1 244 (11 * x + j) = m.1 244 (11 * x + j)) ?_ ?_ 0 mx_FU m (by omega) (FU_lt (by omega)) ⟨mx_out.rf, fun x hx => by omega, fun x _ j _ => rfl⟩
  · intro fu m1 hI
    show hw (FX12_leaf_L192 222 (fu + 1) (i3 (nP N)) m1) _
    have e1 : m1.1 (222 + 2) 0 = i3 (nP N) := by show m1.1 224 0 = _; rw [hI.1.cell 224 (fun j => by omega), hN, N0 g]
    rw [FX12_leaf_L192, e1, if_pos (by rw [i3_le (by omega) (by omega)]; omega)]
    exact hw_some ⟨hI.1, hI.2.1⟩
  · intro fu k m1 hk hI hs
    show hw (FX12_leaf_L192 222 (fu + 1) (i3 k) m1) _
    obtain ⟨u, hu, eu⟩ := mt1 hM k
    have e1 : m1.1 (222 + 2) 0 = i3 (nP N) := by show m1.1 224 0 = _; rw [hI.1.cell 224 (fun j => by omega), hN, N0 g]
    have e5 : m1.1 (222 + 16) k = mt M k := by show m1.1 238 _ = _; rw [hI.1.cell 238 (fun j => by omega)]; exact hm _ (by omega)
    have e6 : (11 * i3 k + mt M k) + 1 = i3 (11 * k + u) := by
      rw [Int32.add_assoc, eu, i3_Lmul, i3_add]
    rw [FX12_leaf_L192, e1, if_neg (by rw [i3_le (by omega) (by omega)]; omega), mx_inb_i3 (by omega) (by omega), mx_chkT, i3_toNat (by omega), e5, e6, mx_inb_i3 (by omega) (by omega), mx_chkT, i3_toNat (by omega), mx_letI, mx_letI, i3_succ]
    refine hs _ ⟨mx_out_up hI.1 rfl rfl, fun x hx j hj => ?_, fun x hx j hj => ?_⟩
    · show mx_up m1.1 244 (11 * k + u) (m1.1 244 (11 * k + u) + 1) 244 (11 * x + j) = _
      rw [up_at]
      by_cases c2 : x = k
      · subst c2
        by_cases c3 : j = u
        · subst c3
          rw [if_pos rfl, if_pos eu, hI.2.2 x (by omega) j hj]
        · rw [if_neg (by omega), if_neg (by rw [eu, i3_eq (by omega) (by omega)]; omega), hI.2.2 x (by omega) j hj]
      · rw [if_neg (by omega)]; exact hI.2.1 x (by omega) j hj
    · show mx_up m1.1 244 (11 * k + u) (m1.1 244 (11 * k + u) + 1) 244 (11 * x + j) = _
      rw [up_at, if_neg (by omega)]; exact hI.2.2 x (by omega) j hj
/-- the greatest total below T -/
def isNx (N : Rw) (T : Nat) (done : List (List (Nat × Nat))) (s : Int) : Prop := (s = -1 ∧ ∀ M ∈ done, ¬ (tk N M).1 < T) ∨ ((∃ M ∈ done, ((tk N M).1 : Int) = s) ∧ s < T ∧ ∀ M ∈ done, (tk N M).1 < T → ((tk N M).1 : Int) ≤ s)
theorem isNx_b {done : List (List (Nat × Nat))} {s : Int} (h : isNx N T done s) (hT : T ≤ 495) : -1 ≤ s ∧ s < 495 ∨ s = -1 := by
  rcases h with ⟨e, -⟩ | ⟨⟨M, -, e⟩, h2, -⟩
  · exact Or.inr e
  · exact Or.inl ⟨by omega, by omega⟩
def P2 (N : Rw) (T nq : Nat) (qp qv : Nat → Nat) (done : List (List (Nat × Nat))) (m : mB) : Prop := m.1 222 46 = 1 ∧ m.1 222 41 = i3 T ∧ T ≤ 495 ∧ AK nq qp qv m ∧ (∃ s : Int, m.1 222 42 = z3 s ∧ isNx N T done s) ∧
  m.1 222 43 = i3 (done.countP (fun M => decide ((tk N M).1 = T))) ∧
  (∀ l, l < nL N → m.1 243 l = i3 (done.countP (fun M => decide ((tk N M).1 = T) && decide (mt M (nA N l) = i3 (nB N l))))) ∧
  m.1 222 44 = i3 (done.countP (fun M => decide ((tk N M).1 = T) && asq nq qp qv M)) ∧
  (∀ x, x < nP N → ∀ j, j < 11 → m.1 244 (11 * x + j) = i3 (done.countP (fun M => decide ((tk N M).1 = T) && asq nq qp qv M && decide (mt M x + 1 = i3 j))))
theorem cp1 {α : Type} (l : List α) (a : α) (P : α → Bool) : (l ++ [a]).countP P = l.countP P + (if P a = true then 1 else 0) := by
  rw [List.countP_append, List.countP_cons, List.countP_nil]
  omega
theorem P2_up {done : List (List (Nat × Nat))} {m m' : mB} (h : P2 N T nq qp qv done m) (z : mx_out (fun b _ => b = 238) m m') : P2 N T nq qp qv done m' := by
  unfold P2 AK at h ⊢
  rw [z.cell 222 (fun j => by omega), z.cell 223 (fun j => by omega), z.cell 243 (fun j => by omega), z.cell 244 (fun j => by omega)]
  exact h
theorem M_leaf2 (g : GI N) {done : List (List (Nat × Nat))} {M : List (Nat × Nat)} (hP : P2 N T nq qp qv done m) (hN : m.1 224 = N) (hm : ∀ x, x < 10 → m.1 238 x = mt M x) (h495 : (tk N M).1 ≤ 495) (hM : ∀ y ∈ M, y.1 < 10 ∧ y.2 < 10) :
    hw (FX12_leaf 222 (i3 (tk N M).1) (i3 (tk N M).2) m) (fun m' => P2 N T nq qp qv (done ++ [M]) m' ∧ m'.1 224 = m.1 224 ∧ m'.1 238 = m.1 238) := by
  have hn := g.1.2
  obtain ⟨p1, p2, p3, p4, ⟨s, p5, p6⟩, p7, p8, p9, p10⟩ := hP
  have hbs := isNx_b p6 p3
  unfold FX12_leaf
  rw [if_neg (show ¬ m.1 222 46 = 0 by rw [p1]; decide)]
  refine hw_letK (fun K hK => ?_)
  have kk : ∀ m1 : mB, mx_out (fun b j => b = 222 ∧ j = 42) m m1 → (∃ s : Int, m1.1 222 42 = z3 s ∧ isNx N T (done ++ [M]) s) → hw (K m1) (fun m' => P2 N T nq qp qv (done ++ [M]) m' ∧ m'.1 224 = m.1 224 ∧ m'.1 238 = m.1 238) := by
    intro m1 z q5
    rw [hK]
    dsimp only
    have f : ∀ j, j ≠ 42 → m1.1 222 j = m.1 222 j := fun j hj => z.fld 222 j (by omega)
    have cl : ∀ b, b ≠ 222 → m1.1 b = m.1 b := fun b hb => z.cell b (fun j => by omega)
    have hN1 : m1.1 224 = N := by rw [cl 224 (by omega)]; exact hN
    have hm1 : ∀ x, x < 10 → m1.1 238 x = mt M x := fun x hx => by rw [cl 238 (by omega)]; exact hm x hx
    have A1 : AK nq qp qv m1 := by
      unfold AK
      rw [f 47 (by omega), cl 223 (by omega)]
      exact p4
    rw [f 41 (by omega), p2]
    by_cases c : (tk N M).1 = T
    · rw [if_pos (by rw [c]), mx_letI, f 43 (by omega), p7, i3_succ]
      have z2 : mx_out (fun b j => b = 222 ∧ j = 43) m1 (mx_up m1.1 222 43 (i3 (done.countP (fun M => decide ((tk N M).1 = T)) + 1)), m1.2) := mx_out_up mx_out.rf rfl ⟨rfl, rfl⟩
      obtain ⟨m3, e3, z3', A3⟩ := M_leaf_L121 (M := M) (m := (mx_up m1.1 222 43 (i3 (done.countP (fun M => decide ((tk N M).1 = T)) + 1)), m1.2)) g (by rw [z2.cell 224 (fun j => by omega)]; exact hN1) (fun x hx => by rw [z2.cell 238 (fun j => by omega)]; exact hm1 x hx)
      show hw (Option.bind (FX12_leaf_L121 222 mx_FU (i3 0) (mx_up m1.1 222 43 (i3 (done.countP (fun M => decide ((tk N M).1 = T)) + 1)), m1.2)) _) _
      rw [e3, ob_some]
      have f3 : ∀ j, j ≠ 43 → m3.1 222 j = m1.1 222 j := fun j hj => by rw [z3'.fld 222 j (by omega), z2.fld 222 j (by omega)]
      have c3 : ∀ b, b ≠ 222 → b ≠ 243 → m3.1 b = m1.1 b := fun b hb hb2 => by rw [z3'.cell b (fun j => hb2), z2.cell b (fun j => by omega)]
      have e43 : m3.1 222 43 = i3 ((done ++ [M]).countP (fun M => decide ((tk N M).1 = T))) := by
        rw [z3'.fld 222 43 (by omega), cp1, if_pos (decide_eq_true c)]
        exact mx_up_self m1.1 222 43 _
      have A3' : AK nq qp qv m3 := by
        unfold AK
        rw [f3 47 (by omega), c3 223 (by omega) (by omega)]
        exact A1
      have e243 : ∀ l, l < nL N → m3.1 243 l = i3 ((done ++ [M]).countP (fun M => decide ((tk N M).1 = T) && decide (mt M (nA N l) = i3 (nB N l)))) := by
        intro l hl
        rw [A3 l hl, z2.cell 243 (fun j => by omega), cl 243 (by omega), p8 l hl, cp1, decide_eq_true c, Bool.true_and]
        by_cases c5 : mt M (nA N l) = i3 (nB N l)
        · rw [if_pos c5, if_pos (decide_eq_true c5), i3_succ]
        · rw [if_neg c5, decide_eq_false c5, if_neg (by decide)]
          rfl
      rw [M_isAsked A3' (M := M) (fun x hx => by rw [c3 238 (by omega) (by omega)]; exact hm1 x hx), ob_some]
      cases ha : asq nq qp qv M with
      | false =>
        rw [if_pos (show b2 false = 0 from rfl)]
        refine hw_some ⟨⟨?_, ?_, p3, A3', ?_, e43, e243, ?_, fun x hx j hj => ?_⟩, ?_, ?_⟩
        · rw [f3 46 (by omega), f 46 (by omega)]; exact p1
        · rw [f3 41 (by omega), f 41 (by omega)]; exact p2
        · rw [f3 42 (by omega)]; exact q5
        · rw [f3 44 (by omega), f 44 (by omega), p9, cp1, ha, Bool.and_false, if_neg (by decide)]; rfl
        · rw [c3 244 (by omega) (by omega), cl 244 (by omega), p10 x hx j hj, cp1, ha, Bool.and_false, Bool.false_and, if_neg (by decide)]; rfl
        · rw [c3 224 (by omega) (by omega), cl 224 (by omega)]
        · rw [c3 238 (by omega) (by omega), cl 238 (by omega)]
      | true =>
        rw [if_neg (show ¬ b2 true = 0 by decide), mx_letI, f3 44 (by omega), f 44 (by omega), p9, i3_succ]
        have z4 : mx_out (fun b j => b = 222 ∧ j = 44) m3 (mx_up m3.1 222 44 (i3 (done.countP (fun M => decide ((tk N M).1 = T) && asq nq qp qv M) + 1)), m3.2) := mx_out_up mx_out.rf rfl ⟨rfl, rfl⟩
        obtain ⟨m5, e5, z5, A5⟩ := M_leaf_L192 (M := M) (m := (mx_up m3.1 222 44 (i3 (done.countP (fun M => decide ((tk N M).1 = T) && asq nq qp qv M) + 1)), m3.2)) g (by rw [z4.cell 224 (fun j => by omega), c3 224 (by omega) (by omega)]; exact hN1) (fun x hx => by rw [z4.cell 238 (fun j => by omega), c3 238 (by omega) (by omega)]; exact hm1 x hx) hM
        show hw (Option.bind (FX12_leaf_L192 222 mx_FU (i3 0) (mx_up m3.1 222 44 (i3 (done.countP (fun M => decide ((tk N M).1 = T) && asq nq qp qv M) + 1)), m3.2)) _) _
        rw [e5, ob_some]
        have f5 : ∀ j, j ≠ 44 → m5.1 222 j = m3.1 222 j := fun j hj => by rw [z5.fld 222 j (by omega), z4.fld 222 j (by omega)]
        have c5 : ∀ b, b ≠ 222 → b ≠ 244 → m5.1 b = m3.1 b := fun b hb hb2 => by rw [z5.cell b (fun j => hb2), z4.cell b (fun j => by omega)]
        refine hw_some ⟨⟨?_, ?_, p3, ?_, ?_, ?_, fun l hl => ?_, ?_, fun x hx j hj => ?_⟩, ?_, ?_⟩
        · rw [f5 46 (by omega), f3 46 (by omega), f 46 (by omega)]; exact p1
        · rw [f5 41 (by omega), f3 41 (by omega), f 41 (by omega)]; exact p2
        · unfold AK
          rw [f5 47 (by omega), c5 223 (by omega) (by omega)]
          exact A3'
        · rw [f5 42 (by omega), f3 42 (by omega)]; exact q5
        · rw [f5 43 (by omega)]; exact e43
        · rw [c5 243 (by omega) (by omega)]; exact e243 l hl
        · rw [z5.fld 222 44 (by omega), cp1, decide_eq_true c, ha, if_pos (by rfl)]
          exact mx_up_self m3.1 222 44 _
        · rw [A5 x hx j hj, z4.cell 244 (fun j => by omega), c3 244 (by omega) (by omega), cl 244 (by omega), p10 x hx j hj, cp1, decide_eq_true c, ha]
          by_cases c7 : mt M x + 1 = i3 j
          · rw [if_pos c7, if_pos (by rw [decide_eq_true c7]; rfl), i3_succ]
          · rw [if_neg c7, decide_eq_false c7, if_neg (by decide)]; rfl
        · rw [c5 224 (by omega) (by omega), c3 224 (by omega) (by omega), cl 224 (by omega)]
        · rw [c5 238 (by omega) (by omega), c3 238 (by omega) (by omega), cl 238 (by omega)]
    · rw [if_neg (by rw [i3_eq (by omega) (by omega)]; exact c)]
      refine hw_some ⟨⟨?_, ?_, p3, A1, q5, ?_, fun l hl => ?_, ?_, fun x hx j hj => ?_⟩, cl 224 (by omega), cl 238 (by omega)⟩
      · rw [f 46 (by omega)]; exact p1
      · rw [f 41 (by omega)]; exact p2
      · rw [f 43 (by omega), p7, cp1, decide_eq_false c, if_neg (by decide)]; rfl
      · rw [cl 243 (by omega), p8 l hl, cp1, decide_eq_false c, Bool.false_and, if_neg (by decide)]; rfl
      · rw [f 44 (by omega), p9, cp1, decide_eq_false c, Bool.false_and, if_neg (by decide)]; rfl
      · rw [cl 244 (by omega), p10 x hx j hj, cp1, decide_eq_false c, Bool.false_and, Bool.false_and, if_neg (by decide)]; rfl
  rw [p2, p5, z3_i3 T, z3_i3 (tk N M).1]
  have e7 := z3_le (a := (T : Int)) (b := ((tk N M).1 : Int)) (by omega) (by omega) (by omega) (by omega)
  have e8 := z3_le (a := ((tk N M).1 : Int)) (b := s) (by omega) (by omega) (by omega) (by omega)
  by_cases c : (T : Int) ≤ ((tk N M).1 : Int)
  · rw [if_pos (e7.mpr c)]
    refine kk m mx_out.rf ⟨s, p5, ?_⟩
    rcases p6 with ⟨q1, q2⟩ | ⟨⟨M', hM', q1⟩, q2, q3⟩
    · refine Or.inl ⟨q1, fun M' hM' => ?_⟩
      rcases List.mem_append.mp hM' with w | w
      · exact q2 M' w
      · rw [List.mem_singleton] at w
        rw [w]; omega
    · refine Or.inr ⟨⟨M', List.mem_append.mpr (Or.inl hM'), q1⟩, q2, fun M2 hM2 hlt => ?_⟩
      rcases List.mem_append.mp hM2 with w | w
      · exact q3 M2 w hlt
      · rw [List.mem_singleton] at w
        rw [w] at hlt; omega
  · rw [if_neg (fun q => c (e7.mp q))]
    by_cases c2 : ((tk N M).1 : Int) ≤ s
    · rw [if_pos (e8.mpr c2)]
      refine kk m mx_out.rf ⟨s, p5, ?_⟩
      rcases p6 with ⟨q1, q2⟩ | ⟨⟨M', hM', q1⟩, q2, q3⟩
      · omega
      · refine Or.inr ⟨⟨M', List.mem_append.mpr (Or.inl hM'), q1⟩, q2, fun M2 hM2 hlt => ?_⟩
        rcases List.mem_append.mp hM2 with w | w
        · exact q3 M2 w hlt
        · rw [List.mem_singleton] at w
          rw [w]; omega
    · rw [if_neg (fun q => c2 (e8.mp q)), mx_letI]
      refine kk _ (mx_out_up mx_out.rf rfl ⟨rfl, rfl⟩) ⟨((tk N M).1 : Int), mx_up_self m.1 222 42 _, ?_⟩
      refine Or.inr ⟨⟨M, List.mem_append.mpr (Or.inr (List.mem_singleton.mpr rfl)), rfl⟩, by omega, fun M2 hM2 hlt => ?_⟩
      rcases List.mem_append.mp hM2 with w | w
      · rcases p6 with ⟨q1, q2⟩ | ⟨-, q2, q3⟩
        · exact absurd hlt (q2 M2 w)
        · have := q3 M2 w hlt; omega
      · rw [List.mem_singleton] at w
        rw [w]; omega
end SECM
