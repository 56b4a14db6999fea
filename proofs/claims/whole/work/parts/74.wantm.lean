/-! ===== the best pairings that are as wanted ===== -/
section WANTM
variable {N : Rw} {W : Nat → Int32}
/-- a point's kind in a pairing: its partner, or 10: lone -/
def kd (M : List (Nat × Nat)) (x : Nat) : Int32 := if mt M x = -1 then i3 10 else mt M x
def my (W : Nat → Int32) (x : Nat) (v : Int32) : Bool := decide (W x = -1) || decide (W x = v)
def okM (W : Nat → Int32) (x : Nat) (M : List (Nat × Nat)) : Bool := (List.range 10).all (fun y => !x.testBit y || my W y (kd M y))
theorem okM_iff {x : Nat} {M : List (Nat × Nat)} : okM W x M = true ↔ ∀ y, y < 10 → x.testBit y = true → my W y (kd M y) = true := by
  unfold okM
  rw [List.all_eq_true]
  constructor
  · intro h y hy hb
    have := h y (List.mem_range.mpr hy)
    rw [hb] at this
    exact this
  · intro h y hy
    cases hb : x.testBit y with
    | false => rfl
    | true =>
      rw [h y (List.mem_range.mp hy) hb]
      rfl
def wl (N : Rw) (W : Nat → Int32) (x : Nat) : List (List (Nat × Nat)) := (bm N x).filter (okM W x)
theorem mt_cons (a b : Nat) (M : List (Nat × Nat)) (x : Nat) : mt ((a, b) :: M) x = if x = a then i3 b else if x = b then i3 a else mt M x := rfl
theorem en_out (N : Rw) : ∀ x, x < 1024 → ∀ M ∈ en N x, (∀ j, x.testBit j = false → mt M j = -1) ∧ ∀ y ∈ M, y.1 < 10 ∧ y.2 < 10 := by
  refine mask_ind ?_ ?_
  · intro M hM
    rw [en_0, List.mem_singleton] at hM
    subst hM
    exact ⟨fun _ _ => rfl, by simp⟩
  · intro x hx h0 hl hp M hM
    obtain ⟨l1, l2⟩ := lst_ok x hx h0
    rw [en_eq N hx h0, List.mem_append] at hM
    rcases hM with h | h
    · obtain ⟨q, hq, hM⟩ := List.mem_flatMap.mp h
      obtain ⟨q1, q2, q3⟩ := qsl_mem hq
      obtain ⟨M', hM', rfl⟩ := List.mem_map.mp hM
      obtain ⟨i1, i2⟩ := hp q q1 q2 M' hM'
      refine ⟨fun j hj => ?_, fun y hy => ?_⟩
      · rw [mt_cons, if_neg (fun e => by rw [e, l2] at hj; cases hj), if_neg (fun e => by
          rw [clr_bit, Bool.and_eq_true, ← e, hj] at q2
          cases q2.1)]
        exact i1 j (by rw [clr_bit, clr_bit, hj]; rfl)
      · rcases List.mem_cons.mp hy with e | e
        · rw [e]; exact ⟨l1, q1⟩
        · exact i2 y e
    · obtain ⟨i1, i2⟩ := hl M h
      exact ⟨fun j hj => i1 j (by rw [clr_bit, hj]; rfl), i2⟩
theorem bm_en {x : Nat} {M : List (Nat × Nat)} (h : M ∈ bm N x) : M ∈ en N x := (List.mem_filter.mp h).1
theorem okM_cons {x q : Nat} (hx : x < 1024) (h0 : x ≠ 0) (hq : q < 10) (hb : (clr x (lst x)).testBit q = true) (M : List (Nat × Nat)) : okM W x ((lst x, q) :: M) = (my W (lst x) (i3 q) && my W q (i3 (lst x)) && okM W (clr (clr x (lst x)) q) M) := by
  obtain ⟨l1, l2⟩ := lst_ok x hx h0
  have hne : q ≠ lst x := by
    intro e
    rw [e, clr_bit] at hb
    simp at hb
  have hbq : x.testBit q = true := by
    rw [clr_bit, Bool.and_eq_true] at hb
    exact hb.1
  have k1 : kd ((lst x, q) :: M) (lst x) = i3 q := by
    unfold kd
    rw [mt_cons, if_pos rfl, if_neg (fun e => (i3_ne1 (a := q) (by omega)).mp e)]
  have k2 : kd ((lst x, q) :: M) q = i3 (lst x) := by
    unfold kd
    rw [mt_cons, if_neg hne, if_pos rfl, if_neg (fun e => (i3_ne1 (a := lst x) (by omega)).mp e)]
  have k3 : ∀ y, y ≠ lst x → y ≠ q → kd ((lst x, q) :: M) y = kd M y := by
    intro y h1 h2
    unfold kd
    rw [mt_cons, if_neg h1, if_neg h2]
  apply Bool.eq_iff_iff.mpr
  rw [Bool.and_eq_true, Bool.and_eq_true, okM_iff, okM_iff]
  constructor
  · intro h
    refine ⟨⟨by rw [← k1]; exact h _ l1 l2, by rw [← k2]; exact h q hq hbq⟩, fun y hy hby => ?_⟩
    rw [clr_bit, clr_bit, Bool.and_eq_true, Bool.and_eq_true] at hby
    have n1 : y ≠ lst x := by simpa using hby.1.2
    have n2 : y ≠ q := by simpa using hby.2
    rw [← k3 y n1 n2]
    exact h y hy hby.1.1
  · rintro ⟨⟨h1, h2⟩, h3⟩ y hy hby
    by_cases n1 : y = lst x
    · rw [n1, k1]; exact h1
    · by_cases n2 : y = q
      · rw [n2, k2]; exact h2
      · rw [k3 y n1 n2]
        exact h3 y hy (by rw [clr_bit, clr_bit, hby]; simp [n1, n2])
theorem okM_lone {x : Nat} (hx : x < 1024) (h0 : x ≠ 0) {M : List (Nat × Nat)} (hM : mt M (lst x) = -1) : okM W x M = (my W (lst x) (i3 10) && okM W (clr x (lst x)) M) := by
  obtain ⟨l1, l2⟩ := lst_ok x hx h0
  have k1 : kd M (lst x) = i3 10 := by
    unfold kd
    rw [if_pos hM]
  apply Bool.eq_iff_iff.mpr
  rw [Bool.and_eq_true, okM_iff, okM_iff]
  constructor
  · intro h
    refine ⟨by rw [← k1]; exact h _ l1 l2, fun y hy hby => ?_⟩
    rw [clr_bit, Bool.and_eq_true] at hby
    exact h y hy hby.1
  · rintro ⟨h1, h2⟩ y hy hby
    by_cases n1 : y = lst x
    · rw [n1, k1]; exact h1
    · exact h2 y hy (by rw [clr_bit, hby]; simp [n1])
/-- what is reached by a partner of the least free point -/
def wq (N : Rw) (W : Nat → Int32) (x q : Nat) : List (List (Nat × Nat)) := if (my W (lst x) (i3 q) && my W q (i3 (lst x)) && decide (Wt N (lst x) q + mxt N (clr (clr x (lst x)) q) = mxt N x)) = true then (wl N W (clr (clr x (lst x)) q)).map (fun M => (lst x, q) :: M) else []
theorem filt_f {α : Type} (l : List α) {P : α → Bool} (h : ∀ x ∈ l, P x = false) : l.filter P = [] := by
  rw [List.filter_eq_nil_iff]
  intro x hx
  rw [h x hx]
  decide
theorem wl_0 : wl N W 0 = [[]] := by
  unfold wl
  rw [bm_0, List.filter_cons, if_pos (okM_iff.mpr (fun y hy hb => by rw [Nat.zero_testBit] at hb; cases hb))]
  rfl
theorem wl_eq (g : GI N) (s : SI N) {x : Nat} (hx : x < 1024) (h0 : x ≠ 0) : wl N W x = (qsl N x).flatMap (wq N W x) ++ (if (my W (lst x) (i3 10) && decide (mxt N (clr x (lst x)) = mxt N x)) = true then wl N W (clr x (lst x)) else []) := by
  obtain ⟨l1, l2⟩ := lst_ok x hx h0
  have c2 := clr_1024 x hx _ l1
  show (bm N x).filter (okM W x) = _
  rw [bm_eq g s hx h0, List.filter_append, filter_fm]
  congr 1
  · refine fm_congr (fun q hq => ?_)
    obtain ⟨q1, q2, q3⟩ := qsl_mem hq
    unfold wq
    by_cases c : Wt N (lst x) q + mxt N (clr (clr x (lst x)) q) = mxt N x
    · rw [if_pos c, decide_eq_true c, Bool.and_true, List.filter_map]
      cases hm : (my W (lst x) (i3 q) && my W q (i3 (lst x))) with
      | true =>
        rw [if_pos rfl]
        show (List.filter _ _).map _ = ((bm N (clr (clr x (lst x)) q)).filter (okM W (clr (clr x (lst x)) q))).map _
        congr 1
        refine List.filter_congr (fun M hM => ?_)
        show okM W x ((lst x, q) :: M) = _
        rw [okM_cons hx h0 q1 q2, hm, Bool.true_and]
      | false =>
        rw [if_neg (by decide), filt_f, List.map_nil]
        intro M hM
        show okM W x ((lst x, q) :: M) = _
        rw [okM_cons hx h0 q1 q2, hm, Bool.false_and]
    · rw [if_neg c, decide_eq_false c, Bool.and_false, if_neg (by decide)]
      rfl
  · by_cases c : mxt N (clr x (lst x)) = mxt N x
    · rw [if_pos c, decide_eq_true c, Bool.and_true]
      have hl : ∀ M ∈ bm N (clr x (lst x)), okM W x M = (my W (lst x) (i3 10) && okM W (clr x (lst x)) M) := fun M hM => okM_lone hx h0 ((en_out N _ c2 M (bm_en hM)).1 _ (by rw [clr_bit]; simp))
      cases hm : my W (lst x) (i3 10) with
      | true =>
        rw [if_pos rfl]
        show _ = (bm N (clr x (lst x))).filter (okM W (clr x (lst x)))
        refine List.filter_congr (fun M hM => ?_)
        rw [hl M hM, hm, Bool.true_and]
      | false =>
        rw [if_neg (by decide), filt_f]
        intro M hM
        rw [hl M hM, hm, Bool.false_and]
    · rw [if_neg c, decide_eq_false c, Bool.and_false, if_neg (by decide)]
      rfl
end WANTM
