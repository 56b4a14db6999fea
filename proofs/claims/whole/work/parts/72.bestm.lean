/-! ===== the best pairings ===== -/
section BEST
variable {N : Rw}
def mxl : List (Nat × Nat) → Nat
  | [] => 0
  | y :: l => max y.1 (mxl l)
theorem mxl_le : ∀ {l : List (Nat × Nat)} {y : Nat × Nat}, y ∈ l → y.1 ≤ mxl l := by
  intro l
  induction l with
  | nil => intro y hy; cases hy
  | cons a l ih =>
    intro y hy
    show y.1 ≤ max a.1 (mxl l)
    rcases List.mem_cons.mp hy with e | e
    · rw [e]; omega
    · have := ih e; omega
theorem mxl_at : ∀ {l : List (Nat × Nat)}, l ≠ [] → ∃ y ∈ l, y.1 = mxl l := by
  intro l
  induction l with
  | nil => intro h; exact absurd rfl h
  | cons a l ih =>
    intro _
    show ∃ y ∈ a :: l, y.1 = max a.1 (mxl l)
    by_cases c : mxl l ≤ a.1
    · exact ⟨a, List.mem_cons_self, by omega⟩
    · have hl : l ≠ [] := by
        intro q
        rw [q] at c
        exact c (Nat.zero_le _)
      obtain ⟨y, hy, e⟩ := ih hl
      exact ⟨y, List.mem_cons_of_mem _ hy, by omega⟩
def mxt (N : Rw) (x : Nat) : Nat := mxl (tl N x)
theorem isTS_mxt {x : Nat} {t s : Int} (h : isTS (tl N x) t s) (hne : tl N x ≠ []) : t = (mxt N x : Int) := by
  rcases h with ⟨-, -, e⟩ | ⟨⟨y, hy, e⟩, h2, -⟩
  · exact absurd e hne
  · obtain ⟨z, hz, ez⟩ := mxl_at hne
    have h3 := h2 z hz
    have h4 := mxl_le hy
    unfold mxt
    omega
theorem mxt_M {x : Nat} {M : List (Nat × Nat)} (h : M ∈ en N x) : (tk N M).1 ≤ mxt N x := mxl_le (l := tl N x) (List.mem_map.mpr ⟨M, h, rfl⟩)
theorem mxt_b (g : GI N) (s : SI N) {x : Nat} (hx : x < 1024) : mxt N x ≤ 1000 := by
  obtain ⟨y, hy, e⟩ := mxl_at (tl_b g s x hx).2.1
  have := ((tl_LB g s hx).2 y hy).1
  unfold mxt
  omega
theorem mxt_q (g : GI N) (s : SI N) {x q : Nat} (hx : x < 1024) (h0 : x ≠ 0) (hq : q ∈ qsl N x) : Wt N (lst x) q + mxt N (clr (clr x (lst x)) q) ≤ mxt N x := by
  obtain ⟨q1, q2, q3⟩ := qsl_mem hq
  obtain ⟨l1, l2⟩ := lst_ok x hx h0
  have c2 := clr_1024 x hx _ l1
  obtain ⟨y, hy, e⟩ := mxl_at (tl_b g s _ (clr_1024 _ c2 q q1)).2.1
  have h3 := mxl_le (l := tl N x) (y := (Wt N (lst x) q + y.1, y.2 + 1)) (by
    rw [tl_eq N hx h0, List.mem_append]
    left
    exact List.mem_flatMap.mpr ⟨q, hq, List.mem_map.mpr ⟨y, hy, rfl⟩⟩)
  unfold mxt
  dsimp only at h3
  omega
theorem mxt_l (g : GI N) (s : SI N) {x : Nat} (hx : x < 1024) (h0 : x ≠ 0) : mxt N (clr x (lst x)) ≤ mxt N x := by
  obtain ⟨l1, l2⟩ := lst_ok x hx h0
  have c2 := clr_1024 x hx _ l1
  obtain ⟨y, hy, e⟩ := mxl_at (tl_b g s _ c2).2.1
  have h3 := mxl_le (l := tl N x) (y := y) (by
    rw [tl_eq N hx h0, List.mem_append]
    right
    exact hy)
  unfold mxt
  omega
/-- the best pairings of the free points -/
def bm (N : Rw) (x : Nat) : List (List (Nat × Nat)) := (en N x).filter (fun M => decide ((tk N M).1 = mxt N x))
theorem fm_congr {α β : Type} {f h : α → List β} : ∀ {l : List α}, (∀ x ∈ l, f x = h x) → l.flatMap f = l.flatMap h := by
  intro l
  induction l with
  | nil => intro _; rfl
  | cons a l ih =>
    intro hh
    rw [List.flatMap_cons, List.flatMap_cons, hh a List.mem_cons_self, ih (fun x hx => hh x (List.mem_cons_of_mem _ hx))]
theorem filter_fm {α β : Type} (f : α → List β) (P : β → Bool) : ∀ l : List α, (l.flatMap f).filter P = l.flatMap (fun a => (f a).filter P) := by
  intro l
  induction l with
  | nil => rfl
  | cons a l ih => rw [List.flatMap_cons, List.flatMap_cons, List.filter_append, ih]
theorem bm_0 (N : Rw) : bm N 0 = [[]] := by
  unfold bm
  rw [en_0]
  rfl
theorem bm_eq (g : GI N) (s : SI N) {x : Nat} (hx : x < 1024) (h0 : x ≠ 0) : bm N x = (qsl N x).flatMap (fun q => if Wt N (lst x) q + mxt N (clr (clr x (lst x)) q) = mxt N x then (bm N (clr (clr x (lst x)) q)).map (fun M => (lst x, q) :: M) else []) ++ (if mxt N (clr x (lst x)) = mxt N x then bm N (clr x (lst x)) else []) := by
  show (en N x).filter (fun M => decide ((tk N M).1 = mxt N x)) = _
  rw [en_eq N hx h0, List.filter_append, filter_fm]
  congr 1
  · refine fm_congr (fun q hq => ?_)
    have h1 := mxt_q g s hx h0 hq
    by_cases c : Wt N (lst x) q + mxt N (clr (clr x (lst x)) q) = mxt N x
    · rw [if_pos c, List.filter_map]
      congr 1
      refine List.filter_congr (fun M hM => ?_)
      show decide (Wt N (lst x) q + (tk N M).1 = mxt N x) = decide ((tk N M).1 = mxt N (clr (clr x (lst x)) q))
      exact decide_eq_decide.mpr (by omega)
    · rw [if_neg c, List.filter_eq_nil_iff]
      intro M hM
      obtain ⟨M', hM', rfl⟩ := List.mem_map.mp hM
      have h2 := mxt_M hM'
      show ¬ decide (Wt N (lst x) q + (tk N M').1 = mxt N x) = true
      rw [decide_eq_true_eq]
      omega
  · have h1 := mxt_l g s hx h0
    by_cases c : mxt N (clr x (lst x)) = mxt N x
    · rw [if_pos c]
      show _ = (en N (clr x (lst x))).filter (fun M => decide ((tk N M).1 = mxt N (clr x (lst x))))
      rw [c]
    · rw [if_neg c, List.filter_eq_nil_iff]
      intro M hM
      have h2 := mxt_M hM
      rw [decide_eq_true_eq]
      omega
theorem bm_ne (g : GI N) (s : SI N) {x : Nat} (hx : x < 1024) : bm N x ≠ [] := by
  obtain ⟨y, hy, e⟩ := mxl_at (tl_b g s x hx).2.1
  obtain ⟨M, hM, rfl⟩ := List.mem_map.mp hy
  intro q
  have : M ∈ bm N x := List.mem_filter.mpr ⟨hM, decide_eq_true e⟩
  rw [q] at this
  cases this
/-- the first of them -/
def fb (N : Rw) (x : Nat) : List (Nat × Nat) := (bm N x).headD []
theorem fb_isB {x : Nat} (hne : en N x ≠ []) {B : List (Nat × Nat)} {t : Int} (h : isB N (en N x) B t) : B = fb N x ∧ t = (mxt N x : Int) := by
  rcases h with ⟨e, -⟩ | ⟨a, b, e, h1, h2, h3⟩
  · exact absurd e hne
  · have hB := mxt_M (N := N) (x := x) (M := B) (by rw [e]; simp)
    have ht : t = (mxt N x : Int) := by
      obtain ⟨y, hy, ey⟩ := mxl_at (l := tl N x) (fun q => hne (List.map_eq_nil_iff.mp q))
      obtain ⟨M, hM, rfl⟩ := List.mem_map.mp hy
      have eM : (tk N M).1 = mxt N x := ey
      rw [e, List.mem_append, List.mem_cons] at hM
      rcases hM with w | w | w
      · have := h2 M w; omega
      · rw [w] at eM; omega
      · have := h3 M w; omega
    refine ⟨?_, ht⟩
    unfold fb bm
    rw [e, List.filter_append, List.filter_cons, if_pos (decide_eq_true (by omega)), List.filter_eq_nil_iff.mpr (fun M hM => by
      have := h2 M hM
      rw [decide_eq_true_eq]
      omega)]
    rfl
theorem qf_pre (N : Rw) (x : Nat) {k n : Nat} (h : k ≤ n) : ∃ r, qf N x n = qf N x k ++ r := by
  induction n with
  | zero => exact ⟨[], by rw [show k = 0 by omega]; simp⟩
  | succ n ih =>
    by_cases c : k = n + 1
    · exact ⟨[], by rw [c]; simp⟩
    · obtain ⟨r, e⟩ := ih (by omega)
      rw [qf_succ, e, List.append_assoc]
      exact ⟨_, rfl⟩
/-- a partner by which the top is still reached -/
def kt (N : Rw) (x q : Nat) : Bool := (clr x (lst x)).testBit q && lk N (lst x) q && decide (Wt N (lst x) q + mxt N (clr (clr x (lst x)) q) = mxt N x)
def kf (N : Rw) (x q : Nat) : List (List (Nat × Nat)) := if Wt N (lst x) q + mxt N (clr (clr x (lst x)) q) = mxt N x then (bm N (clr (clr x (lst x)) q)).map (fun M => (lst x, q) :: M) else []
theorem kf_nil {x k : Nat} (h : ∀ j, j < k → kt N x j = false) : (qf N x k).flatMap (kf N x) = [] := by
  rw [List.flatMap_eq_nil_iff]
  intro q hq
  obtain ⟨q1, q2, q3⟩ := qf_mem hq
  have h1 := h q q1
  unfold kt at h1
  rw [q2, q3] at h1
  unfold kf
  rw [if_neg (by simpa using h1)]
theorem fb_some (g : GI N) (s : SI N) {x q : Nat} (hx : x < 1024) (h0 : x ≠ 0) (h : ff (kt N x) 10 = some q) : fb N x = (lst x, q) :: fb N (clr (clr x (lst x)) q) := by
  obtain ⟨h1, h2, h3⟩ := ff_some.mp h
  obtain ⟨r, er⟩ := qf_pre N x (k := q + 1) (n := 10) (by omega)
  obtain ⟨l1, l2⟩ := lst_ok x hx h0
  have c2 := clr_1024 x hx _ l1
  have hb := bm_ne g s (clr_1024 _ c2 q h1)
  unfold kt at h2
  rw [Bool.and_eq_true, Bool.and_eq_true, decide_eq_true_eq] at h2
  unfold fb
  rw [bm_eq g s hx h0]
  show ((qf N x 10).flatMap (kf N x) ++ _).headD [] = _
  rw [er, qf_succ, if_pos (by rw [h2.1.1, h2.1.2]; rfl), List.flatMap_append, List.flatMap_append, kf_nil h3]
  simp only [List.flatMap_cons, List.flatMap_nil, List.append_nil, List.nil_append]
  unfold kf
  rw [if_pos h2.2]
  cases e : bm N (clr (clr x (lst x)) q) with
  | nil => exact absurd e hb
  | cons a b => rfl
theorem fb_none (g : GI N) (s : SI N) {x : Nat} (hx : x < 1024) (h0 : x ≠ 0) (h : ff (kt N x) 10 = none) : fb N x = fb N (clr x (lst x)) ∧ mxt N (clr x (lst x)) = mxt N x := by
  have h3 := ff_none.mp h
  have hb := bm_ne g s hx
  have e : bm N x = if mxt N (clr x (lst x)) = mxt N x then bm N (clr x (lst x)) else [] := by
    rw [bm_eq g s hx h0]
    show (qf N x 10).flatMap (kf N x) ++ _ = _
    rw [kf_nil h3, List.nil_append]
  by_cases c : mxt N (clr x (lst x)) = mxt N x
  · rw [if_pos c] at e
    refine ⟨?_, c⟩
    unfold fb
    rw [e]
  · rw [if_neg c] at e
    exact absurd e hb
end BEST
