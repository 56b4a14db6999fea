/-! ===== all pairings of free points; what is summed up of them ===== -/
def clr (m p : Nat) : Nat := if m.testBit p = true then m ^^^ 2 ^ p else m
theorem clr_bit (m p j : Nat) : (clr m p).testBit j = (m.testBit j && !decide (j = p)) := by
  unfold clr
  by_cases h : m.testBit p = true
  · rw [if_pos h, Nat.testBit_xor, Nat.testBit_two_pow]
    by_cases e : j = p
    · subst e; simp [h]
    · have : ¬ p = j := fun q => e q.symm
      simp [e, this]
  · rw [if_neg h]
    by_cases e : j = p
    · subst e
      have : m.testBit j = false := by revert h; cases m.testBit j <;> simp
      simp [this]
    · simp [e]
theorem clr_lt : ∀ m, m < 1024 → ∀ p, p < 10 → m.testBit p = true → clr m p < m := by decide +kernel
theorem clr_1024 : ∀ m, m < 1024 → ∀ p, p < 10 → clr m p < 1024 := by decide +kernel
/-- the least free point -/
def lst (m : Nat) : Nat := match ff (fun k => m.testBit k) 10 with
  | some p => p
  | none => 0
theorem lst_ok : ∀ m, m < 1024 → m ≠ 0 → lst m < 10 ∧ m.testBit (lst m) = true := by decide +kernel
theorem lst_least {m : Nat} {j : Nat} (hj : j < lst m) (h10 : m < 1024) : m.testBit j = false := by
  unfold lst at hj
  cases e : ff (fun k => m.testBit k) 10 with
  | none => rw [e] at hj; exact absurd hj (Nat.not_lt_zero j)
  | some p => rw [e] at hj; exact (ff_some.mp e).2.2 j hj
/-- partners that the least free point may have -/
def qsl (N : Rw) (m : Nat) : List Nat := (List.range 10).filter (fun q => (clr m (lst m)).testBit q && lk N (lst m) q)
def em (N : Rw) : Nat → Nat → List (List (Nat × Nat))
  | 0, _ => [[]]
  | k + 1, m => if m = 0 then [[]] else (qsl N m).flatMap (fun q => (em N k (clr (clr m (lst m)) q)).map (fun M => (lst m, q) :: M)) ++ em N k (clr m (lst m))
def popc (m : Nat) : Nat := pc m
theorem pc_clr : ∀ m, m < 1024 → ∀ p, p < 10 → m.testBit p = true → pc (clr m p) + 1 = pc m := by decide +kernel
theorem pc_0 : ∀ m, m < 1024 → pc m = 0 → m = 0 := by decide +kernel
theorem em_succ (N : Rw) (k m : Nat) : em N (k + 1) m = if m = 0 then [[]] else (qsl N m).flatMap (fun q => (em N k (clr (clr m (lst m)) q)).map (fun M => (lst m, q) :: M)) ++ em N k (clr m (lst m)) := rfl
/-- more than enough steps make no difference -/
theorem em_more (N : Rw) : ∀ {k m : Nat}, m < 1024 → pc m ≤ k → em N k m = em N (k + 1) m := by
  intro k
  induction k with
  | zero =>
    intro m hm hp
    have : m = 0 := pc_0 m hm (by omega)
    subst this
    rfl
  | succ k ih =>
    intro m hm hp
    rw [em_succ, em_succ N (k + 1)]
    by_cases h0 : m = 0
    · rw [if_pos h0, if_pos h0]
    · rw [if_neg h0, if_neg h0]
      obtain ⟨l1, l2⟩ := lst_ok m hm h0
      have c1 := pc_clr m hm _ l1 l2
      have c2 := clr_1024 m hm _ l1
      have e1 := ih c2 (by omega)
      have e2 : (qsl N m).flatMap (fun q => (em N k (clr (clr m (lst m)) q)).map (fun M => (lst m, q) :: M)) = (qsl N m).flatMap (fun q => (em N (k + 1) (clr (clr m (lst m)) q)).map (fun M => (lst m, q) :: M)) := by
        have key : ∀ l : List Nat, (∀ q ∈ l, q ∈ qsl N m) → l.flatMap (fun q => (em N k (clr (clr m (lst m)) q)).map (fun M => (lst m, q) :: M)) = l.flatMap (fun q => (em N (k + 1) (clr (clr m (lst m)) q)).map (fun M => (lst m, q) :: M)) := by
          intro l
          induction l with
          | nil => intro _; rfl
          | cons q l ihl =>
            intro hq
            rw [List.flatMap_cons, List.flatMap_cons, ihl (fun x hx => hq x (List.mem_cons_of_mem _ hx))]
            have hq1 := hq q List.mem_cons_self
            unfold qsl at hq1
            rw [List.mem_filter, Bool.and_eq_true, List.mem_range] at hq1
            have c3 := pc_clr _ c2 q hq1.1 hq1.2.1
            rw [ih (clr_1024 _ c2 q hq1.1) (by omega)]
        exact key _ (fun q hq => hq)
      rw [e1, e2]
def en (N : Rw) (m : Nat) : List (List (Nat × Nat)) := em N 10 m
theorem pc10 : ∀ m, m < 1024 → pc m ≤ 10 := fun m _ => pc_le
theorem en_0 (N : Rw) : en N 0 = [[]] := rfl
theorem en_eq (N : Rw) {m : Nat} (hm : m < 1024) (h0 : m ≠ 0) : en N m = (qsl N m).flatMap (fun q => (en N (clr (clr m (lst m)) q)).map (fun M => (lst m, q) :: M)) ++ en N (clr m (lst m)) := by
  unfold en
  rw [em_more N hm (pc10 m hm), em_succ, if_neg h0]
/-- total and number of pairs -/
def tk (N : Rw) : List (Nat × Nat) → Nat × Nat
  | [] => (0, 0)
  | (p, q) :: M => (Wt N p q + (tk N M).1, (tk N M).2 + 1)
def tl (N : Rw) (m : Nat) : List (Nat × Nat) := (en N m).map (tk N)
theorem tl_0 (N : Rw) : tl N 0 = [(0, 0)] := rfl
theorem map_flatMap' {α β γ : Type} (f : β → γ) (g : α → List β) : ∀ l : List α, (l.flatMap g).map f = l.flatMap (fun a => (g a).map f) := by
  intro l
  induction l with
  | nil => rfl
  | cons a l ih => rw [List.flatMap_cons, List.flatMap_cons, List.map_append, ih]
theorem tl_eq (N : Rw) {m : Nat} (hm : m < 1024) (h0 : m ≠ 0) : tl N m = (qsl N m).flatMap (fun q => (tl N (clr (clr m (lst m)) q)).map (fun x => (Wt N (lst m) q + x.1, x.2 + 1))) ++ tl N (clr m (lst m)) := by
  unfold tl
  rw [en_eq N hm h0, List.map_append, map_flatMap']
  congr 1
  refine congrArg (fun h => List.flatMap h (qsl N m)) ?_
  funext q
  rw [List.map_map, List.map_map]
  rfl
/-! how many, the greatest, the next -/
def wy (L : List (Nat × Nat)) (k : Nat) : Nat := L.countP (fun x => decide (x.2 = k))
def isHv (L : List (Nat × Nat)) (k : Nat) (t : Int) : Prop := (t = -1 ∧ ∀ x ∈ L, x.2 ≠ k) ∨ (∃ x ∈ L, x.2 = k ∧ (x.1 : Int) = t ∧ ∀ y ∈ L, y.2 = k → (y.1 : Int) ≤ t)
def isTS (L : List (Nat × Nat)) (t s : Int) : Prop := (t = -1 ∧ s = -1 ∧ L = []) ∨ ((∃ x ∈ L, (x.1 : Int) = t) ∧ (∀ y ∈ L, (y.1 : Int) ≤ t) ∧ ((s = -1 ∧ ∀ y ∈ L, (y.1 : Int) = t) ∨ ((∃ x ∈ L, (x.1 : Int) = s) ∧ s < t ∧ ∀ y ∈ L, (y.1 : Int) < t → (y.1 : Int) ≤ s)))
theorem wy_app (A B : List (Nat × Nat)) (k : Nat) : wy (A ++ B) k = wy A k + wy B k := List.countP_append
theorem isHv_uniq {L : List (Nat × Nat)} {k : Nat} {t t' : Int} (h : isHv L k t) (h' : isHv L k t') : t = t' := by
  rcases h with ⟨e, h⟩ | ⟨x, hx, h1, h2, h3⟩
  · rcases h' with ⟨e', h'⟩ | ⟨x, hx, h1, h2, h3⟩
    · omega
    · exact absurd h1 (h x hx)
  · rcases h' with ⟨e', h'⟩ | ⟨y, hy, g1, g2, g3⟩
    · exact absurd h1 (h' x hx)
    · have a := h3 y hy g1
      have b := g3 x hx h1
      omega
theorem isTS_uniq {L : List (Nat × Nat)} {t s t' s' : Int} (h : isTS L t s) (h' : isTS L t' s') : t = t' ∧ s = s' := by
  rcases h with ⟨e1, e2, e3⟩ | ⟨⟨x, hx, h1⟩, h2, h3⟩
  · rcases h' with ⟨g1, g2, g3⟩ | ⟨⟨y, hy, g1⟩, g2, g3⟩
    · omega
    · rw [e3] at hy; cases hy
  · rcases h' with ⟨g1, g2, g3⟩ | ⟨⟨y, hy, g1⟩, g2, g3⟩
    · rw [g3] at hx; cases hx
    · have et : t = t' := by
        have a := h2 y hy
        have b := g2 x hx
        omega
      subst et
      refine ⟨rfl, ?_⟩
      rcases h3 with ⟨i1, i2⟩ | ⟨⟨z, hz, i1⟩, i2, i3⟩
      · rcases g3 with ⟨j1, j2⟩ | ⟨⟨w, hw, j1⟩, j2, j3⟩
        · omega
        · have := i2 w hw; omega
      · rcases g3 with ⟨j1, j2⟩ | ⟨⟨w, hw, j1⟩, j2, j3⟩
        · have := j2 z hz; omega
        · have a := i3 w hw (by omega)
          have b := j3 z hz (by omega)
          omega
/-- one total more -/
theorem isTS_add {L : List (Nat × Nat)} {t s : Int} (h : isTS L t s) (x : Nat × Nat) : isTS (L ++ [x]) (if (x.1 : Int) > t then (x.1 : Int) else t) (if (x.1 : Int) > t then t else if (x.1 : Int) < t ∧ (x.1 : Int) > s then (x.1 : Int) else s) := by
  rcases h with ⟨rfl, rfl, rfl⟩ | ⟨⟨y, hy, h1⟩, h2, h3⟩
  · have : (x.1 : Int) > -1 := by omega
    rw [if_pos this, if_pos this]
    exact Or.inr ⟨⟨x, by simp, rfl⟩, by simp, Or.inl ⟨rfl, by simp⟩⟩
  · by_cases c : (x.1 : Int) > t
    · rw [if_pos c, if_pos c]
      refine Or.inr ⟨⟨x, by simp, rfl⟩, fun z hz => ?_, Or.inr ⟨⟨y, by simp [hy], h1⟩, c, fun z hz hlt => ?_⟩⟩
      · rw [List.mem_append, List.mem_singleton] at hz
        rcases hz with hz | rfl
        · have := h2 z hz; omega
        · omega
      · rw [List.mem_append, List.mem_singleton] at hz
        rcases hz with hz | rfl
        · exact h2 z hz
        · omega
    · rw [if_neg c, if_neg c]
      refine Or.inr ⟨⟨y, by simp [hy], h1⟩, fun z hz => ?_, ?_⟩
      · rw [List.mem_append, List.mem_singleton] at hz
        rcases hz with hz | rfl
        · exact h2 z hz
        · omega
      · by_cases c2 : (x.1 : Int) < t ∧ (x.1 : Int) > s
        · rw [if_pos c2]
          refine Or.inr ⟨⟨x, by simp, rfl⟩, c2.1, fun z hz hlt => ?_⟩
          rw [List.mem_append, List.mem_singleton] at hz
          rcases hz with hz | rfl
          · rcases h3 with ⟨i1, i2⟩ | ⟨-, i2, i3⟩
            · have := i2 z hz; omega
            · have := i3 z hz hlt; omega
          · omega
        · rw [if_neg c2]
          rcases h3 with ⟨i1, i2⟩ | ⟨⟨z, hz, i1⟩, i2, i3⟩
          · refine Or.inl ⟨i1, fun z hz => ?_⟩
            rw [List.mem_append, List.mem_singleton] at hz
            rcases hz with hz | rfl
            · exact i2 z hz
            · omega
          · refine Or.inr ⟨⟨z, by simp [hz], i1⟩, i2, fun w hw hlt => ?_⟩
            rw [List.mem_append, List.mem_singleton] at hw
            rcases hw with hw | rfl
            · exact i3 w hw hlt
            · omega
