/-! ===== rows that go on by turns: what both sides look for ===== -/
def fs {α : Type} (F : Nat → Option α) : Nat → Option α
  | 0 => none
  | n + 1 => match fs F n with
    | some x => some x
    | none => F n
theorem fs_step {α : Type} {F : Nat → Option α} {n : Nat} (h : fs F n = none) : fs F (n + 1) = F n := by
  show (match fs F n with | some x => some x | none => F n) = _
  rw [h]
theorem fs_keep {α : Type} {F : Nat → Option α} {n : Nat} {x : α} (h : fs F n = some x) : ∀ m, n ≤ m → fs F m = some x := by
  intro m
  induction m with
  | zero => intro hm; have : n = 0 := by omega
            subst this; exact h
  | succ m ih =>
    intro hm
    by_cases e : n = m + 1
    · rw [← e]; exact h
    · show (match fs F m with | some x => some x | none => F m) = _
      rw [ih (by omega)]
theorem fs_hit {α : Type} {F : Nat → Option α} {n m : Nat} {x : α} (h : fs F n = none) (e : F n = some x) (hm : n < m) : fs F m = some x := fs_keep (by rw [fs_step h, e]) m (by omega)
theorem fs_more {α : Type} {F : Nat → Option α} {n : Nat} : ∀ {m : Nat}, n ≤ m → (∀ p, n ≤ p → p < m → F p = none) → fs F m = fs F n := by
  intro m
  induction m with
  | zero => intro h _; have : n = 0 := by omega
            subst this; rfl
  | succ m ih =>
    intro h hp
    by_cases e : n = m + 1
    · rw [e]
    · have h1 := ih (by omega) (fun p h1 h2 => hp p h1 (by omega))
      show (match fs F m with | some x => some x | none => F m) = _
      rw [h1, hp m (by omega) (by omega)]
      cases fs F n <;> rfl
theorem fs_some {α : Type} {F : Nat → Option α} : ∀ {n : Nat} {x : α}, fs F n = some x → ∃ p, p < n ∧ F p = some x := by
  intro n
  induction n with
  | zero => intro x h; cases h
  | succ n ih =>
    intro x h
    cases e : fs F n with
    | some y =>
      rw [fs_keep e (n + 1) (by omega)] at h
      cases h
      obtain ⟨p, h1, h2⟩ := ih e
      exact ⟨p, by omega, h2⟩
    | none =>
      rw [fs_step e] at h
      exact ⟨n, by omega, h⟩
theorem fs_congr {α : Type} {F G : Nat → Option α} : ∀ {n : Nat}, (∀ p, p < n → F p = G p) → fs F n = fs G n := by
  intro n
  induction n with
  | zero => intro _; rfl
  | succ n ih =>
    intro h
    show (match fs F n with | some x => some x | none => F n) = (match fs G n with | some x => some x | none => G n)
    rw [ih (fun p hp => h p (by omega)), h n (by omega)]
def ls (row : List Nat) : Nat := row.getD (row.length - 1) 0
def hd0 (row : List Nat) : Nat := row.getD 0 0
def ext (N : Rw) (closed : Bool) : Nat → List Nat → Option (List Nat)
  | 0, row => if closed = true then (if lk N (ls row) (hd0 row) = true then some row else none) else fs (fun p => if (lk N (ls row) p && !row.contains p && lone N p) = true then some (row ++ [p]) else none) 10
  | n + 1, row => fs (fun p => if (lk N (ls row) p && !row.contains p && !lone N p && !row.contains (ptq N p)) = true then ext N closed n (row ++ [p, ptq N p]) else none) 10
theorem gd_app1 (row : List Nat) (p i : Nat) : (row ++ [p]).getD i 0 = if i < row.length then row.getD i 0 else if i = row.length then p else 0 := by
  simp only [List.getD_eq_getElem?_getD, List.getElem?_append]
  by_cases h : i < row.length
  · rw [if_pos h, if_pos h]
  · rw [if_neg h, if_neg h]
    by_cases h2 : i = row.length
    · rw [if_pos h2, h2, Nat.sub_self]; rfl
    · rw [if_neg h2]
      obtain ⟨j, hj⟩ : ∃ j, i - row.length = j + 1 := ⟨i - row.length - 1, by omega⟩
      rw [hj]
      rfl
theorem app2 (row : List Nat) (p q : Nat) : row ++ [p, q] = (row ++ [p]) ++ [q] := by simp
theorem ls_app (row : List Nat) (p : Nat) : ls (row ++ [p]) = p := by
  unfold ls
  rw [gd_app1, List.length_append]
  simp
theorem ls_app2 (row : List Nat) (p q : Nat) : ls (row ++ [p, q]) = q := by rw [app2, ls_app]
theorem hd_app {row : List Nat} (h : 1 ≤ row.length) (l : List Nat) : hd0 (row ++ l) = hd0 row := by
  unfold hd0
  simp only [List.getD_eq_getElem?_getD]
  rw [List.getElem?_append_left (by omega)]
theorem ls_mem {row : List Nat} (h : 1 ≤ row.length) : ls row ∈ row := by
  unfold ls
  rw [List.getD_eq_getElem?_getD, List.getElem?_eq_getElem (by omega)]
  exact List.getElem_mem _
/-- what is found: longer, each once, of points -/
theorem ext_ok {N : Rw} (g : GI N) (s : SI N) {closed : Bool} : ∀ {n : Nat} {row row' : List Nat}, ext N closed n row = some row' → row.Nodup → (∀ x ∈ row, x < nP N) → row'.Nodup ∧ (∀ x ∈ row', x < nP N) ∧ row'.length = row.length + 2 * n + (if closed = true then 0 else 1) := by
  have hn := g.1.2
  intro n
  induction n with
  | zero =>
    intro row row' h hd hp
    unfold ext at h
    cases closed with
    | true =>
      rw [if_pos rfl] at h
      split at h
      · cases h
        exact ⟨hd, hp, by simp⟩
      · cases h
    | false =>
      rw [if_neg (by decide)] at h
      obtain ⟨p, -, e⟩ := fs_some h
      split at e
      · cases e
        rename_i hc
        simp only [Bool.and_eq_true, Bool.not_eq_true', List.contains_eq_mem, decide_eq_false_iff_not] at hc
        refine ⟨?_, ?_, by simp⟩
        · rw [List.nodup_append]
          exact ⟨hd, by simp, fun x hx y hy => by simp at hy; subst hy; rintro rfl; exact hc.1.2 hx⟩
        · intro x hx
          rw [List.mem_append, List.mem_singleton] at hx
          rcases hx with hx | rfl
          · exact hp x hx
          · exact (lk_lt g hc.1.1).2.1
      · cases e
  | succ n ih =>
    intro row row' h hd hp
    unfold ext at h
    obtain ⟨p, -, e⟩ := fs_some h
    split at e
    · rename_i hc
      simp only [Bool.and_eq_true, Bool.not_eq_true', List.contains_eq_mem, decide_eq_false_iff_not] at hc
      have hpl := (lk_lt g hc.1.1.1).2.1
      have hq : ptq N p < nP N ∧ ptq N p ≠ p := by
        rcases prt s hpl with q | ⟨q, q1, q2, q3, q4⟩
        · have : lone N p = true := decide_eq_true q
          rw [this] at hc
          exact absurd hc.1.2 (by decide)
        · have : ptq N p = q := by unfold ptq; rw [q2, i3_toNat (by omega)]
          rw [this]
          exact ⟨q1, fun e => (lk_lt g q4).2.2 e.symm⟩
      have hnd : (row ++ [p, ptq N p]).Nodup := by
        rw [List.nodup_append]
        refine ⟨hd, by simp; exact fun e => hq.2 e.symm, fun x hx y hy => ?_⟩
        simp only [List.mem_cons, List.not_mem_nil, or_false] at hy
        rcases hy with rfl | rfl
        · rintro rfl; exact hc.1.1.2 hx
        · rintro rfl; exact hc.2 hx
      have hmm : ∀ x ∈ row ++ [p, ptq N p], x < nP N := by
        intro x hx
        simp only [List.mem_append, List.mem_cons, List.not_mem_nil, or_false] at hx
        rcases hx with hx | rfl | rfl
        · exact hp x hx
        · exact hpl
        · exact hq.1
      obtain ⟨r1, r2, r3⟩ := ih e hnd hmm
      refine ⟨r1, r2, ?_⟩
      rw [r3, List.length_append]
      simp only [List.length_cons, List.length_nil]
      omega
    · cases e
/-- the class's row -/
def Rx (c : mB) (r : Nat) (row : List Nat) : Prop := Rl c r 10 row.length ∧ ∀ i, i < row.length → c.1 (r + 1) i = i3 (row.getD i 0)
def SW (r : Nat) : Nat → Nat → Prop := fun b j => (b = r ∧ j = 1) ∨ b = r + 1
section EXT
variable {c d : mB} {p0 r : Nat} {N : Rw} {row : List Nat}
theorem Rx_add (h : Rx c r row) (hl : row.length < 10) (p : Nat) : ∃ c', FX7_add r (i3 p) c = some c' ∧ Rx c' r (row ++ [p]) ∧ mx_out (SW r) c c' := by
  refine ⟨_, R_add h.1 hl _, ⟨?_, ?_⟩, ?_⟩
  · have := Rl_radd h.1 hl (i3 p)
    rw [List.length_append]
    exact this
  · intro i hi
    rw [List.length_append] at hi
    rw [gd_app1]
    by_cases e : i < row.length
    · rw [if_pos e, radd_old (by omega)]
      exact h.2 i e
    · have : i = row.length := by simp at hi; omega
      subst this
      rw [if_neg e, if_pos rfl, radd_new]
  · exact mx_out_up (mx_out_up mx_out.rf rfl (Or.inr rfl)) rfl (Or.inl ⟨rfl, rfl⟩)
theorem Rx_drop {p q : Nat} (h : Rx c r (row ++ [p, q])) : ∃ c', FX7_dropTwo r c = some c' ∧ Rx c' r row ∧ mx_out (SW r) c c' := by
  obtain ⟨⟨h1, h2, h3⟩, h4⟩ := h
  rw [List.length_append] at h1 h2 h4
  simp only [List.length_cons, List.length_nil] at h1 h2 h4
  refine ⟨(mx_up c.1 r 1 (i3 row.length), c.2), ?_, ⟨⟨mx_up_self _ _ _ _, by omega, h3⟩, ?_⟩, mx_out_up mx_out.rf rfl (Or.inl ⟨rfl, rfl⟩)⟩
  · unfold FX7_dropTwo FJ9_max_7cf53
    rw [h1, show row.length + (0 + 1 + 1) = row.length + 2 by omega]
    simp (disch := omega) only [i3_subL, ob_some, mx_letI, mx_chkT, mx_inb_i3, mx_inb_lit, lit_toNat, i3_toNat, i3_le, i3_lt, i3_leL, i3_Lle, i3_ltL, i3_Llt, i3_neg, i3_eq, i3_eqL, i3_ne1, i3_add, i3_addL, i3_Ladd, i3_mul, i3_mulL, i3_Lmul, mx_b01_0, mx_b01_1, b2_01, b2_0, b2_1, se_inl, se_inr, if_true, if_false, e10, e01, e00, e11, em1, em1lt, Nat.not_lt_zero]
    rw [show row.length + 2 - 2 = row.length by omega]
    by_cases e : 0 < row.length
    · rw [if_pos e]; rfl
    · have : row.length = 0 := by omega
      rw [if_neg e, this]
      rfl
  · intro i hi
    show mx_up c.1 r 1 _ (r + 1) i = _
    rw [up_off _ (by omega), h4 i (by omega), List.getD_eq_getElem?_getD, List.getD_eq_getElem?_getD, List.getElem?_append_left hi]
end EXT
