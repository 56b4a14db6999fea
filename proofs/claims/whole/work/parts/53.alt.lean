/-! ===== strokes: rows by turns of a pair and not, their gains ===== -/
def z3 (x : Int) : Int32 := Int32.ofInt x
theorem z3_add (a b : Int) : z3 a + z3 b = z3 (a + b) := (Int32.ofInt_add a b).symm
theorem z3_neg (a : Int) : -(z3 a) = z3 (-a) := (Int32.ofInt_neg a).symm
theorem z3_i3 (n : Nat) : i3 n = z3 (n : Int) := Int32.ofInt_eq_ofNat.symm
theorem z3_toInt {a : Int} (h1 : -2147483648 ≤ a) (h2 : a < 2147483648) : (z3 a).toInt = a := by
  unfold z3
  rw [Int32.toInt_ofInt]
  rw [Int.bmod_def]
  simp only [Int32.size]
  omega
theorem z3_le {a b : Int} (h1 : -2147483648 ≤ a) (h2 : a < 2147483648) (h3 : -2147483648 ≤ b) (h4 : b < 2147483648) : z3 a ≤ z3 b ↔ a ≤ b := by
  rw [Int32.le_iff_toInt_le, z3_toInt h1 h2, z3_toInt h3 h4]
theorem z3_lt {a b : Int} (h1 : -2147483648 ≤ a) (h2 : a < 2147483648) (h3 : -2147483648 ≤ b) (h4 : b < 2147483648) : z3 a < z3 b ↔ a < b := by
  rw [Int32.lt_iff_toInt_lt, z3_toInt h1 h2, z3_toInt h3 h4]
/-- the weight of two -/
def Wt (N : Rw) (p q : Nat) : Nat := match li N p q with
  | some l => (N (128 + l)).toNatClampNeg
  | none => 0
def pa (N : Rw) (p q : Nat) : Bool := decide (N (158 + p) = i3 q)
def sgn (t : Bool) (w : Nat) : Int := if t = true then -(w : Int) else (w : Int)
def alt (N : Rw) (f : Bool) : List Nat → Bool → Int → Prop
  | [], _, _ => False
  | [_], _, _ => False
  | [q, p], t, g => lk N p q = true ∧ pa N p q = f ∧ t = f ∧ g = sgn f (Wt N p q)
  | r :: q :: x :: rest, t, g => lk N q r = true ∧ pa N q r = t ∧ r ∉ (q :: x :: rest) ∧ alt N f (q :: x :: rest) (!t) (g - sgn t (Wt N q r))
def st (row : List Nat) : Nat := row.getLastD 0
def h0 (row : List Nat) : Nat := row.headD 0
def opn (N : Rw) (f : Bool) (row : List Nat) (t : Bool) : Prop := (f = true ∨ lone N (st row) = true) ∧ (t = true ∨ lone N (h0 row) = true)
def cls (N : Rw) (f : Bool) (row : List Nat) (t : Bool) : Prop := lk N (h0 row) (st row) = true ∧ pa N (h0 row) (st row) = !t ∧ 4 ≤ row.length ∧ f = t
def clv (N : Rw) (row : List Nat) (t : Bool) (g : Int) : Int := g + sgn (!t) (Wt N (h0 row) (st row))
/-- what the reference weighs -/
def MC (N : Rw) (x : Int) : Prop := ∃ f row t g, alt N f row t g ∧ ((opn N f row t ∧ x = g) ∨ (cls N f row t ∧ x = clv N row t g))
/-- what the class weighs -/
def CC (N : Rw) (x : Int) : Prop := ∃ f row t g, alt N f row t g ∧ ((opn N f row t ∧ x = g) ∨ (cls N f row t ∧ t = true ∧ x = clv N row t g))
section ALT
variable {N : Rw} {f : Bool}
theorem Wt_some {p q : Nat} (g : GI N) (s : SI N) (h : lk N p q = true) : ∃ l, li N p q = some l ∧ l < nL N ∧ N (128 + l) = i3 (Wt N p q) ∧ Wt N p q ≤ 99 := by
  unfold lk at h
  cases e : li N p q with
  | none => rw [e] at h; cases h
  | some l =>
    have hl := (li_some e).1
    obtain ⟨w, h1, h2, h3⟩ := s.2.1 l hl
    refine ⟨l, rfl, hl, ?_, ?_⟩
    · unfold Wt; rw [e]; dsimp only; rw [h1, i3_toNat (by omega)]
    · unfold Wt; rw [e]; dsimp only; rw [h1, i3_toNat (by omega)]; exact h3
theorem Wt_comm (p q : Nat) : Wt N p q = Wt N q p := by unfold Wt; rw [li_comm]
theorem Wt_le (g : GI N) (s : SI N) (p q : Nat) : Wt N p q ≤ 99 := by
  cases h : lk N p q with
  | true => obtain ⟨l, -, -, -, h2⟩ := Wt_some g s h; exact h2
  | false =>
    unfold lk at h
    unfold Wt
    cases e : li N p q with
    | none => simp
    | some l => rw [e] at h; cases h
theorem sgn_le (g : GI N) (s : SI N) (t : Bool) (p q : Nat) : -99 ≤ sgn t (Wt N p q) ∧ sgn t (Wt N p q) ≤ 99 := by
  have := Wt_le g s p q
  unfold sgn
  split <;> omega
theorem pa_comm (g : GI N) (s : SI N) {p q : Nat} (hp : p < nP N) (hq : q < nP N) : pa N p q = pa N q p := by
  have hn := g.1.2
  have key : ∀ {p q : Nat}, p < nP N → q < nP N → pa N p q = true → pa N q p = true := by
    intro p q hp hq h
    have h1 : N (158 + p) = i3 q := of_decide_eq_true h
    rcases prt s hp with z | ⟨z, z1, z2, z3, -⟩
    · rw [h1] at z
      have := i3_ne1 (a := q) (by omega)
      rw [z] at this
      simp at this
    · rw [h1, i3_eq (by omega) (by omega)] at z2
      rw [← z2] at z3
      exact decide_eq_true z3
  cases h1 : pa N p q with
  | true => exact (key hp hq h1).symm
  | false =>
    cases h2 : pa N q p with
    | false => rfl
    | true => rw [key hq hp h2] at h1; cases h1
theorem alt_ne {row : List Nat} {t : Bool} {v : Int} (h : alt N f row t v) : ∃ r q rest, row = r :: q :: rest := by
  match row, h with
  | r :: q :: rest, _ => exact ⟨r, q, rest, rfl⟩
theorem alt_ok (g : GI N) (s : SI N) : ∀ {row : List Nat} {t : Bool} {v : Int}, alt N f row t v → row.Nodup ∧ (∀ x ∈ row, x < nP N) ∧ -99 * (row.length : Int) ≤ v ∧ v ≤ 99 * (row.length : Int)
  | [], _, _, h => h.elim
  | [_], _, _, h => h.elim
  | [q, p], t, v, h => by
    obtain ⟨h1, h2, h3, h4⟩ := h
    have hl := lk_lt g h1
    have hw := sgn_le g s f p q
    refine ⟨by simp; exact fun e => hl.2.2 e.symm, fun x hx => ?_, ?_, ?_⟩
    · simp at hx
      rcases hx with rfl | rfl
      · exact hl.2.1
      · exact hl.1
    · rw [h4]; simp; omega
    · rw [h4]; simp; omega
  | r :: q :: x :: rest, t, v, h => by
    obtain ⟨h1, h2, h3, h4⟩ := h
    obtain ⟨a1, a2, a3, a4⟩ := alt_ok g s h4
    have hl := lk_lt g h1
    have hw := sgn_le g s t q r
    refine ⟨List.nodup_cons.mpr ⟨h3, a1⟩, fun y hy => ?_, ?_, ?_⟩
    · rcases List.mem_cons.mp hy with rfl | hy
      · exact hl.2.1
      · exact a2 y hy
    · simp only [List.length_cons] at a3 ⊢; omega
    · simp only [List.length_cons] at a4 ⊢; omega
theorem alt_b (g : GI N) (s : SI N) {row : List Nat} {t : Bool} {v : Int} (h : alt N f row t v) : row.length ≤ 10 ∧ -990 ≤ v ∧ v ≤ 990 := by
  have hn := g.1.2
  obtain ⟨a1, a2, a3, a4⟩ := alt_ok g s h
  have := nodup_le a1 a2
  omega
/-- one link more -/
theorem alt_cons {row : List Nat} {t : Bool} {v : Int} {r : Nat} (h : alt N f row t v) (h1 : lk N (h0 row) r = true) (h2 : pa N (h0 row) r = !t) (h3 : r ∉ row) : alt N f (r :: row) (!t) (v + sgn (!t) (Wt N (h0 row) r)) := by
  obtain ⟨q, x, rest, rfl⟩ := alt_ne h
  refine ⟨h1, h2, h3, ?_⟩
  rw [Bool.not_not]
  have e : v + sgn (!t) (Wt N (h0 (q :: x :: rest)) r) - sgn (!t) (Wt N q r) = v := by
    show v + sgn (!t) (Wt N q r) - sgn (!t) (Wt N q r) = v
    omega
  rw [e]
  exact h
/-- one link less -/
theorem alt_tail {row : List Nat} {t : Bool} {v : Int} {r : Nat} (h : alt N f (r :: row) t v) (hl : 2 ≤ row.length) : alt N f row (!t) (v - sgn t (Wt N (h0 row) r)) ∧ lk N (h0 row) r = true ∧ pa N (h0 row) r = t ∧ r ∉ row := by
  match row, hl with
  | q :: x :: rest, _ =>
    obtain ⟨h1, h2, h3, h4⟩ := h
    exact ⟨h4, h1, h2, h3⟩
theorem st_cons {row : List Nat} (r : Nat) (h : 1 ≤ row.length) : st (r :: row) = st row := by
  match row, h with
  | q :: rest, _ => simp [st]
/-- a part of a row is one -/
theorem alt_part {row : List Nat} : ∀ {xs : List Nat} {t : Bool} {v : Int}, alt N f (xs ++ row) t v → 2 ≤ row.length → ∃ t' v', alt N f row t' v'
  | [], t, v, h, _ => ⟨t, v, h⟩
  | x :: xs, t, v, h, hl => by
    have := alt_tail (row := xs ++ row) (r := x) h (by rw [List.length_append]; omega)
    exact alt_part this.1 hl
/-- type and gain of a row are its own -/
theorem alt_uniq : ∀ {row : List Nat} {t t' : Bool} {v v' : Int}, alt N f row t v → alt N f row t' v' → t = t' ∧ v = v'
  | [], _, _, _, _, h, _ => h.elim
  | [_], _, _, _, _, h, _ => h.elim
  | [q, p], t, t', v, v', h, h' => ⟨h.2.2.1.trans h'.2.2.1.symm, h.2.2.2.trans h'.2.2.2.symm⟩
  | r :: q :: x :: rest, t, t', v, v', h, h' => by
    have e1 : t = t' := h.2.1.symm.trans h'.2.1
    subst e1
    have := (alt_uniq h.2.2.2 h'.2.2.2).2
    exact ⟨rfl, by omega⟩
/-- the row begun one point earlier, by a pair's link -/
theorem alt_back (gi : GI N) {z : Nat} : ∀ {row : List Nat} {t : Bool} {v : Int}, alt N false row t v → z ∉ row → lk N z (st row) = true → pa N z (st row) = true → pa N (st row) z = true → alt N true (row ++ [z]) t (v + sgn true (Wt N z (st row)))
  | [], _, _, h, _, _, _, _ => h.elim
  | [_], _, _, h, _, _, _, _ => h.elim
  | [q, p], t, v, h, hz, h1, h2, h3 => by
    obtain ⟨a1, a2, a3, a4⟩ := h
    have e : st [q, p] = p := rfl
    rw [e] at h1 h2 h3 ⊢
    refine ⟨a1, by rw [a2, a3], ?_, ?_⟩
    · intro hm
      simp only [List.mem_cons, List.not_mem_nil, or_false] at hm hz
      rcases hm with rfl | rfl
      · exact (lk_lt gi a1).2.2 rfl
      · exact hz (Or.inl rfl)
    · refine ⟨h1, h2, by rw [a3]; rfl, ?_⟩
      rw [a4, a3]
      omega
  | r :: q :: x :: rest, t, v, h, hz, h1, h2, h3 => by
    obtain ⟨a1, a2, a3, a4⟩ := h
    have e : st (r :: q :: x :: rest) = st (q :: x :: rest) := st_cons _ (by simp)
    rw [e] at h1 h2 h3 ⊢
    have hz2 : z ∉ q :: x :: rest := fun hm => hz (List.mem_cons_of_mem _ hm)
    have ih := alt_back gi a4 hz2 h1 h2 h3
    refine ⟨a1, a2, ?_, ?_⟩
    · intro hm
      have hm2 : r ∈ (q :: x :: rest) ++ [z] := hm
      rw [List.mem_append, List.mem_singleton] at hm2
      rcases hm2 with hm | hm
      · exact a3 hm
      · exact hz (by rw [← hm]; simp)
    · have e2 : v + sgn true (Wt N z (st (q :: x :: rest))) - sgn t (Wt N q r) = v - sgn t (Wt N q r) + sgn true (Wt N z (st (q :: x :: rest))) := by omega
      rw [e2]
      exact ih
/-- a closed row that begins with a link of no pair, begun one point earlier -/
theorem MC_CC (gi : GI N) (s : SI N) {x : Int} : MC N x ↔ CC N x := by
  have hn := gi.1.2
  constructor
  · rintro ⟨f, row, t, v, h, (⟨ho, hx⟩ | ⟨hc, hx⟩)⟩
    · exact ⟨f, row, t, v, h, Or.inl ⟨ho, hx⟩⟩
    · cases t with
      | true => exact ⟨f, row, true, v, h, Or.inr ⟨hc, rfl, hx⟩⟩
      | false =>
        obtain ⟨c1, c2, c3, c4⟩ := hc
        subst c4
        obtain ⟨r, q, rest, rfl⟩ := alt_ne h
        have hl : 2 ≤ (q :: rest).length := by simp at c3 ⊢; omega
        obtain ⟨a1, a2, a3, a4⟩ := alt_tail h hl
        have e0 : h0 (r :: q :: rest) = r := rfl
        have e1 : st (r :: q :: rest) = st (q :: rest) := st_cons _ (by simp)
        have e2 : h0 (q :: rest) = q := rfl
        rw [e0, e1] at c1 c2
        rw [e2] at a1 a2 a3
        have hr := lk_lt gi c1
        rw [Bool.not_false] at a1 c2
        have hb := alt_back gi a1 a4 c1 c2 (by rw [pa_comm gi s hr.2.1 hr.1]; exact c2)
        have e3 : h0 (q :: rest ++ [r]) = q := rfl
        have e4 : st (q :: rest ++ [r]) = r := List.getLastD_concat
        refine ⟨true, q :: rest ++ [r], true, _, hb, Or.inr ⟨⟨?_, ?_, ?_, rfl⟩, rfl, ?_⟩⟩
        · rw [e3, e4]; exact a2
        · rw [e3, e4]; exact a3
        · rw [List.length_append]; simp at c3 ⊢; omega
        · rw [hx]
          unfold clv
          rw [e3, e4, e0, e1]
          have w1 := Wt_comm (N := N) q r
          simp only [Bool.not_true, Bool.not_false]
          omega
  · rintro ⟨f, row, t, v, h, (⟨ho, hx⟩ | ⟨hc, -, hx⟩)⟩
    · exact ⟨f, row, t, v, h, Or.inl ⟨ho, hx⟩⟩
    · exact ⟨f, row, t, v, h, Or.inr ⟨hc, hx⟩⟩
end ALT
