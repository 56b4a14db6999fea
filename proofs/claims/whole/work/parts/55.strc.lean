/-! ===== the class's strokes ===== -/
def GC : Nat → Nat → Prop := fun b j => b = 38 ∧ j = 1
def allc (N : Rw) (f : Bool) (row : List Nat) (G : Int) : Prop := ∀ xs t v, alt N f (xs ++ row) t v → (opn N f (xs ++ row) t → v ≤ G) ∧ (cls N f (xs ++ row) t → t = true → clv N (xs ++ row) t v ≤ G)
theorem allc_up {N : Rw} {f : Bool} {row : List Nat} {G G' : Int} (h : allc N f row G) (hg : G ≤ G') : allc N f row G' := fun xs t v ha => ⟨fun ho => by have := (h xs t v ha).1 ho; omega, fun hc ht => by have := (h xs t v ha).2 hc ht; omega⟩
def QC (N : Rw) (f : Bool) (row : List Nat) (G : Int) (m : mB) : mB → Prop := fun m' => mx_out GC m m' ∧ ∃ G', m'.1 38 1 = z3 G' ∧ GB N G' ∧ G ≤ G' ∧ allc N f row G' ∧ (G' = G ∨ CC N G')
/-- where the class stands: a lone point, or behind a pair's link -/
def CSt (N : Rw) (f : Bool) (row : List Nat) (v : Int) : Prop := (∃ p, row = [p] ∧ p < nP N ∧ lone N p = true ∧ f = false ∧ v = 0) ∨ (alt N f row true v ∧ (f = true ∨ lone N (st row) = true))
theorem z3_sub (a b : Int) : z3 a - z3 b = z3 (a - b) := (Int32.ofInt_sub a b).symm
theorem J_max {a b : Int} (h1 : -2147483648 ≤ a) (h2 : a < 2147483648) (h3 : -2147483648 ≤ b) (h4 : b < 2147483648) (m : mB) : FJ9_max_7cf53 (z3 a) (z3 b) m = some (z3 (if a < b then b else a)) := by
  unfold FJ9_max_7cf53
  have e := z3_lt h1 h2 h3 h4
  by_cases h : a < b
  · rw [if_pos (e.mpr h), if_pos h]
  · rw [if_neg (fun q => h (e.mp q)), if_neg h]
section STRC
variable {c : mB} {p0 : Nat} {N : Rw} {f : Bool}
theorem alt_first : ∀ {row : List Nat} {t : Bool} {v : Int}, alt N f row t v → ∃ xs q p, row = xs ++ [q, p] ∧ pa N p q = f ∧ lk N p q = true ∧ st row = p ∧ alt N f [q, p] f (sgn f (Wt N p q))
  | [], _, _, h => h.elim
  | [_], _, _, h => h.elim
  | [q, p], t, v, h => ⟨[], q, p, rfl, h.2.1, h.1, rfl, h.1, h.2.1, rfl, rfl⟩
  | r :: q :: x :: rest, t, v, h => by
    obtain ⟨xs, q2, p2, e, h1, h2, h3, h4⟩ := alt_first h.2.2.2
    refine ⟨r :: xs, q2, p2, by rw [e]; rfl, h1, h2, ?_, h4⟩
    rw [st_cons _ (by simp)]
    exact h3
/-- the point that it came from by a pair's link is its partner -/
theorem alt_pt (g : GI N) (s : SI N) {row : List Nat} {v : Int} (h : alt N f row true v) : ∃ z, z ∈ row ∧ N (158 + h0 row) = i3 z := by
  have sym : ∀ {p q : Nat}, p < nP N → q < nP N → pa N p q = true → N (158 + q) = i3 p := by
    intro p q hp hq h
    rw [pa_comm g s hp hq] at h
    exact of_decide_eq_true h
  match row, h with
  | [q, p], h =>
    obtain ⟨h1, h2, h3, -⟩ := h
    have hl := lk_lt g h1
    exact ⟨p, by simp, sym (p := p) (q := q) hl.1 hl.2.1 (by rw [h2, ← h3])⟩
  | r :: q :: x :: rest, h =>
    obtain ⟨h1, h2, -, -⟩ := h
    have hl := lk_lt g h1
    exact ⟨q, by simp, sym (p := q) (q := r) hl.1 hl.2.1 h2⟩
theorem CSt_ok (g : GI N) (s : SI N) {row : List Nat} {v : Int} (h : CSt N f row v) : row.Nodup ∧ (∀ x ∈ row, x < nP N) ∧ 1 ≤ row.length ∧ -990 ≤ v ∧ v ≤ 990 ∧ h0 row ∈ row ∧ st row ∈ row := by
  rcases h with ⟨p, rfl, hp, -, -, rfl⟩ | ⟨ha, -⟩
  · exact ⟨by simp, by simp; exact hp, by simp, by omega, by omega, by simp [h0], by simp [st]⟩
  · obtain ⟨h1, h2, -, -⟩ := alt_ok g s ha
    obtain ⟨-, h3, h4⟩ := alt_b g s ha
    obtain ⟨xs, q, p, e, -, -, e2, -⟩ := alt_first ha
    obtain ⟨r, q2, rest, e3⟩ := alt_ne ha
    exact ⟨h1, h2, by rw [e3]; simp, h3, h4, by rw [e3]; simp [h0], by rw [e2, e]; simp⟩
/-- a link of no pair more -/
theorem CSt_one (g : GI N) (s : SI N) {row : List Nat} {v : Int} (h : CSt N f row v) {p : Nat} (hk : lk N (h0 row) p = true) (hin : p ∉ row) : alt N f (p :: row) false (v + (Wt N (h0 row) p : Int)) ∧ (f = true ∨ lone N (st (p :: row)) = true) := by
  have hn := g.1.2
  have hp := (lk_lt g hk).2.1
  rcases h with ⟨p1, rfl, hp1, hl, rfl, rfl⟩ | ⟨ha, hf⟩
  · have e : h0 [p1] = p1 := rfl
    rw [e] at hk ⊢
    have hpa : pa N p1 p = false := decide_eq_false (fun q => by
      have : N (158 + p1) = -1 := of_decide_eq_true hl
      rw [this] at q
      exact m1_ne 10 (by omega) p (by omega) q)
    exact ⟨⟨hk, hpa, rfl, by simp [sgn]⟩, Or.inr (by simp [st]; exact hl)⟩
  · obtain ⟨z, hz, e⟩ := alt_pt g s ha
    have hzl := (alt_ok g s ha).2.1 z hz
    have hpa : pa N (h0 row) p = !true := decide_eq_false (fun q => by
      rw [e, i3_eq (by omega) (by omega)] at q
      rw [← q] at hin
      exact hin hz)
    have := alt_cons ha hk hpa hin
    obtain ⟨r, q, rest, e3⟩ := alt_ne ha
    refine ⟨?_, ?_⟩
    · have e4 : sgn (!true) (Wt N (h0 row) p) = (Wt N (h0 row) p : Int) := rfl
      rw [e4] at this
      exact this
    · rw [st_cons _ (by rw [e3]; simp)]; exact hf
/-- in a row all but a first and a last are paired within -/
theorem alt_in (g : GI N) (s : SI N) : ∀ {row : List Nat} {t : Bool} {v : Int}, alt N f row t v → ∀ y ∈ row, (∃ z, z ∈ row ∧ N (158 + y) = i3 z) ∨ (y = h0 row ∧ t = false) ∨ (y = st row ∧ f = false)
  | [], _, _, h => h.elim
  | [_], _, _, h => h.elim
  | [r, p2], t, v, h => by
    intro y hy
    obtain ⟨h1, h2, h3, -⟩ := h
    have hl := lk_lt g h1
    cases f with
    | true =>
      left
      have e1 : N (158 + p2) = i3 r := of_decide_eq_true h2
      rw [pa_comm g s hl.1 hl.2.1] at h2
      have e2 : N (158 + r) = i3 p2 := of_decide_eq_true h2
      simp only [List.mem_cons, List.not_mem_nil, or_false] at hy
      rcases hy with rfl | rfl
      · exact ⟨p2, by simp, e2⟩
      · exact ⟨r, by simp, e1⟩
    | false =>
      simp only [List.mem_cons, List.not_mem_nil, or_false] at hy
      rcases hy with rfl | rfl
      · exact Or.inr (Or.inl ⟨rfl, h3⟩)
      · exact Or.inr (Or.inr ⟨rfl, rfl⟩)
  | r :: q :: x :: rest, t, v, h => by
    intro y hy
    obtain ⟨h1, h2, h3, h4⟩ := h
    have hl := lk_lt g h1
    rcases List.mem_cons.mp hy with rfl | hy
    · cases t with
      | false => exact Or.inr (Or.inl ⟨rfl, rfl⟩)
      | true =>
        left
        rw [pa_comm g s hl.1 hl.2.1] at h2
        exact ⟨q, by simp, of_decide_eq_true h2⟩
    · rcases alt_in g s h4 y hy with ⟨z, hz, e⟩ | ⟨e1, e2⟩ | ⟨e1, e2⟩
      · exact Or.inl ⟨z, List.mem_cons_of_mem _ hz, e⟩
      · left
        have ht : t = true := by
          cases t with
          | true => rfl
          | false => cases e2
        rw [ht] at h2
        have e3 : y = q := e1
        exact ⟨r, by simp, by rw [e3]; exact of_decide_eq_true h2⟩
      · right; right
        exact ⟨e1.trans (st_cons r (by simp)).symm, e2⟩
/-- and its partner's -/
theorem CSt_two (g : GI N) (s : SI N) {row : List Nat} {v : Int} (h : CSt N f row v) {p : Nat} (hk : lk N (h0 row) p = true) (hin : p ∉ row) (hlo : lone N p = false) : CSt N f (ptq N p :: p :: row) (v + (Wt N (h0 row) p : Int) - (Wt N p (ptq N p) : Int)) ∧ ptq N p ∉ row := by
  have hn := g.1.2
  have hp := (lk_lt g hk).2.1
  obtain ⟨q1, q2, q3, q4, q5⟩ := pt_of g s hp hlo
  obtain ⟨o1, o2⟩ := CSt_one g s h hk hin
  have notin : ptq N p ∉ row := by
    intro hm
    rcases h with ⟨p1, rfl, hp1, hl, rfl, rfl⟩ | ⟨ha, hf⟩
    · rw [List.mem_singleton] at hm
      rw [hm] at q5
      have : N (158 + p1) = -1 := of_decide_eq_true hl
      rw [this] at q5
      exact m1_ne 10 (by omega) p (by omega) q5
    · rcases alt_in g s ha _ hm with ⟨z, hz, e⟩ | ⟨-, e⟩ | ⟨e1, e2⟩
      · have hzl := (alt_ok g s ha).2.1 z hz
        rw [q5, i3_eq (by omega) (by omega)] at e
        rw [e] at hin
        exact hin hz
      · cases e
      · rcases hf with w | w
        · rw [e2] at w; cases w
        · have : N (158 + st row) = -1 := of_decide_eq_true w
          rw [← e1, q5] at this
          have h9 := i3_ne1 (a := p) (by omega)
          rw [this] at h9
          simp at h9
  refine ⟨Or.inr ⟨?_, ?_⟩, notin⟩
  · have hpa : pa N (h0 (p :: row)) (ptq N p) = !false := decide_eq_true q1
    have := alt_cons o1 (r := ptq N p) q4 hpa (by
      intro hm
      rcases List.mem_cons.mp hm with e | e
      · exact q3 e
      · exact notin e)
    have e4 : v + (Wt N (h0 row) p : Int) + sgn (!false) (Wt N (h0 (p :: row)) (ptq N p)) = v + (Wt N (h0 row) p : Int) - (Wt N p (ptq N p) : Int) := by
      show _ + -(Wt N p (ptq N p) : Int) = _
      omega
    rw [e4] at this
    exact this
  · rw [st_cons _ (by simp)]; exact o2
theorem seen_bits (g : GI N) {row : List Nat} (hnd : row.Nodup) (hx : ∀ x ∈ row, x < nP N) {sn : Int32} (hb : ∀ j, j < 32 → bt sn j = decide (j ∈ row)) (m : mB) : FJ6_bitCount_0f7a4 sn m = some (i3 row.length) := by
  have hn := g.1.2
  have e : sn = i3 (sN (fun i => row.getD i 0) row.length) := by
    apply bt_ext
    intro j hj
    rw [hb j hj, bt_i3 hj]
    cases h : (sN (fun i => row.getD i 0) row.length).testBit j with
    | true =>
      obtain ⟨i, hi, e⟩ := sN_bit.mp h
      apply decide_eq_true
      rw [← e]
      exact gd_mem hi
    | false =>
      apply decide_eq_false
      intro hm
      obtain ⟨i, hi, e⟩ := List.mem_iff_getElem.mp hm
      have : (sN (fun i => row.getD i 0) row.length).testBit j = true := sN_bit.mpr ⟨i, hi, by
        rw [List.getD_eq_getElem?_getD, List.getElem?_eq_getElem hi]
        exact e⟩
      rw [this] at h
      cases h
  have hlt : ∀ i, i < row.length → row.getD i 0 < 10 := fun i hi => by have := hx _ (gd_mem hi); omega
  have h10 : sN (fun i => row.getD i 0) row.length < 2 ^ 10 := sN_lt hlt
  rw [e, J_bitCount m h10, sN_pc hlt (fun i j hi hj e => nodup_inj hnd hi hj e)]
end STRC
