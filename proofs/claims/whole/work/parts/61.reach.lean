/-! ===== which sets of free points are met; bounds ===== -/
def rOK (n g : Nat) : Bool := decide (g = 0) || (decide (g < 2 ^ n) && decide (cnt (fun j => decide (lst g ≤ j) && !g.testBit j) n ≤ lst g))
theorem rOK_all : ∀ n, n < 11 → rOK n (2 ^ n - 1) = true := by decide +kernel
def rchk (n g : Nat) : Bool := !rOK n g || decide (g = 0) || (rOK n (clr g (lst g)) && (List.range n).all (fun q => !(clr g (lst g)).testBit q || rOK n (clr (clr g (lst g)) q)))
theorem rchk_all : ∀ n, n < 11 → ∀ g, g < 2 ^ n → rchk n g = true := by decide +kernel
theorem rOK_step {n : Nat} (hn : n < 11) {g : Nat} (hg : g < 2 ^ n) (hr : rOK n g = true) (h0 : g ≠ 0) : rOK n (clr g (lst g)) = true ∧ ∀ q, q < n → (clr g (lst g)).testBit q = true → rOK n (clr (clr g (lst g)) q) = true := by
  have h := rchk_all n hn g hg
  unfold rchk at h
  rw [hr] at h
  simp only [Bool.not_true, Bool.false_or, Bool.or_eq_true, decide_eq_true_eq, Bool.and_eq_true, List.all_eq_true, List.mem_range, Bool.not_eq_true'] at h
  rcases h with h | h
  · exact absurd h h0
  · refine ⟨h.1, fun q hq hb => ?_⟩
    rcases h.2 q hq with w | w
    · rw [hb] at w; cases w
    · exact w
theorem rOK_cnt : ∀ n, n < 11 → cnt (rOK n) 1024 ≤ 144 := by decide +kernel
theorem clr_pw : ∀ n, n < 11 → ∀ g, g < 2 ^ n → ∀ p, p < n → clr g p < 2 ^ n := by decide +kernel
/-- how many pairings so many points can have -/
def tm : Nat → Nat
  | 0 => 1
  | 1 => 1
  | k + 2 => tm (k + 1) + (k + 1) * tm k
theorem tm_mono : ∀ k, tm k ≤ tm (k + 1)
  | 0 => by decide
  | k + 1 => by show tm (k + 1) ≤ tm (k + 1) + (k + 1) * tm k; omega
theorem tm_le {j k : Nat} (h : j ≤ k) : tm j ≤ tm k := by
  induction k with
  | zero => have : j = 0 := by omega
            rw [this]; exact Nat.le_refl _
  | succ k ih =>
    by_cases e : j = k + 1
    · rw [e]; exact Nat.le_refl _
    · exact Nat.le_trans (ih (by omega)) (tm_mono k)
theorem tm_10 : tm 10 = 9496 := by decide
theorem cnt_filter (P : Nat → Bool) : ∀ n, ((List.range n).filter P).length = cnt P n := by
  intro n
  induction n with
  | zero => rfl
  | succ n ih =>
    rw [List.range_succ, List.filter_append, List.length_append, ih, cnt_succ]
    cases h : P n <;> simp [h]
theorem cnt_le {P Q : Nat → Bool} : ∀ {n : Nat}, (∀ k, k < n → P k = true → Q k = true) → cnt P n ≤ cnt Q n := by
  intro n
  induction n with
  | zero => intro _; exact Nat.le_refl _
  | succ n ih =>
    intro h
    rw [cnt_succ, cnt_succ]
    have := ih (fun k hk => h k (by omega))
    have h2 := h n (by omega)
    cases hp : P n with
    | false => simp; omega
    | true => rw [h2 hp]; omega
theorem qsl_len (N : Rw) (m : Nat) : (qsl N m).length ≤ pc (clr m (lst m)) := by
  unfold qsl
  rw [cnt_filter]
  exact cnt_le (fun k _ h => by rw [Bool.and_eq_true] at h; exact h.1)
theorem qsl_mem {N : Rw} {m q : Nat} (h : q ∈ qsl N m) : q < 10 ∧ (clr m (lst m)).testBit q = true ∧ lk N (lst m) q = true := by
  unfold qsl at h
  rw [List.mem_filter, Bool.and_eq_true, List.mem_range] at h
  exact ⟨h.1, h.2.1, h.2.2⟩
theorem flat_len {α β : Type} (f : α → List β) (b : Nat) : ∀ l : List α, (∀ x ∈ l, (f x).length ≤ b) → (l.flatMap f).length ≤ l.length * b := by
  intro l
  induction l with
  | nil => intro _; simp
  | cons a l ih =>
    intro h
    rw [List.flatMap_cons, List.length_append, List.length_cons, Nat.succ_mul]
    have h1 := h a List.mem_cons_self
    have h2 := ih (fun x hx => h x (List.mem_cons_of_mem _ hx))
    omega
/-- strong induction over sets of free points -/
theorem mask_ind {P : Nat → Prop} (h0 : P 0) (h1 : ∀ m, m < 1024 → m ≠ 0 → P (clr m (lst m)) → (∀ q, q < 10 → (clr m (lst m)).testBit q = true → P (clr (clr m (lst m)) q)) → P m) : ∀ m, m < 1024 → P m := by
  intro m
  induction m using Nat.strongRecOn with
  | _ m ih =>
    intro hm
    by_cases e : m = 0
    · rw [e]; exact h0
    · obtain ⟨l1, l2⟩ := lst_ok m hm e
      have c1 := clr_lt m hm _ l1 l2
      have c2 := clr_1024 m hm _ l1
      refine h1 m hm e (ih _ c1 c2) (fun q hq hb => ?_)
      have c3 := clr_lt _ c2 q hq hb
      exact ih _ (by omega) (clr_1024 _ c2 q hq)
theorem tl_b {N : Rw} (g : GI N) (s : SI N) : ∀ m, m < 1024 → (tl N m).length ≤ tm (pc m) ∧ tl N m ≠ [] ∧ ∀ x ∈ tl N m, x.1 ≤ 99 * x.2 ∧ 2 * x.2 ≤ pc m := by
  refine mask_ind ?_ ?_
  · rw [tl_0]
    exact ⟨by decide, by simp, by simp⟩
  · intro m hm h0 i1 i2
    obtain ⟨l1, l2⟩ := lst_ok m hm h0
    have c2 := clr_1024 m hm _ l1
    have p1 := pc_clr m hm _ l1 l2
    rw [tl_eq N hm h0]
    refine ⟨?_, ?_, ?_⟩
    · rw [List.length_append]
      have hq := qsl_len N m
      have hf := flat_len (fun q => (tl N (clr (clr m (lst m)) q)).map (fun x => (Wt N (lst m) q + x.1, x.2 + 1))) (tm (pc m - 2)) (qsl N m) (fun q hq => by
        obtain ⟨q1, q2, -⟩ := qsl_mem hq
        rw [List.length_map]
        have p2 := pc_clr _ c2 q q1 q2
        have := (i2 q q1 q2).1
        rw [show pc (clr (clr m (lst m)) q) = pc m - 2 by omega] at this
        exact this)
      have h1 := i1.1
      rw [show pc (clr m (lst m)) = pc m - 1 by omega] at h1 hq
      by_cases e1 : pc m = 1
      · rw [e1] at hq h1 ⊢
        have : (qsl N m).length = 0 := by omega
        have hz : qsl N m = [] := List.length_eq_zero_iff.mp this
        rw [hz]
        simp only [List.flatMap_nil, List.length_nil, Nat.zero_add]
        exact h1
      · obtain ⟨k, hk⟩ : ∃ k, pc m = k + 2 := ⟨pc m - 2, by omega⟩
        rw [hk] at hf h1 hq ⊢
        rw [show k + 2 - 2 = k by omega] at hf
        rw [show k + 2 - 1 = k + 1 by omega] at h1 hq
        have : (qsl N m).length * tm k ≤ (k + 1) * tm k := Nat.mul_le_mul_right _ hq
        show _ ≤ tm (k + 1) + (k + 1) * tm k
        omega
    · intro q
      rw [List.append_eq_nil_iff] at q
      exact i1.2.1 q.2
    · intro x hx
      rw [List.mem_append] at hx
      rcases hx with hx | hx
      · rw [List.mem_flatMap] at hx
        obtain ⟨q, hq, hx⟩ := hx
        obtain ⟨q1, q2, -⟩ := qsl_mem hq
        obtain ⟨y, hy, rfl⟩ := List.mem_map.mp hx
        have := (i2 q q1 q2).2.2 y hy
        have p2 := pc_clr _ c2 q q1 q2
        have hw := Wt_le g s (lst m) q
        dsimp only
        omega
      · have := i1.2.2 x hx
        omega
theorem tl_LB {N : Rw} (g : GI N) (s : SI N) {m : Nat} (hm : m < 1024) : LB (tl N m) := by
  obtain ⟨h1, -, h3⟩ := tl_b g s m hm
  have hp := @pc_le m
  refine ⟨?_, fun x hx => ?_⟩
  · have := tm_le hp
    rw [tm_10] at this
    omega
  · have := h3 x hx
    omega
theorem LB_perm {L L' : List (Nat × Nat)} (h : L.Perm L') (hb : LB L') : LB L := ⟨by rw [h.length_eq]; exact hb.1, fun x hx => hb.2 x (h.mem_iff.mp hx)⟩
theorem wy_perm {L L' : List (Nat × Nat)} (h : L.Perm L') (k : Nat) : wy L k = wy L' k := h.countP_eq _
theorem isHv_perm {L L' : List (Nat × Nat)} (h : L.Perm L') {k : Nat} {t : Int} (hh : isHv L k t) : isHv L' k t := by
  rcases hh with ⟨e, h1⟩ | ⟨x, hx, h1, h2, h3⟩
  · exact Or.inl ⟨e, fun y hy => h1 y (h.mem_iff.mpr hy)⟩
  · exact Or.inr ⟨x, h.mem_iff.mp hx, h1, h2, fun y hy => h3 y (h.mem_iff.mpr hy)⟩
theorem isTS_perm {L L' : List (Nat × Nat)} (h : L.Perm L') {t s : Int} (hh : isTS L t s) : isTS L' t s := isTS_mem hh (fun v => ⟨fun ⟨z, hz, e⟩ => ⟨z, h.mem_iff.mp hz, e⟩, fun ⟨z, hz, e⟩ => ⟨z, h.mem_iff.mpr hz, e⟩⟩)
theorem shl_00 (L : List (Nat × Nat)) : shl 0 0 L = L := by
  unfold shl
  have : (fun x : Nat × Nat => (0 + x.1, x.2 + 0)) = id := by funext x; simp
  rw [this, List.map_id]
