/-! ===== sums of slots ===== -/
theorem isTS_mem {L L' : List (Nat × Nat)} {t s : Int} (h : isTS L t s) (hm : ∀ v : Nat, (∃ z ∈ L, z.1 = v) ↔ (∃ z ∈ L', z.1 = v)) : isTS L' t s := by
  have all : ∀ {P : Int → Prop}, (∀ y ∈ L, P (y.1 : Int)) → ∀ y ∈ L', P (y.1 : Int) := by
    intro P h y hy
    obtain ⟨z, hz, e⟩ := (hm y.1).mpr ⟨y, hy, rfl⟩
    rw [← e]; exact h z hz
  have ex : ∀ {v : Int}, (∃ y ∈ L, (y.1 : Int) = v) → ∃ y ∈ L', (y.1 : Int) = v := by
    rintro v ⟨y, hy, rfl⟩
    obtain ⟨z, hz, e⟩ := (hm y.1).mp ⟨y, hy, rfl⟩
    exact ⟨z, hz, by rw [e]⟩
  rcases h with ⟨e1, e2, e3⟩ | ⟨h1, h2, h3⟩
  · refine Or.inl ⟨e1, e2, ?_⟩
    cases L' with
    | nil => rfl
    | cons x l =>
      obtain ⟨z, hz, -⟩ := (hm x.1).mpr ⟨x, by simp, rfl⟩
      rw [e3] at hz
      cases hz
  · refine Or.inr ⟨ex h1, all (P := fun v => v ≤ t) h2, ?_⟩
    rcases h3 with ⟨i1, i2⟩ | ⟨i1, i2, i3⟩
    · exact Or.inl ⟨i1, all (P := fun v => v = t) i2⟩
    · exact Or.inr ⟨ex i1, i2, all (P := fun v => v < t → v ≤ s) i3⟩
theorem isTS_low {L B : List (Nat × Nat)} {t s : Int} (h : isTS L t s) {x y : Nat × Nat} (hx : x ∈ L) (hy : y ∈ L) (hxy : y.1 < x.1) (hB : ∀ z ∈ B, z.1 < y.1 ∨ z.1 = y.1 ∨ z.1 = x.1) : isTS (L ++ B) t s := by
  rcases h with ⟨-, -, e3⟩ | ⟨⟨w, hw, h1⟩, h2, h3⟩
  · rw [e3] at hx; cases hx
  · have x1 := h2 x hx
    have y1 := h2 y hy
    refine Or.inr ⟨⟨w, by simp [hw], h1⟩, fun z hz => ?_, ?_⟩
    · rw [List.mem_append] at hz
      rcases hz with hz | hz
      · exact h2 z hz
      · have := hB z hz; omega
    · rcases h3 with ⟨i1, i2⟩ | ⟨⟨u, hu, i1⟩, i2, i3⟩
      · exfalso
        have a := i2 x hx
        have b := i2 y hy
        omega
      · refine Or.inr ⟨⟨u, by simp [hu], i1⟩, i2, fun z hz hlt => ?_⟩
        rw [List.mem_append] at hz
        rcases hz with hz | hz
        · exact i3 z hz hlt
        · have b := i3 y hy (by omega)
          rcases hB z hz with q | q | q
          · omega
          · omega
          · have a := i3 x hx (by omega); omega
def adT (t s v : Int) : Int × Int := (if v > t then v else t, if v > t then t else if v < t ∧ v > s then v else s)
/-- a whole list more, by its greatest and its next alone -/
theorem isTS_comp {A B : List (Nat × Nat)} {t s t' s' : Int} (hA : isTS A t s) (hB : isTS B t' s') (hne : B ≠ []) :
    isTS (A ++ B) (if s' = -1 then adT t s t' else adT (adT t s t').1 (adT t s t').2 s').1 (if s' = -1 then adT t s t' else adT (adT t s t').1 (adT t s t').2 s').2 := by
  rcases hB with ⟨-, -, e⟩ | ⟨⟨x, hx, h1⟩, h2, h3⟩
  · exact absurd e hne
  · have a1 := isTS_add hA x
    rw [h1] at a1
    have a1' : isTS (A ++ [x]) (adT t s t').1 (adT t s t').2 := a1
    rcases h3 with ⟨i1, i2⟩ | ⟨⟨y, hy, i1⟩, i2, i3⟩
    · rw [if_pos i1]
      refine isTS_mem a1' (fun v => ?_)
      constructor
      · rintro ⟨z, hz, e⟩
        rw [List.mem_append, List.mem_singleton] at hz
        rcases hz with hz | rfl
        · exact ⟨z, by simp [hz], e⟩
        · exact ⟨z, by simp [hx], e⟩
      · rintro ⟨z, hz, e⟩
        rw [List.mem_append] at hz
        rcases hz with hz | hz
        · exact ⟨z, by simp [hz], e⟩
        · refine ⟨x, by simp, ?_⟩
          have := i2 z hz
          omega
    · have hs : ¬ s' = -1 := by omega
      rw [if_neg hs]
      have a2 := isTS_add a1' y
      rw [i1] at a2
      have a2' : isTS (A ++ [x] ++ [y]) (adT (adT t s t').1 (adT t s t').2 s').1 (adT (adT t s t').1 (adT t s t').2 s').2 := a2
      have a3 := isTS_low (B := B) a2' (x := x) (y := y) (by simp) (by simp) (by omega) (fun z hz => by
        have b1 := h2 z hz
        by_cases c : (z.1 : Int) < t'
        · have := i3 z hz c; omega
        · omega)
      refine isTS_mem a3 (fun v => ?_)
      constructor
      · rintro ⟨z, hz, e⟩
        refine ⟨z, ?_, e⟩
        simp only [List.mem_append, List.mem_singleton] at hz ⊢
        rcases hz with ((hz | rfl) | rfl) | hz
        · exact Or.inl hz
        · exact Or.inr hx
        · exact Or.inr hy
        · exact Or.inr hz
      · rintro ⟨z, hz, e⟩
        refine ⟨z, ?_, e⟩
        simp only [List.mem_append, List.mem_singleton] at hz ⊢
        rcases hz with hz | hz
        · exact Or.inl (Or.inl (Or.inl hz))
        · exact Or.inr hz
theorem isHv_app {A B : List (Nat × Nat)} {k : Nat} {t t' : Int} (hA : isHv A k t) (hB : isHv B k t') : isHv (A ++ B) k (if t < t' then t' else t) := by
  rcases hA with ⟨rfl, h⟩ | ⟨x, hx, h1, h2, h3⟩
  · rcases hB with ⟨rfl, g⟩ | ⟨y, hy, g1, g2, g3⟩
    · left
      refine ⟨by simp, fun z hz => ?_⟩
      rw [List.mem_append] at hz
      rcases hz with hz | hz
      · exact h z hz
      · exact g z hz
    · right
      rw [if_pos (by omega)]
      refine ⟨y, by simp [hy], g1, g2, fun z hz hk => ?_⟩
      rw [List.mem_append] at hz
      rcases hz with hz | hz
      · exact absurd hk (h z hz)
      · exact g3 z hz hk
  · rcases hB with ⟨rfl, g⟩ | ⟨y, hy, g1, g2, g3⟩
    · right
      rw [if_neg (by omega)]
      refine ⟨x, by simp [hx], h1, h2, fun z hz hk => ?_⟩
      rw [List.mem_append] at hz
      rcases hz with hz | hz
      · exact h3 z hz hk
      · exact absurd hk (g z hz)
    · right
      by_cases c : t < t'
      · rw [if_pos c]
        refine ⟨y, by simp [hy], g1, g2, fun z hz hk => ?_⟩
        rw [List.mem_append] at hz
        rcases hz with hz | hz
        · have := h3 z hz hk; omega
        · exact g3 z hz hk
      · rw [if_neg c]
        refine ⟨x, by simp [hx], h1, h2, fun z hz hk => ?_⟩
        rw [List.mem_append] at hz
        rcases hz with hz | hz
        · exact h3 z hz hk
        · have := g3 z hz hk; omega
/-- a weight and a pair more -/
def shl (w e : Nat) (L : List (Nat × Nat)) : List (Nat × Nat) := L.map (fun x => (w + x.1, x.2 + e))
theorem wy_shl (w e : Nat) (L : List (Nat × Nat)) (k : Nat) : wy (shl w e L) (k + e) = wy L k := by
  unfold wy shl
  rw [List.countP_map]
  congr 1
  funext x
  simp
theorem wy_shl0 (w : Nat) (L : List (Nat × Nat)) : wy (shl w 1 L) 0 = 0 := by
  unfold wy shl
  rw [List.countP_map, List.countP_eq_zero]
  intro x _
  simp
theorem isHv_shl {L : List (Nat × Nat)} {k : Nat} {t : Int} (w e : Nat) (h : isHv L k t) (hne : ∃ x ∈ L, x.2 = k) : isHv (shl w e L) (k + e) (t + w) := by
  rcases h with ⟨-, h⟩ | ⟨x, hx, h1, h2, h3⟩
  · obtain ⟨x, hx, e⟩ := hne; exact absurd e (h x hx)
  · right
    refine ⟨(w + x.1, x.2 + e), List.mem_map.mpr ⟨x, hx, rfl⟩, by simp [h1], by simp; omega, fun z hz hk => ?_⟩
    obtain ⟨y, hy, rfl⟩ := List.mem_map.mp hz
    have := h3 y hy (by simpa using hk)
    simp
    omega
theorem isHv_shln {L : List (Nat × Nat)} {k : Nat} (w e : Nat) (h : ∀ x ∈ L, x.2 ≠ k) : isHv (shl w e L) (k + e) (-1) := by
  left
  refine ⟨rfl, fun z hz => ?_⟩
  obtain ⟨y, hy, rfl⟩ := List.mem_map.mp hz
  have := h y hy
  simp
  exact this
theorem isTS_shl {L : List (Nat × Nat)} {t s : Int} (w e : Nat) (h : isTS L t s) (hne : L ≠ []) : isTS (shl w e L) (t + w) (if s = -1 then -1 else s + w) := by
  rcases h with ⟨-, -, h⟩ | ⟨⟨x, hx, h1⟩, h2, h3⟩
  · exact absurd h hne
  · refine Or.inr ⟨⟨(w + x.1, x.2 + e), List.mem_map.mpr ⟨x, hx, rfl⟩, by simp; omega⟩, fun z hz => ?_, ?_⟩
    · obtain ⟨y, hy, rfl⟩ := List.mem_map.mp hz
      have := h2 y hy
      simp; omega
    · rcases h3 with ⟨i1, i2⟩ | ⟨⟨u, hu, i1⟩, i2, i3⟩
      · rw [if_pos i1]
        refine Or.inl ⟨rfl, fun z hz => ?_⟩
        obtain ⟨y, hy, rfl⟩ := List.mem_map.mp hz
        have := i2 y hy
        simp; omega
      · rw [if_neg (by omega)]
        refine Or.inr ⟨⟨(w + u.1, u.2 + e), List.mem_map.mpr ⟨u, hu, rfl⟩, by simp; omega⟩, by omega, fun z hz hlt => ?_⟩
        obtain ⟨y, hy, rfl⟩ := List.mem_map.mp hz
        have a : (y.1 : Int) < t := by simp at hlt; omega
        have := i3 y hy a
        simp; omega
