/-! ===== words and tokens ===== -/
section TOK
variable {c c' d d' : mB} {n lim p : Nat} {t : Nat → Nat}
/-- both give something -/
def hb {α β : Type} (x : Option α) (y : Option β) (Q : α → β → Prop) : Prop := ∃ a b, x = some a ∧ y = some b ∧ Q a b
theorem lgz (x y : Int64) : lg_cmp x y = 0 ↔ x = y := by
  unfold lg_cmp
  by_cases h1 : x > y
  · rw [if_pos h1]
    refine ⟨fun q => absurd q (by decide), fun q => ?_⟩
    rw [q] at h1
    exact absurd h1 Int64.lt_irrefl
  · rw [if_neg h1]
    by_cases h2 : x = y
    · rw [if_pos h2]; exact ⟨fun _ => h2, fun _ => rfl⟩
    · rw [if_neg h2]; exact ⟨fun q => absurd q (by decide), fun q => absurd q h2⟩
/-- a word as a number -/
def pB (B : Nat) (w : List Nat) : Nat := w.foldl (fun s l => s * B + l) 0
theorem pB_snoc (B : Nat) (w : List Nat) (l : Nat) : pB B (w ++ [l]) = pB B w * B + l := by
  unfold pB
  rw [List.foldl_append]
  rfl
theorem pB_inj {B : Nat} : ∀ (k : Nat) {w w' : List Nat}, w.length ≤ k → (∀ l ∈ w, 1 ≤ l ∧ l < B) → (∀ l ∈ w', 1 ≤ l ∧ l < B) → pB B w = pB B w' → w = w' := by
  intro k
  induction k with
  | zero =>
    intro w w' hk h1 h2 e
    have hw : w = [] := List.length_eq_zero_iff.mp (by omega)
    subst hw
    rcases List.eq_nil_or_concat w' with q | ⟨v, l, q⟩
    · exact q.symm
    · rw [List.concat_eq_append] at q
      rw [q, pB_snoc] at e
      have := (h2 l (by rw [q]; simp)).1
      have e2 : pB B [] = 0 := rfl
      rw [e2] at e
      omega
  | succ k ih =>
    intro w w' hk h1 h2 e
    rcases List.eq_nil_or_concat w with q | ⟨v, l, q⟩
    · subst q
      exact ih (by simp) h1 h2 e
    · rw [List.concat_eq_append] at q
      have hl := h1 l (by rw [q]; simp)
      rcases List.eq_nil_or_concat w' with q' | ⟨v', l', q'⟩
      · rw [q, q', pB_snoc] at e
        have e2 : pB B [] = 0 := rfl
        rw [e2] at e
        omega
      · rw [List.concat_eq_append] at q'
        have hl' := h2 l' (by rw [q']; simp)
        rw [q, q', pB_snoc, pB_snoc] at e
        have hm : l = l' := by
          have := congrArg (fun x => x % B) e
          rw [Nat.mul_add_mod_self_right, Nat.mul_add_mod_self_right, Nat.mod_eq_of_lt hl.2, Nat.mod_eq_of_lt hl'.2] at this
          exact this
        have hv : pB B v = pB B v' := by
          rw [hm] at e
          have e3 : pB B v * B = pB B v' * B := by omega
          exact Nat.eq_of_mul_eq_mul_right (by omega) e3
        have := ih (w := v) (w' := v') (by rw [q] at hk; simp at hk; omega) (fun x hx => h1 x (by rw [q]; simp [hx])) (fun x hx => h2 x (by rw [q']; simp [hx])) hv
        rw [q, q', this, hm]
theorem pB_lt {B : Nat} : ∀ (w : List Nat), (∀ l ∈ w, l < B) → pB B w < B ^ w.length := by
  intro w
  induction h : w.length generalizing w with
  | zero =>
    intro _
    rw [List.length_eq_zero_iff.mp h]
    exact Nat.one_pos
  | succ k ih =>
    intro hw
    rcases List.eq_nil_or_concat w with q | ⟨v, l, q⟩
    · rw [q] at h; simp at h
    · rw [List.concat_eq_append] at q
      have hl := hw l (by rw [q]; simp)
      have := ih v (by rw [q] at h; simp at h; omega) (fun x hx => hw x (by rw [q]; simp [hx]))
      rw [q, pB_snoc, Nat.pow_succ]
      have h2 : (pB B v + 1) * B ≤ B ^ k * B := Nat.mul_le_mul_right B this
      rw [Nat.add_mul] at h2
      omega
theorem p32_B (w : List Nat) : p32 w = pB 32 w := rfl
theorem p27_B (w : List Nat) : p27 w = pB 27 w := rfl
theorem wok_lt {w : List Nat} (h : wok w) : p32 w < 2 ^ 62 ∧ p27 w < 2 ^ 62 := by
  have h1 := pB_lt (B := 32) w (fun l hl => by have := (h.2.2 l hl).2; omega)
  have h2 := pB_lt (B := 27) w (fun l hl => by have := (h.2.2 l hl).2; omega)
  have a1 : 32 ^ w.length ≤ 32 ^ 7 := Nat.pow_le_pow_right (by omega) h.2.1
  have a2 : 27 ^ w.length ≤ 27 ^ 7 := Nat.pow_le_pow_right (by omega) h.2.1
  rw [p32_B, p27_B]
  have b1 : (32 : Nat) ^ 7 < 2 ^ 62 := by decide
  have b2' : (27 : Nat) ^ 7 < 2 ^ 62 := by decide
  exact ⟨by omega, by omega⟩
theorem i64_eq {a b : Nat} (ha : a < 2 ^ 62) (hb : b < 2 ^ 62) : Int64.ofNat a = Int64.ofNat b ↔ a = b := by
  constructor
  · intro h
    have := congrArg Int64.toNatClampNeg h
    rwa [Int64.toNatClampNeg_ofNat_of_lt (by omega), Int64.toNatClampNeg_ofNat_of_lt (by omega)] at this
  · rintro rfl; rfl
theorem w32_eq {w w' : List Nat} (h : wok w) (h' : wok w') : Int64.ofNat (p32 w) = Int64.ofNat (p32 w') ↔ w = w' := by
  rw [i64_eq (wok_lt h).1 (wok_lt h').1]
  refine ⟨fun e => pB_inj (B := 32) 7 h.2.1 (fun l hl => ?_) (fun l hl => ?_) e, fun e => by rw [e]⟩
  · have := h.2.2 l hl; omega
  · have := h'.2.2 l hl; omega
theorem w27_eq {w w' : List Nat} (h : wok w) (h' : wok w') : Int64.ofNat (p27 w) = Int64.ofNat (p27 w') ↔ w = w' := by
  rw [i64_eq (wok_lt h).2 (wok_lt h').2]
  refine ⟨fun e => pB_inj (B := 27) 7 h.2.1 (fun l hl => ?_) (fun l hl => ?_) e, fun e => by rw [e]⟩
  · have := h.2.2 l hl; omega
  · have := h'.2.2 l hl; omega
/-- the told words, in the class's order -/
def wds : List (List Nat) := [[16, 15, 9, 14, 20], [12, 9, 14, 11], [16, 1, 9, 18], [16, 18, 9, 3, 5], [15, 4, 4], [16, 1, 18, 20], [23, 5, 9, 7, 8], [3, 18, 15, 23, 14], [15, 16, 5, 14], [7, 18, 15, 23], [15, 18], [1, 14, 4], [14, 15, 20], [12, 15, 14, 5], [20, 9, 7, 8, 20], [23, 9, 20, 8], [12, 9, 14, 11, 5, 4], [9, 14], [16, 18, 9, 3, 5, 4], [12, 9, 14, 11, 19], [23, 5, 9, 7, 8, 20], [14, 21, 13, 2, 5, 18]]
def wd (i : Nat) : List Nat := wds.getD i []
theorem wd_ok : ∀ i, i < 22 → wok (wd i) := by
  intro i hi
  have : ∀ i, i < 22 → 1 ≤ (wd i).length ∧ (wd i).length ≤ 7 ∧ (wd i).all (fun l => decide (1 ≤ l ∧ l ≤ 26)) = true := by decide +kernel
  obtain ⟨h1, h2, h3⟩ := this i hi
  refine ⟨h1, h2, fun l hl => ?_⟩
  have := List.all_eq_true.mp h3 l hl
  simpa using this
theorem wd_inj : ∀ i, i < 22 → ∀ j, j < 22 → wd i = wd j → i = j := by decide +kernel
def tix (w : List Nat) : Option Nat := ff (fun i => decide (wd i = w)) 22
def kdw (w : List Nat) : Int32 := match tix w with
  | some i => i3 (100 + i)
  | none => 2
def isL (v : Nat) : Bool := decide (97 ≤ v) && decide (v ≤ 122)
def isD (v : Nat) : Bool := decide (48 ≤ v) && decide (v ≤ 57)
def isA (v : Nat) : Bool := isL v || isD v
def isW (v : Nat) : Bool := decide (v = 32) || decide (v = 10)
def isG (v : Nat) : Bool := (decide (59 ≤ v) && decide (v ≤ 62)) || decide (v = 40) || decide (v = 41)
/-- how long the chunk is that begins at p -/
def chn (n : Nat) (t : Nat → Nat) (p : Nat) : Nat := (ff (fun k => decide (n ≤ p + k) || !isA (t (p + k))) (n + 1)).getD 0
theorem chn_ok (hp : p ≤ n) : p + chn n t p ≤ n ∧ (∀ k, k < chn n t p → p + k < n ∧ isA (t (p + k)) = true) ∧ (n ≤ p + chn n t p ∨ isA (t (p + chn n t p)) = false) := by
  unfold chn
  cases e : ff (fun k => decide (n ≤ p + k) || !isA (t (p + k))) (n + 1) with
  | none =>
    have := ff_none.mp e (n - p) (by omega)
    rw [decide_eq_true (by omega)] at this
    cases this
  | some L =>
    obtain ⟨h1, h2, h3⟩ := ff_some.mp e
    show p + L ≤ n ∧ (∀ k, k < L → p + k < n ∧ isA (t (p + k)) = true) ∧ (n ≤ p + L ∨ isA (t (p + L)) = false)
    have h4 : ∀ k, k < L → p + k < n ∧ isA (t (p + k)) = true := by
      intro k hk
      have := h3 k hk
      rw [Bool.or_eq_false_iff, decide_eq_false_iff_not] at this
      exact ⟨by omega, by simpa using this.2⟩
    refine ⟨?_, h4, ?_⟩
    · by_cases c0 : L = 0
      · omega
      · have := (h4 (L - 1) (by omega)).1; omega
    · rw [Bool.or_eq_true, decide_eq_true_eq] at h2
      exact h2.imp id (fun q => by simpa using q)
/-- how far white space goes -/
def skp (M : Nat) (t : Nat → Nat) (p : Nat) : Nat := (ff (fun k => decide (M ≤ p + k) || !isW (t (p + k))) (M + 1)).getD 0
theorem skp_ok (M : Nat) (t : Nat → Nat) (p : Nat) : (∀ k, k < skp M t p → p + k < M ∧ isW (t (p + k)) = true) ∧ (M ≤ p + skp M t p ∨ isW (t (p + skp M t p)) = false) := by
  unfold skp
  cases e : ff (fun k => decide (M ≤ p + k) || !isW (t (p + k))) (M + 1) with
  | none =>
    have := ff_none.mp e M (by omega)
    rw [decide_eq_true (by omega)] at this
    cases this
  | some L =>
    obtain ⟨h1, h2, h3⟩ := ff_some.mp e
    show (∀ k, k < L → p + k < M ∧ isW (t (p + k)) = true) ∧ (M ≤ p + L ∨ isW (t (p + L)) = false)
    refine ⟨fun k hk => ?_, ?_⟩
    · have := h3 k hk
      rw [Bool.or_eq_false_iff, decide_eq_false_iff_not] at this
      exact ⟨by omega, by simpa using this.2⟩
    · rw [Bool.or_eq_true, decide_eq_true_eq] at h2
      exact h2.imp id (fun q => by simpa using q)
/-- what is read of a chunk -/
def nl (t : Nat → Nat) (p k : Nat) : Nat := cnt (fun j => isL (t (p + j))) k
def nd (t : Nat → Nat) (p k : Nat) : Nat := cnt (fun j => !isL (t (p + j))) k
def f32 (t : Nat → Nat) (p : Nat) : Nat → Int64
  | 0 => 0
  | k + 1 => if isL (t (p + k)) = true then f32 t p k * 32 + Int64.ofNat (t (p + k) - 96) else f32 t p k
def fN (t : Nat → Nat) (p : Nat) : Nat → Int32
  | 0 => 0
  | k + 1 => if isL (t (p + k)) = true then fN t p k else fN t p k * 10 + i3 (t (p + k) - 48)
def f27 (t : Nat → Nat) (p : Nat) : Nat → Int64
  | 0 => 0
  | k + 1 => if k < 7 then 27 * f27 t p k + Int64.ofNat (t (p + k)) - 96 else f27 t p k
def fM (t : Nat → Nat) (p : Nat) : Nat → Int32
  | 0 => 0
  | k + 1 => if k < 3 then 10 * fM t p k + i3 (t (p + k)) - 48 else fM t p k
def wrd (t : Nat → Nat) (p k : Nat) : List Nat := (List.range k).map (fun j => t (p + j) - 96)
theorem wrd_succ (t : Nat → Nat) (p k : Nat) : wrd t p (k + 1) = wrd t p k ++ [t (p + k) - 96] := by
  unfold wrd
  rw [List.range_succ, List.map_append]
  rfl
theorem isL_iff {v : Nat} : isL v = true ↔ 97 ≤ v ∧ v ≤ 122 := by
  unfold isL
  rw [Bool.and_eq_true, decide_eq_true_eq, decide_eq_true_eq]
theorem isD_iff {v : Nat} : isD v = true ↔ 48 ≤ v ∧ v ≤ 57 := by
  unfold isD
  rw [Bool.and_eq_true, decide_eq_true_eq, decide_eq_true_eq]
theorem isA_iff {v : Nat} : isA v = true ↔ (97 ≤ v ∧ v ≤ 122) ∨ (48 ≤ v ∧ v ≤ 57) := by
  unfold isA
  rw [Bool.or_eq_true, isL_iff, isD_iff]
theorem f32_w : ∀ k, (∀ j, j < k → isL (t (p + j)) = true) → f32 t p k = Int64.ofNat (p32 (wrd t p k)) := by
  intro k
  induction k with
  | zero => intro _; rfl
  | succ k ih =>
    intro h
    rw [f32, if_pos (h k (by omega)), ih (fun j hj => h j (by omega)), wrd_succ, p32_B, p32_B, pB_snoc, Int64.ofNat_add, Int64.ofNat_mul]
    rfl
theorem f27_w : ∀ k, k ≤ 7 → (∀ j, j < k → isL (t (p + j)) = true) → f27 t p k = Int64.ofNat (p27 (wrd t p k)) := by
  intro k
  induction k with
  | zero => intro _ _; rfl
  | succ k ih =>
    intro hk h
    have h1 := isL_iff.mp (h k (by omega))
    rw [f27, if_pos (by omega), ih (by omega) (fun j hj => h j (by omega)), wrd_succ, p27_B, p27_B, pB_snoc]
    have e1 : (27 : Int64) * Int64.ofNat (pB 27 (wrd t p k)) + Int64.ofNat (t (p + k)) = Int64.ofNat (27 * pB 27 (wrd t p k) + t (p + k)) := by
      rw [Int64.ofNat_add, Int64.ofNat_mul]
      rfl
    have e2 : (96 : Int64) = Int64.ofNat 96 := rfl
    rw [e1, e2, ← Int64.ofNat_sub _ _ (by omega)]
    congr 1
    omega
theorem fM_N : ∀ k, k ≤ 3 → (∀ j, j < k → isD (t (p + j)) = true) → fM t p k = fN t p k ∧ ∃ v, v < 10 ^ k ∧ fN t p k = i3 v := by
  intro k
  induction k with
  | zero => intro _ _; exact ⟨rfl, 0, by decide, rfl⟩
  | succ k ih =>
    intro hk h
    have h1 := isD_iff.mp (h k (by omega))
    have h2 : ¬ isL (t (p + k)) = true := by rw [isL_iff]; omega
    obtain ⟨i1, v, i2, i3'⟩ := ih (by omega) (fun j hj => h j (by omega))
    rw [fM, fN, if_pos (by omega), if_neg h2, i1, i3']
    have e1 : (10 : Int32) * i3 v + i3 (t (p + k)) - 48 = i3 (v * 10 + (t (p + k) - 48)) := by
      rw [i3_Lmul, i3_add, i3_subL (by omega)]
      congr 1
      omega
    have e2 : i3 v * 10 + i3 (t (p + k) - 48) = i3 (v * 10 + (t (p + k) - 48)) := by rw [i3_mulL, i3_add]
    rw [e1, e2]
    refine ⟨rfl, v * 10 + (t (p + k) - 48), ?_, rfl⟩
    rw [Nat.pow_succ]
    omega
theorem wrd_ok {k : Nat} (h1 : 1 ≤ k) (h7 : k ≤ 7) (h : ∀ j, j < k → isL (t (p + j)) = true) : wok (wrd t p k) := by
  refine ⟨by unfold wrd; simp; omega, by unfold wrd; simp; omega, fun l hl => ?_⟩
  unfold wrd at hl
  obtain ⟨j, hj, rfl⟩ := List.mem_map.mp hl
  have := isL_iff.mp (h j (List.mem_range.mp hj))
  omega
theorem cnt_0 {P : Nat → Bool} : ∀ {k : Nat}, cnt P k = 0 → ∀ j, j < k → P j = false := by
  intro k
  induction k with
  | zero => intro _ j hj; omega
  | succ k ih =>
    intro h j hj
    rw [cnt_succ] at h
    by_cases e : j = k
    · subst e
      cases hb : P j with
      | false => rfl
      | true => rw [hb] at h; simp at h
    · exact ih (by omega) j (by omega)
theorem cnt_z {P : Nat → Bool} : ∀ {k : Nat}, (∀ j, j < k → P j = false) → cnt P k = 0 := by
  intro k
  induction k with
  | zero => intro _; rfl
  | succ k ih =>
    intro h
    rw [cnt_succ, ih (fun j hj => h j (by omega)), h k (by omega)]
    rfl
theorem nl_nd (t : Nat → Nat) (p : Nat) : ∀ k, nl t p k + nd t p k = k := by
  intro k
  induction k with
  | zero => rfl
  | succ k ih =>
    unfold nl nd at ih ⊢
    rw [cnt_succ, cnt_succ]
    cases isL (t (p + k)) <;> simp <;> omega
theorem i32_64 {v : Nat} (h : v < 2147483648) : Int32.toInt64 (i3 v) = Int64.ofNat v := by
  apply Int64.toInt_inj.mp
  rw [Int32.toInt_toInt64, i3_toInt h, Int64.toInt_ofNat_of_lt (by omega)]
end TOK
