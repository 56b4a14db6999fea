/-! ===== numbers, bits, what an Option gives, loops ===== -/
def hw {α : Type} (x : Option α) (Q : α → Prop) : Prop := ∃ r, x = some r ∧ Q r
theorem hw_some {α : Type} {r : α} {Q : α → Prop} (h : Q r) : hw (some r) Q := ⟨r, rfl, h⟩
theorem hw_of {α : Type} {x : Option α} {r : α} {Q : α → Prop} (e : x = some r) (h : Q r) : hw x Q := ⟨r, e, h⟩
theorem hw_bind {α β : Type} {x : Option α} {f : α → Option β} {Q : β → Prop} (h : hw x (fun r => hw (f r) Q)) : hw (Option.bind x f) Q := by
  obtain ⟨r, e, h⟩ := h
  rw [e]
  exact h
theorem hw_bindE {α β : Type} {x : Option α} {f : α → Option β} {Q : β → Prop} {r : α} (e : x = some r) (h : hw (f r) Q) : hw (Option.bind x f) Q := by
  rw [e]
  exact h
theorem hw_mono {α : Type} {x : Option α} {P Q : α → Prop} (h : hw x P) (hp : ∀ r, P r → Q r) : hw x Q := by
  obtain ⟨r, e, h⟩ := h
  exact ⟨r, e, hp r h⟩
theorem hw_let {α β : Type} {x : α} {f : α → Option β} {Q : β → Prop} (h : hw (f x) Q) : hw (mx_let x f) Q := h
theorem hw_chk {β : Type} {b : Bool} {k : Option β} {Q : β → Prop} (hb : b = true) (h : hw k Q) : hw (mx_chk b k) Q := by
  unfold mx_chk
  rw [if_pos hb]
  exact h
theorem hw_ite {β : Type} {c : Prop} [Decidable c] {x y : Option β} {Q : β → Prop} (h1 : c → hw x Q) (h2 : ¬ c → hw y Q) : hw (if c then x else y) Q := by
  by_cases h : c
  · rw [if_pos h]; exact h1 h
  · rw [if_neg h]; exact h2 h
theorem hw_eq {α : Type} {x : Option α} {v : α} : hw x (fun r => r = v) ↔ x = some v := by
  constructor
  · rintro ⟨r, e, rfl⟩; exact e
  · intro e; exact ⟨v, e, rfl⟩
theorem mx_chkT {β : Type} (k : Option β) : mx_chk true k = k := rfl
theorem mx_chkI {β : Type} {b : Bool} (k : Option β) (h : b = true) : mx_chk b k = k := by rw [h]; rfl
theorem mx_letI {α β : Type} (x : α) (f : α → β) : mx_let x f = f x := rfl
/-! numbers -/
def i3 (n : Nat) : Int32 := Int32.ofNat n
theorem i3_lit (n : Nat) : (OfNat.ofNat n : Int32) = i3 (OfNat.ofNat n) := rfl
theorem i3_zero : (0 : Int32) = i3 0 := rfl
theorem i3_one : (1 : Int32) = i3 1 := rfl
theorem i3_add (a b : Nat) : i3 a + i3 b = i3 (a + b) := (Int32.ofNat_add a b).symm
theorem i3_mul (a b : Nat) : i3 a * i3 b = i3 (a * b) := (Int32.ofNat_mul a b).symm
theorem i3_succ (a : Nat) : i3 a + 1 = i3 (a + 1) := i3_add a 1
theorem i3_addL (a n : Nat) : i3 a + (no_index (OfNat.ofNat n) : Int32) = i3 (a + OfNat.ofNat n) := i3_add a n
theorem i3_Ladd (a n : Nat) : (no_index (OfNat.ofNat n) : Int32) + i3 a = i3 (OfNat.ofNat n + a) := i3_add n a
theorem i3_mulL (a n : Nat) : i3 a * (no_index (OfNat.ofNat n) : Int32) = i3 (a * OfNat.ofNat n) := i3_mul a n
theorem i3_Lmul (a n : Nat) : (no_index (OfNat.ofNat n) : Int32) * i3 a = i3 (OfNat.ofNat n * a) := i3_mul n a
theorem i3_sub {a b : Nat} (h : b ≤ a) : i3 a - i3 b = i3 (a - b) := (Int32.ofNat_sub a b h).symm
theorem i3_subL {a n : Nat} (h : OfNat.ofNat n ≤ a) : i3 a - (no_index (OfNat.ofNat n) : Int32) = i3 (a - OfNat.ofNat n) := i3_sub h
theorem i3_toNat {n : Nat} (h : n < 2147483648) : (i3 n).toNatClampNeg = n := Int32.toNatClampNeg_ofNat_of_lt h
theorem i3_toInt {n : Nat} (h : n < 2147483648) : (i3 n).toInt = n := Int32.toInt_ofNat_of_lt h
theorem i3_le {a b : Nat} (ha : a < 2147483648) (hb : b < 2147483648) : i3 a ≤ i3 b ↔ a ≤ b := Int32.ofNat_le_iff_le ha hb
theorem i3_lt {a b : Nat} (ha : a < 2147483648) (hb : b < 2147483648) : i3 a < i3 b ↔ a < b := Int32.ofNat_lt_iff_lt ha hb
theorem i3_leL {a n : Nat} (ha : a < 2147483648) (hn : OfNat.ofNat n < 2147483648) : i3 a ≤ (no_index (OfNat.ofNat n) : Int32) ↔ a ≤ OfNat.ofNat n := i3_le ha hn
theorem i3_Lle {a n : Nat} (ha : a < 2147483648) (hn : OfNat.ofNat n < 2147483648) : (no_index (OfNat.ofNat n) : Int32) ≤ i3 a ↔ OfNat.ofNat n ≤ a := i3_le hn ha
theorem i3_ltL {a n : Nat} (ha : a < 2147483648) (hn : OfNat.ofNat n < 2147483648) : i3 a < (no_index (OfNat.ofNat n) : Int32) ↔ a < OfNat.ofNat n := i3_lt ha hn
theorem i3_Llt {a n : Nat} (ha : a < 2147483648) (hn : OfNat.ofNat n < 2147483648) : (no_index (OfNat.ofNat n) : Int32) < i3 a ↔ OfNat.ofNat n < a := i3_lt hn ha
theorem i3_neg {a : Nat} (ha : a < 2147483648) : (i3 a < 0) = False := by
  apply eq_false
  show ¬ i3 a < i3 0
  rw [i3_lt ha (by decide)]
  omega
theorem i3_eq {a b : Nat} (ha : a < 2147483648) (hb : b < 2147483648) : i3 a = i3 b ↔ a = b := by
  constructor
  · intro h
    have := congrArg Int32.toNatClampNeg h
    rwa [i3_toNat ha, i3_toNat hb] at this
  · rintro rfl; rfl
theorem i3_eqL {a n : Nat} (ha : a < 2147483648) (hn : OfNat.ofNat n < 2147483648) : i3 a = (no_index (OfNat.ofNat n) : Int32) ↔ a = OfNat.ofNat n := i3_eq ha hn
theorem i3_ne1 {a : Nat} (ha : a < 2147483648) : (i3 a = -1) = False := by
  apply eq_false
  intro h
  have h2 := i3_neg ha
  rw [h] at h2
  exact h2.mp (by decide)
theorem i3_of {x : Int32} (h : ¬ x < 0) : ∃ k, x = i3 k ∧ k < 2147483648 := by
  refine ⟨x.toNatClampNeg, ?_, Int32.toNatClampNeg_lt x⟩
  have h0 : (0 : Int32) ≤ x := by
    rw [Int32.le_iff_toInt_le]
    rw [Int32.lt_iff_toInt_lt] at h
    omega
  exact (Int32.ofNat_toNatClampNeg x h0).symm
theorem mx_inb_i3 {k n : Nat} (h : k < n) (hn : n < 2147483648) : mx_inb (i3 k) n = true := by
  unfold mx_inb
  apply decide_eq_true
  rintro (h1 | h1)
  · rw [i3_neg (by omega)] at h1; exact h1
  · rw [i3_toNat (by omega)] at h1; omega
theorem mx_inb_lit {k n : Nat} (h : OfNat.ofNat k < n) (hn : n < 2147483648) : mx_inb (no_index (OfNat.ofNat k)) n = true := mx_inb_i3 h hn
theorem lit_toNat {n : Nat} (h : OfNat.ofNat n < 2147483648) : Int32.toNatClampNeg (no_index (OfNat.ofNat n)) = OfNat.ofNat n := i3_toNat h
theorem mx_b01_0 : mx_b01 0 = true := by decide
theorem mx_b01_1 : mx_b01 1 = true := by decide
/-- x is a number from 0 on below n -/
theorem i3_cases (x : Int32) (n : Nat) (hn : n < 2147483648) : (∃ k, k < n ∧ x = i3 k) ∨ ((x < 0 ∨ i3 n ≤ x) ∧ ∀ k, k < n → x ≠ i3 k) := by
  by_cases h : x < 0
  · refine Or.inr ⟨Or.inl h, fun k hk e => ?_⟩
    subst e
    rw [i3_neg (by omega)] at h
    exact h
  · obtain ⟨k, rfl, hk⟩ := i3_of h
    by_cases h1 : k < n
    · exact Or.inl ⟨k, h1, rfl⟩
    · refine Or.inr ⟨Or.inr ((i3_le hn hk).mpr (by omega)), fun j hj e => ?_⟩
      rw [i3_eq hk (by omega)] at e
      omega
theorem hp_le_of {x y : Int32} (h : ¬ x < y) : y ≤ x := by
  rw [Int32.le_iff_toInt_le]
  rw [Int32.lt_iff_toInt_lt] at h
  omega
/-! bits -/
def bt (s : Int32) (k : Nat) : Bool := s.toBitVec.getLsbD k
theorem bt_or (x y : Int32) (k : Nat) : bt (x ||| y) k = (bt x k || bt y k) := BitVec.getLsbD_or
theorem bt_and (x y : Int32) (k : Nat) : bt (x &&& y) k = (bt x k && bt y k) := BitVec.getLsbD_and
theorem bt_xor (x y : Int32) (k : Nat) : bt (x ^^^ y) k = (bt x k ^^ bt y k) := BitVec.getLsbD_xor
theorem bt_m1 {k : Nat} (h : k < 32) : bt (-1) k = true := by
  revert h
  revert k
  decide
theorem bt_zero (k : Nat) : bt 0 k = false := BitVec.getLsbD_zero
theorem bt_i3 {n k : Nat} (h : k < 32) : bt (i3 n) k = n.testBit k := by
  show (BitVec.ofNat 32 n).getLsbD k = _
  rw [BitVec.getLsbD_ofNat]
  simp [h]
theorem bt_ext {x y : Int32} (h : ∀ k, k < 32 → bt x k = bt y k) : x = y := Int32.toBitVec_inj.mp (BitVec.eq_of_getLsbD_eq h)
theorem bt_pw : ∀ k, k < 32 → ∀ j, j < 32 → bt ((1 : Int32) <<< (i3 k &&& 31)) j = decide (j = k) := by decide +kernel
theorem bt_one {k j : Nat} (hk : k < 32) (hj : j < 32) : bt ((1 : Int32) <<< (i3 k &&& 31)) j = decide (j = k) := bt_pw k hk j hj
theorem bt_hi {x : Int32} {k : Nat} (h : 32 ≤ k) : bt x k = false := BitVec.getLsbD_of_ge _ _ h
theorem bt_shq : ∀ k, k < 32 → ((i3 k &&& 31).toBitVec.smod 32).toNat = k := by decide +kernel
theorem bt_sh0 (s : Int32) {k : Nat} (h : k < 32) : ((s >>> (i3 k &&& 31)) &&& 1) = if bt s k = true then 1 else 0 := by
  apply Int32.toBitVec_inj.mp
  have e : ((s >>> (i3 k &&& 31)) &&& 1).toBitVec = (s.toBitVec.sshiftRight' ((i3 k &&& 31).toBitVec.smod 32)) &&& 1#32 := rfl
  rw [e, BitVec.sshiftRight_eq', bt_shq k h, BitVec.and_one_eq_setWidth_ofBool_getLsbD, BitVec.getLsbD_sshiftRight]
  have e2 : k + 0 < 32 := by omega
  simp only [e2, if_true]
  unfold bt
  rw [Nat.add_zero]
  cases s.toBitVec.getLsbD k <;> rfl
theorem bt_sh (s : Int32) {k : Nat} (h : k < 32) : ((s >>> (i3 k &&& 31)) &&& 1 = 0) ↔ bt s k = false := by
  rw [bt_sh0 s h]
  cases bt s k <;> decide
theorem bt_sh1 (s : Int32) {k : Nat} (h : k < 32) : ((s >>> (i3 k &&& 31)) &&& 1 = 1) ↔ bt s k = true := by
  rw [bt_sh0 s h]
  cases bt s k <;> decide
theorem bt_pw0 : ∀ k, k < 32 → ¬ ((1 : Int32) <<< (i3 k &&& 31)) = 0 := by decide +kernel
/-! loops -/
theorem lp_inv {S R : Type} {L : Nat → Int32 → S → Option R} {n : Nat} (I : Nat → S → Prop) {Q : R → Prop}
    (h0 : ∀ f s, I n s → hw (L (f + 1) (i3 n) s) Q)
    (h1 : ∀ f k s, k < n → I k s → (∀ s', I (k + 1) s' → hw (L f (i3 (k + 1)) s') Q) → hw (L (f + 1) (i3 k) s) Q) :
    ∀ (k f : Nat) (s : S), k ≤ n → n - k < f → I k s → hw (L f (i3 k) s) Q := by
  have key : ∀ (j k f : Nat) (s : S), k + j = n → j < f → I k s → hw (L f (i3 k) s) Q := by
    intro j
    induction j with
    | zero =>
      intro k f s hk hf hi
      obtain ⟨f, rfl⟩ : ∃ g, f = g + 1 := ⟨f - 1, by omega⟩
      have : k = n := by omega
      subst this
      exact h0 f s hi
    | succ j ih =>
      intro k f s hk hf hi
      obtain ⟨f, rfl⟩ : ∃ g, f = g + 1 := ⟨f - 1, by omega⟩
      exact h1 f k s (by omega) hi (fun s' hs => ih (k + 1) f s' (by omega) (by omega) hs)
  intro k f s hk hf hi
  exact key (n - k) k f s (by omega) hf hi
/-- the same without a state -/
theorem lp_inv0 {R : Type} {L : Nat → Int32 → Option R} {n : Nat} (I : Nat → Prop) {Q : R → Prop}
    (h0 : ∀ f, I n → hw (L (f + 1) (i3 n)) Q)
    (h1 : ∀ f k, k < n → I k → (I (k + 1) → hw (L f (i3 (k + 1))) Q) → hw (L (f + 1) (i3 k)) Q) :
    ∀ (k f : Nat), k ≤ n → n - k < f → I k → hw (L f (i3 k)) Q := fun k f hk hf hi =>
  lp_inv (S := Unit) (L := fun f y _ => L f y) (fun k _ => I k) (fun f _ h => h0 f h) (fun f k _ hk h hs => h1 f k hk h (fun h => hs () h)) k f () hk hf hi
/-- a loop that adds up -/
def fo {S : Type} (g : Nat → S → S) : Nat → S → S
  | 0, s => s
  | k + 1, s => g k (fo g k s)
theorem lp_fo {S R : Type} {L : Nat → Int32 → S → Option R} {n : Nat} (g : Nat → S → S) (out : S → R) (s0 : S)
    (h0 : ∀ f s, L (f + 1) (i3 n) s = some (out s))
    (h1 : ∀ f k s, k < n → L (f + 1) (i3 k) s = L f (i3 (k + 1)) (g k s)) (f : Nat) (hf : n < f) : L f (i3 0) s0 = some (out (fo g n s0)) := by
  have := lp_inv (L := L) (n := n) (fun k s => s = fo g k s0) (Q := fun r => r = out (fo g n s0))
    (fun f s h => by rw [h0, h]; exact hw_some rfl)
    (fun f k s hk h hs => by rw [h1 f k s hk]; exact hs _ (by rw [h]; rfl)) 0 f s0 (by omega) (by omega) rfl
  exact hw_eq.mp this
/-- the first of a row -/
def ff (P : Nat → Bool) : Nat → Option Nat
  | 0 => none
  | n + 1 => match ff P n with
    | some i => some i
    | none => if P n then some n else none
theorem ff_some {P : Nat → Bool} : ∀ {n i : Nat}, ff P n = some i ↔ (i < n ∧ P i = true ∧ ∀ j, j < i → P j = false) := by
  intro n
  induction n with
  | zero => intro i; simp [ff]
  | succ n ih =>
    intro i
    unfold ff
    cases h : ff P n with
    | some j =>
      have hj := ih.mp h
      constructor
      · intro e
        cases e
        exact ⟨by omega, hj.2.1, hj.2.2⟩
      · rintro ⟨h1, h2, h3⟩
        rcases Nat.lt_trichotomy i j with q | q | q
        · rw [hj.2.2 i q] at h2; cases h2
        · rw [q]
        · rw [h3 j q] at hj; exact absurd hj.2.1 (by decide)
    | none =>
      have hn : ∀ i, i < n → P i = false := by
        intro i hi
        by_cases hp : ∃ i, i < n ∧ P i = true
        · exfalso
          have : ∀ k, k < n → P k = true → ∃ j, j ≤ k ∧ ff P n = some j := by
            intro k
            induction k using Nat.strongRecOn with
            | _ k ihk =>
              intro hk hp
              by_cases hq : ∃ j, j < k ∧ P j = true
              · obtain ⟨j, hj, hj2⟩ := hq
                obtain ⟨j2, h1, h2⟩ := ihk j hj (by omega) hj2
                exact ⟨j2, by omega, h2⟩
              · refine ⟨k, by omega, ih.mpr ⟨hk, hp, fun j hj => ?_⟩⟩
                cases hb : P j with
                | false => rfl
                | true => exact absurd ⟨j, hj, hb⟩ hq
          obtain ⟨k, hk, hk2⟩ := hp
          obtain ⟨j, -, e⟩ := this k hk hk2
          rw [h] at e
          cases e
        · cases hb : P i with
          | false => rfl
          | true => exact absurd ⟨i, hi, hb⟩ hp
      dsimp only
      constructor
      · intro e
        split at e
        · cases e
          rename_i hp
          exact ⟨by omega, hp, hn⟩
        · cases e
      · rintro ⟨h1, h2, h3⟩
        have : i = n := by
          rcases Nat.lt_or_ge i n with q | q
          · rw [hn i q] at h2; cases h2
          · omega
        subst this
        rw [if_pos h2]
theorem ff_none {P : Nat → Bool} {n : Nat} : ff P n = none ↔ ∀ i, i < n → P i = false := by
  constructor
  · intro h i hi
    cases hb : P i with
    | false => rfl
    | true =>
      exfalso
      have : ∀ k, k < n → P k = true → ∃ j, ff P n = some j := by
        intro k
        induction k using Nat.strongRecOn with
        | _ k ihk =>
          intro hk hp
          by_cases hq : ∃ j, j < k ∧ P j = true
          · obtain ⟨j, hj, hj2⟩ := hq
            exact ihk j hj (by omega) hj2
          · refine ⟨k, ff_some.mpr ⟨hk, hp, fun j hj => ?_⟩⟩
            cases hb : P j with
            | false => rfl
            | true => exact absurd ⟨j, hj, hb⟩ hq
      obtain ⟨j, e⟩ := this i hi hb
      rw [h] at e
      cases e
  · intro h
    cases e : ff P n with
    | none => rfl
    | some i =>
      obtain ⟨h1, h2, -⟩ := ff_some.mp e
      rw [h i h1] at h2
      cases h2
theorem lp_ff {R : Type} {L : Nat → Int32 → Option R} {n : Nat} (P : Nat → Bool) (out : Option Nat → R)
    (h0 : ∀ f, L (f + 1) (i3 n) = some (out none))
    (h1 : ∀ f k, k < n → P k = true → L (f + 1) (i3 k) = some (out (some k)))
    (h2 : ∀ f k, k < n → P k = false → L (f + 1) (i3 k) = L f (i3 (k + 1))) (f : Nat) (hf : n < f) : L f (i3 0) = some (out (ff P n)) := by
  have := lp_inv0 (L := L) (n := n) (fun k => ∀ j, j < k → P j = false) (Q := fun r => r = out (ff P n))
    (fun f h => by rw [h0, ff_none.mpr h]; exact hw_some rfl)
    (fun f k hk h hs => by
      cases hp : P k with
      | true =>
        rw [h1 f k hk hp, ff_some.mpr ⟨hk, hp, h⟩]
        exact hw_some rfl
      | false =>
        rw [h2 f k hk hp]
        exact hs (fun j hj => by
          rcases Nat.lt_or_ge j k with q | q
          · exact h j q
          · have : j = k := by omega
            rw [this]; exact hp)) 0 f (by omega) (by omega) (fun j hj => by omega)
  exact hw_eq.mp this
theorem ob_some {α β : Type} (r : α) (f : α → Option β) : Option.bind (some r) f = f r := rfl
theorem se_inl {α β γ : Type} (f : α → γ) (g : β → γ) (x : α) : Sum.elim f g (.inl x) = f x := rfl
theorem se_inr {α β γ : Type} (f : α → γ) (g : β → γ) (x : β) : Sum.elim f g (.inr x) = g x := rfl
theorem e10 : ((1 : Int32) = 0) = False := by decide
theorem e01 : ((0 : Int32) = 1) = False := by decide
theorem e00 : ((0 : Int32) = 0) = True := by decide
theorem e11 : ((1 : Int32) = 1) = True := by decide
theorem em1 : ((-1 : Int32) = -1) = True := by decide
theorem em1lt : ((-1 : Int32) < 0) = True := by decide
def b2 (b : Bool) : Int32 := if b = true then 1 else 0
theorem b2_0 (b : Bool) : (b2 b = 0) = (b = false) := by cases b <;> decide
theorem b2_1 (b : Bool) : (b2 b = 1) = (b = true) := by cases b <;> decide
theorem b2_01 (b : Bool) : mx_b01 (b2 b) = true := by cases b <;> decide
theorem b2_ite (b : Bool) : (if b = true then (1 : Int32) else 0) = b2 b := rfl
theorem sm_ite {c : Prop} [Decidable c] {α : Type} (x y : α) : (if c then some x else some y) = some (if c then x else y) := by split <;> rfl
def oi (x : Option Nat) : Int32 := match x with
  | some l => i3 l
  | none => -1
theorem hasN {x : Int32} {n : Nat} (hx : ∀ k, k < n → x ≠ i3 k) (hn : n < 2147483648) : x < 0 ∨ ∃ k, x = i3 k ∧ n ≤ k ∧ k < 2147483648 := by
  by_cases h : x < 0
  · exact Or.inl h
  · obtain ⟨k, rfl, hk⟩ := i3_of h
    refine Or.inr ⟨k, rfl, ?_, hk⟩
    rcases Nat.lt_or_ge k n with q | q
    · exact absurd rfl (hx k q)
    · exact q
