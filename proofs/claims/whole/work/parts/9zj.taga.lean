/-! ===== tags: words and numbers are written ===== -/
section TAGA
variable {c c' d d' : mB}
def wrl (A : Int32 → mB → Option mB) : List Int32 → mB → Option mB
  | [], m => some m
  | x :: r, m => Option.bind (A x m) (fun m1 => wrl A r m1)
theorem wrl_app (A : Int32 → mB → Option mB) : ∀ (xs ys : List Int32) (m : mB), wrl A (xs ++ ys) m = Option.bind (wrl A xs m) (fun m1 => wrl A ys m1) := by
  intro xs ys
  induction xs with
  | nil => intro m; rfl
  | cons x r ih =>
    intro m
    show Option.bind (A x m) (fun m1 => wrl A (r ++ ys) m1) = Option.bind (Option.bind (A x m) (fun m1 => wrl A r m1)) _
    cases A x m with
    | none => rfl
    | some m1 => exact ih m1
theorem lgn (x y : Int64) : lg_cmp x y < 0 ↔ x < y := by
  unfold lg_cmp
  by_cases h1 : x > y
  · rw [if_pos h1]
    exact ⟨fun q => absurd q (by decide), fun q => absurd (Int64.lt_trans q h1) Int64.lt_irrefl⟩
  · rw [if_neg h1]
    by_cases h2 : x = y
    · rw [if_pos h2]
      exact ⟨fun q => absurd q (by decide), fun q => absurd (h2 ▸ q) Int64.lt_irrefl⟩
    · rw [if_neg h2]
      exact ⟨fun _ => Int64.lt_of_le_of_ne (Int64.not_lt.mp h1) h2, fun _ => by decide⟩
theorem l3_toInt {a : Nat} (h : a < 2 ^ 62) : (Int64.ofNat a).toInt = a := Int64.toInt_ofNat_of_lt (by omega)
theorem l3_div {a : Nat} (h : a < 2 ^ 62) : Int64.ofNat a / 27 = Int64.ofNat (a / 27) := by
  apply Int64.toInt_inj.mp
  rw [Int64.toInt_div_of_ne_right _ _ (by decide), l3_toInt h, l3_toInt (by omega), show (27 : Int64).toInt = ((27 : Nat) : Int) from rfl]
  exact (Int.ofNat_tdiv a 27).symm
theorem l3_lt {a : Nat} (h : a < 2 ^ 62) : Int64.ofNat a < 27 ↔ a < 27 := by
  rw [Int64.lt_iff_toInt_lt, l3_toInt h, show (27 : Int64).toInt = ((27 : Nat) : Int) from rfl]
  omega
theorem l3_dig27 (a l : Nat) : Int64.toInt32 (Int64.ofNat (a * 27 + l) - Int64.ofNat a * 27) = i3 l := by
  rw [Nat.add_comm, Int64.ofNat_add, Int64.ofNat_mul, show Int64.ofNat 27 = 27 from rfl, Int64.add_sub_cancel]
  exact Int64.toInt32_ofNat'
theorem l3_shr {v s : Nat} (hv : v < 2 ^ 62) (hs : s < 64) (he : (Int64.ofNat s).toBitVec.smod 64 = BitVec.ofNat 64 s) : Int64.ofNat v >>> Int64.ofNat s = Int64.ofNat (v / 2 ^ s) := by
  apply Int64.toBitVec_inj.mp
  rw [Int64.toBitVec_shiftRight, he]
  show (BitVec.ofNat 64 v).sshiftRight (BitVec.ofNat 64 s).toNat = BitVec.ofNat 64 (v / 2 ^ s)
  rw [BitVec.sshiftRight_eq_of_msb_false (BitVec.msb_eq_false_iff_two_mul_lt.mpr (by rw [BitVec.toNat_ofNat, Nat.mod_eq_of_lt (by omega)]; omega))]
  apply BitVec.eq_of_toNat_eq
  have hd : v / 2 ^ s ≤ v := Nat.div_le_self _ _
  rw [BitVec.toNat_ushiftRight, BitVec.toNat_ofNat, BitVec.toNat_ofNat, BitVec.toNat_ofNat, Nat.mod_eq_of_lt (by omega), Nat.mod_eq_of_lt (show s < 2 ^ 64 by omega), Nat.mod_eq_of_lt (by omega), Nat.shiftRight_eq_div_pow]
theorem l3_and {v : Nat} (hv : v < 2 ^ 62) : Int64.ofNat v &&& 31 = Int64.ofNat (v % 32) := by
  apply Int64.toBitVec_inj.mp
  rw [Int64.toBitVec_and]
  apply BitVec.eq_of_toNat_eq
  rw [BitVec.toNat_and]
  show (BitVec.ofNat 64 v).toNat &&& 31 = (BitVec.ofNat 64 (v % 32)).toNat
  rw [BitVec.toNat_ofNat, BitVec.toNat_ofNat, Nat.mod_eq_of_lt (by omega), Nat.mod_eq_of_lt (show v % 32 < 2 ^ 64 by omega)]
  exact Nat.and_two_pow_sub_one_eq_mod v 5
theorem l3_dig32 {v k : Nat} (hv : v < 2 ^ 62) (hk : k ≤ 6) : Int64.toInt32 ((Int64.ofNat v >>> (Int32.toInt64 (i3 (5 * k)) &&& 63)) &&& 31) = i3 (v / 32 ^ k % 32) := by
  have e1 : ∀ k, k ≤ 6 → Int32.toInt64 (i3 (5 * k)) &&& 63 = Int64.ofNat (5 * k) := by decide
  have e2 : ∀ k, k ≤ 6 → (Int64.ofNat (5 * k)).toBitVec.smod 64 = BitVec.ofNat 64 (5 * k) := by decide
  have hd : v / 2 ^ (5 * k) ≤ v := Nat.div_le_self _ _
  rw [e1 k hk, l3_shr hv (by omega) (e2 k hk), l3_and (by omega), Nat.pow_mul]
  exact Int64.toInt32_ofNat'
theorem M_writeWord : ∀ (D : Nat) (w : List Nat), w.length ≤ D → wok w → ∀ m, FX12_writeWord D 222 (Int64.ofNat (p27 w)) m = wrl (FX12_write 222) (w.map (fun l => i3 (96 + l))) m := by
  intro D
  induction D with
  | zero => intro w h1 h2; have := h2.1; omega
  | succ D ih =>
    intro w h1 h2 m
    have hlt := (wok_lt h2).2
    rcases List.eq_nil_or_concat w with q | ⟨v, l, q⟩
    · rw [q] at h2; exact absurd h2.1 (by simp)
    · rw [List.concat_eq_append] at q
      subst q
      have hl := h2.2.2 l (by simp)
      have hp : p27 (v ++ [l]) = p27 v * 27 + l := pB_snoc 27 v l
      rw [hp] at hlt ⊢
      have h27 : (p27 v * 27 + l) / 27 = p27 v := by omega
      rw [FX12_writeWord]
      unfold FX12_writeWord_B
      rw [mx_letI, l3_div hlt, h27, l3_dig27, i3_Ladd, List.map_append, wrl_app]
      by_cases hv : v = []
      · subst hv
        rw [if_pos (by rw [lgn, l3_lt hlt]; show 0 * 27 + l < 27; omega)]
        rfl
      · have hv1 : 1 ≤ v.length := by
          rcases v with _ | ⟨x, r⟩
          · exact absurd rfl hv
          · simp
        have hw : wok v := ⟨hv1, by have := h2.2.1; simp at this; omega, fun x hx => h2.2.2 x (by simp [hx])⟩
        have hpos : 1 ≤ p27 v := by
          rcases List.eq_nil_or_concat v with q | ⟨u, x, q⟩
          · exact absurd q hv
          · rw [List.concat_eq_append] at q
            subst q
            rw [show p27 (u ++ [x]) = p27 u * 27 + x from pB_snoc 27 u x]
            have := hw.2.2 x (by simp)
            omega
        rw [if_neg (by rw [lgn, l3_lt hlt]; omega), ih v (by simp at h1; omega) hw m]
        rfl
theorem pB_app (B : Nat) : ∀ (v u : List Nat), pB B (u ++ v) = pB B u * B ^ v.length + pB B v := by
  have gen : ∀ (v : List Nat) (s : Nat), v.foldl (fun s l => s * B + l) s = s * B ^ v.length + v.foldl (fun s l => s * B + l) 0 := by
    intro v
    induction v with
    | nil => intro s; simp
    | cons x r ih =>
      intro s
      rw [List.foldl_cons, List.foldl_cons, ih, ih (0 * B + x), List.length_cons, Nat.pow_succ, Nat.add_mul, Nat.zero_mul, Nat.zero_add, Nat.mul_assoc, Nat.mul_comm B, Nat.add_assoc]
  intro v u
  unfold pB
  rw [List.foldl_append, gen]
theorem i3_m5 (k : Nat) : i3 (5 * (k + 1)) + -5 = i3 (5 * k) := by
  rw [show 5 * (k + 1) = 5 * k + 5 by omega, ← i3_add, Int32.add_assoc, show i3 5 + -5 = 0 by decide, Int32.add_zero]
theorem C_addL (r : Nat) {w : List Nat} (hw : wok w) : ∀ (v u : List Nat), u ++ v = w → ∀ (f : Nat), v.length < f → ∀ m, FX7_addName_L3 r (Int64.ofNat (p32 w)) f (i3 (5 * v.length) + -5) m = wrl (FX7_add r) (v.map (fun l => i3 (96 + l))) m := by
  intro v
  induction v with
  | nil =>
    intro u _ f hf m
    obtain ⟨f, rfl⟩ : ∃ g, f = g + 1 := ⟨f - 1, by omega⟩
    rw [FX7_addName_L3, if_pos (show i3 (5 * ([] : List Nat).length) + -5 < 0 by decide)]
    rfl
  | cons l v ih =>
    intro u hu f hf m
    obtain ⟨f, rfl⟩ : ∃ g, f = g + 1 := ⟨f - 1, by omega⟩
    have hl := hw.2.2 l (by rw [← hu]; simp)
    have hlen : v.length ≤ 6 := by
      have := hw.2.1
      rw [← hu] at this
      simp at this
      omega
    have hv : p32 v < 32 ^ v.length := pB_lt v (fun x hx => by have := (hw.2.2 x (by rw [← hu]; simp [hx])).2; omega)
    have hd : p32 w / 32 ^ v.length % 32 = l := by
      have e1 : p32 w = p32 (u ++ [l]) * 32 ^ v.length + p32 v := by
        rw [← hu, show u ++ l :: v = (u ++ [l]) ++ v by simp]
        exact pB_app 32 v (u ++ [l])
      rw [e1, Nat.mul_comm, Nat.mul_add_div (Nat.pow_pos (by omega)), Nat.div_eq_of_lt hv, Nat.add_zero, show p32 (u ++ [l]) = p32 u * 32 + l from pB_snoc 32 u l]
      omega
    rw [List.length_cons, i3_m5, FX7_addName_L3, if_neg (i3_ge0 (by omega)), l3_dig32 (wok_lt hw).1 hlen, hd, mx_letI, if_neg (by show ¬ i3 l = i3 0; rw [i3_eq (by omega) (by omega)]; omega)]
    have ec : (97 : Int32) + i3 l - 1 = i3 (96 + l) := by
      rw [i3_Ladd, show 97 + l = (96 + l) + 1 by omega, i3_m1]
    rw [ec]
    show Option.bind (FX7_add r (i3 (96 + l)) m) _ = Option.bind (FX7_add r (i3 (96 + l)) m) _
    congr 1
    funext m1
    rw [mx_letI]
    exact ih (u ++ [l]) (by rw [← hu]; simp) f (by simp at hf; omega) m1
theorem C_addZ (r : Nat) {w : List Nat} (hw : wok w) : ∀ (j f : Nat) (m : mB), w.length + j ≤ 7 → FX7_addName_L3 r (Int64.ofNat (p32 w)) (f + j) (i3 (5 * (w.length + j)) + -5) m = FX7_addName_L3 r (Int64.ofNat (p32 w)) f (i3 (5 * w.length) + -5) m := by
  intro j
  induction j with
  | zero => intro f m _; rfl
  | succ j ih =>
    intro f m hj
    have hb : p32 w < 32 ^ (w.length + j) := Nat.lt_of_lt_of_le (pB_lt (B := 32) w (fun x hx => by have := (hw.2.2 x hx).2; omega)) (Nat.pow_le_pow_right (by omega) (by omega))
    rw [show w.length + (j + 1) = (w.length + j) + 1 by omega, i3_m5, show f + (j + 1) = (f + j) + 1 by omega, FX7_addName_L3, if_neg (i3_ge0 (by omega)), l3_dig32 (wok_lt hw).1 (by omega), Nat.div_eq_of_lt hb, mx_letI, if_pos (show i3 (0 % 32) = 0 from rfl), mx_letI]
    exact ih f m (by omega)
theorem C_addName (r : Nat) {w : List Nat} (hw : wok w) (m : mB) : FX7_addName r (Int64.ofNat (p32 w)) m = wrl (FX7_add r) (w.map (fun l => i3 (96 + l))) m := by
  unfold FX7_addName
  have h1 := C_addZ r hw (7 - w.length) (mx_FU - (7 - w.length)) m (by have := hw.2.1; omega)
  have hF : 100 < mx_FU := FU_lt (by omega)
  have hw7 := hw.2.1
  rw [show mx_FU - (7 - w.length) + (7 - w.length) = mx_FU by omega, show w.length + (7 - w.length) = 7 by omega, show i3 (5 * 7) + -5 = 30 by decide, C_addL r hw w [] rfl _ (by omega) m] at h1
  rw [h1]
  cases wrl (FX7_add r) (w.map (fun l => i3 (96 + l))) m <;> rfl
end TAGA
