/-! ===== deeds that can be undone ===== -/
section RING
variable {c c' d d' : mB} {N N' : Rw} {nm : Nat → Int64}
theorem NR_congr {a : Nat} (h : NR c a N nm) (hh : ∀ x, x < 63 → N' x = N x) (h2 : ∀ x, 125 ≤ x → x < 190 → N' x = N x) : NR c a N' nm := ⟨Nt_congr h.1 hh h2, fun p hp => h.2 p (by rw [← hd_P hh]; exact hp)⟩
/-- the j-th row that is kept -/
def kr (d : mB) (j : Nat) : Rw := cb (d.1 224) (fun x => d.1 227 (65 * j + x))
def HK (c d : mB) (a k : Nat) : Prop := a < 9 ∧ k ≤ 8 ∧ c.1 68 1 = i3 a ∧ c.1 68 2 = i3 k ∧ ∀ j, j < k → NR c (70 + 11 * ((a + 9 - k + j) % 9)) (kr d j) (d.2 230)
def HI (c d : mB) : Prop := ∃ a k, HK c d a k ∧ d.1 222 25 = i3 k
theorem kr_lo (d : mB) (j : Nat) {x : Nat} (h : x < 125) : kr d j x = d.1 224 x := by unfold kr cb; rw [if_neg (by omega)]
theorem kr_hi (d : mB) (j : Nat) {x : Nat} (h : 125 ≤ x) (h2 : x < 190) : kr d j x = d.1 227 (65 * j + (x - 125)) := by unfold kr cb; rw [if_pos ⟨h, h2⟩]
theorem HK_mv {a k : Nat} (h : HK c d a k) (hc : ∀ b, 68 ≤ b → b ≤ 168 → c'.1 b = c.1 b ∧ c'.2 b = c.2 b) (h24 : ∀ x, x < 125 → d'.1 224 x = d.1 224 x) (h27 : d'.1 227 = d.1 227) (hn : d'.2 230 = d.2 230) : HK c' d' a k := by
  obtain ⟨h1, h2, h3, h4, h5⟩ := h
  refine ⟨h1, h2, by rw [(hc 68 (by omega) (by omega)).1]; exact h3, by rw [(hc 68 (by omega) (by omega)).1]; exact h4, fun j hj => ?_⟩
  rw [hn]
  have hm := Nat.mod_lt (a + 9 - k + j) (show 0 < 9 by omega)
  refine NR_congr (NR_mem (h5 j hj) (fun b q1 q2 => (hc b (by omega) (by omega)).1) (hc _ (by omega) (by omega)).2) (fun x hx => ?_) (fun x q1 q2 => ?_)
  · rw [kr_lo _ _ (by omega), kr_lo _ _ (by omega), h24 x (by omega)]
  · rw [kr_hi _ _ q1 q2, kr_hi _ _ q1 q2, h27]
theorem fmod9 {a : Nat} (ha : a < 9) (m : mB) : FJ9_floorMod_7cf53 (i3 a) 9 m = some (i3 a) := by
  rcases (by omega : a = 0 ∨ a = 1 ∨ a = 2 ∨ a = 3 ∨ a = 4 ∨ a = 5 ∨ a = 6 ∨ a = 7 ∨ a = 8) with e | e | e | e | e | e | e | e | e <;> subst e <;> rfl
theorem fmod9' {a : Nat} (ha : a < 9) (m : mB) : FJ9_floorMod_7cf53 (i3 a - 1) 9 m = some (i3 ((a + 8) % 9)) := by
  rcases (by omega : a = 0 ∨ a = 1 ∨ a = 2 ∨ a = 3 ∨ a = 4 ∨ a = 5 ∨ a = 6 ∨ a = 7 ∨ a = 8) with e | e | e | e | e | e | e | e | e <;> subst e <;> rfl
theorem NR_other {a b : Nat} (h : NR c b N nm) (z : mx_out (WSX4_copyFrom a 4) c c') (hab : b + 11 ≤ a ∨ a + 11 ≤ b) : NR c' b N nm := NR_mem h (fun x q1 q2 => z.cell x (fun j => by unfold WSX4_copyFrom; omega)) (z.cellL _ (fun j => by unfold WSX4_copyFrom; omega))
theorem C_mark {a k : Nat} (h : HK c d a k) (hn : NR c 4 N nm) : ∃ c1, FX3_mark 68 4 c = some c1 ∧ HK c1 d a k ∧ NR c1 (70 + 11 * a) N nm ∧ NR c1 4 N nm ∧ mx_out (fun b _ => 70 ≤ b ∧ b ≤ 168) c c1 := by
  obtain ⟨h1, h2, h3, h4, h5⟩ := h
  obtain ⟨c1, e1, n1, l1⟩ := C_copyFrom (a := 70 + 11 * a) hn.1 (by omega)
  have z := ZX4_copyFrom e1
  refine ⟨c1, ?_, ⟨h1, h2, ?_, ?_, fun j hj => ?_⟩, ⟨n1, fun p hp => ?_⟩, ?_, ?_⟩
  · unfold FX3_mark
    rw [h3, fmod9 h1, ob_some, mx_inb_i3 (by omega) (by omega), mx_chkT, i3_toNat (by omega)]
    show Option.bind (FX4_copyFrom (70 + 11 * a) 4 c) _ = _
    rw [e1]
    rfl
  · rw [z.fld 68 1 (by unfold WSX4_copyFrom; omega)]; exact h3
  · rw [z.fld 68 2 (by unfold WSX4_copyFrom; omega)]; exact h4
  · exact NR_other (h5 j hj) z (by omega)
  · rw [l1 p (by have := hn.1.1.1.2; omega)]; exact hn.2 p hp
  · exact NR_other hn z (by omega)
  · exact z.sub (fun b j q => by unfold WSX4_copyFrom at q; omega)
theorem C_keep {a k : Nat} (h : HK c d a k) (hn : NR c (70 + 11 * a) N (d.2 230)) (hN : ∀ x, x < 63 ∨ (125 ≤ x ∧ x < 190) → N x = d.1 224 x)
    (s1 : ∀ j, j < k → (k = 8 → j < 7) → ∀ x, x < 65 → d'.1 227 (65 * j + x) = d.1 227 (65 * (if k = 8 then j + 1 else j) + x)) (s2 : ∀ x, x < 65 → d'.1 227 (65 * (if k = 8 then 7 else k) + x) = d.1 224 (125 + x))
    (h24 : ∀ x, x < 125 → d'.1 224 x = d.1 224 x) (h230 : d'.2 230 = d.2 230) : ∃ c1, FX3_keep 68 c = some c1 ∧ HK c1 d' ((a + 1) % 9) (if k = 8 then 8 else k + 1) ∧ mx_out (fun b j => b = 68 ∧ (j = 1 ∨ j = 2)) c c1 := by
  obtain ⟨h1, h2, h3, h4, h5⟩ := h
  have e1 : i3 a + 1 - (i3 a + 1) / 9 * 9 = i3 ((a + 1) % 9) := by
    rcases (by omega : a = 0 ∨ a = 1 ∨ a = 2 ∨ a = 3 ∨ a = 4 ∨ a = 5 ∨ a = 6 ∨ a = 7 ∨ a = 8) with e | e | e | e | e | e | e | e | e <;> subst e <;> rfl
  have e2 : FJ9_min_7cf53 8 (i3 k + 1) (mx_up c.1 68 1 (i3 ((a + 1) % 9)), c.2) = some (i3 (if k = 8 then 8 else k + 1)) := by
    rcases (by omega : k = 0 ∨ k = 1 ∨ k = 2 ∨ k = 3 ∨ k = 4 ∨ k = 5 ∨ k = 6 ∨ k = 7 ∨ k = 8) with e | e | e | e | e | e | e | e | e <;> subst e <;> rfl
  have z : mx_out (fun b j => b = 68 ∧ (j = 1 ∨ j = 2)) c (mx_up (mx_up c.1 68 1 (i3 ((a + 1) % 9))) 68 2 (i3 (if k = 8 then 8 else k + 1)), c.2) := mx_out_up (mx_out_up mx_out.rf rfl ⟨rfl, Or.inl rfl⟩) rfl ⟨rfl, Or.inr rfl⟩
  refine ⟨_, ?_, ⟨Nat.mod_lt _ (by omega), ?_, ?_, ?_, fun j hj => ?_⟩, z⟩
  · unfold FX3_keep
    have f2 : mx_up c.1 68 1 (i3 ((a + 1) % 9)) 68 2 = i3 k := by rw [up_at, if_neg (by omega)]; exact h4
    rw [h3, e1, mx_letI]
    show Option.bind (FJ9_min_7cf53 8 (mx_up c.1 68 1 (i3 ((a + 1) % 9)) 68 2 + 1) (mx_up c.1 68 1 (i3 ((a + 1) % 9)), c.2)) _ = _
    rw [f2, e2, ob_some]
    rfl
  · by_cases q : k = 8
    · rw [if_pos q]; omega
    · rw [if_neg q]; omega
  · show mx_up (mx_up c.1 68 1 (i3 ((a + 1) % 9))) 68 2 (i3 (if k = 8 then 8 else k + 1)) 68 1 = _
    rw [up_at, if_neg (by omega), up_at, if_pos rfl]
  · exact mx_up_self (mx_up c.1 68 1 (i3 ((a + 1) % 9))) 68 2 _
  · have mv : ∀ {b : Nat} {M : Rw}, 70 ≤ b → NR c b M (d.2 230) → NR (mx_up (mx_up c.1 68 1 (i3 ((a + 1) % 9))) 68 2 (i3 (if k = 8 then 8 else k + 1)), c.2) b M (d'.2 230) := fun {b M} hb q => by
      rw [h230]
      exact NR_mem q (fun x q1 q2 => z.cell x (fun j => by omega)) (z.cellL _ (fun j => by omega))
    by_cases q : k = 8
    · simp only [if_pos q] at hj s2 mv ⊢
      by_cases q2 : j = 7
      · rw [show ((a + 1) % 9 + 9 - 8 + j) % 9 = a by omega]
        refine NR_congr (mv (by omega) hn) (fun x hx => ?_) (fun x x1 x2 => ?_)
        · rw [kr_lo _ _ (by omega), hN x (by omega), h24 x (by omega)]
        · rw [kr_hi _ _ x1 x2, q2, s2 (x - 125) (by omega), hN x (by omega), show 125 + (x - 125) = x by omega]
      · have old := h5 (j + 1) (by omega)
        rw [show (a + 9 - k + (j + 1)) % 9 = ((a + 1) % 9 + 9 - 8 + j) % 9 by omega] at old
        refine NR_congr (mv (by omega) old) (fun x hx => ?_) (fun x x1 x2 => ?_)
        · rw [kr_lo _ _ (by omega), kr_lo _ _ (by omega), h24 x (by omega)]
        · rw [kr_hi _ _ x1 x2, kr_hi _ _ x1 x2, s1 j (by omega) (fun _ => by omega) (x - 125) (by omega), if_pos q]
    · simp only [if_neg q] at hj s2 mv ⊢
      by_cases q2 : j = k
      · rw [show ((a + 1) % 9 + 9 - (k + 1) + j) % 9 = a by omega]
        refine NR_congr (mv (by omega) hn) (fun x hx => ?_) (fun x x1 x2 => ?_)
        · rw [kr_lo _ _ (by omega), hN x (by omega), h24 x (by omega)]
        · rw [kr_hi _ _ x1 x2, q2, s2 (x - 125) (by omega), hN x (by omega), show 125 + (x - 125) = x by omega]
      · have old := h5 j (by omega)
        rw [show (a + 9 - k + j) % 9 = ((a + 1) % 9 + 9 - (k + 1) + j) % 9 by omega] at old
        refine NR_congr (mv (by omega) old) (fun x hx => ?_) (fun x x1 x2 => ?_)
        · rw [kr_lo _ _ (by omega), kr_lo _ _ (by omega), h24 x (by omega)]
        · rw [kr_hi _ _ x1 x2, kr_hi _ _ x1 x2, s1 j (by omega) (fun w => absurd w q) (x - 125) (by omega), if_neg q]
end RING
