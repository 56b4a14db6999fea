/-! ===== the start: what the constructors leave ===== -/
def mI0 : mI := fun _ _ => 0
def mJ0 : mJ := fun _ _ => 0
def mI1 : mI := mx_up (mx_up mI0 0 16 (-1)) 0 18 (-1)
def mJ1 : mJ := mx_tw 3 (mx_sl.getD 0 0) 0 0 0 mJ0
def mI2 : mI := mx_up (mx_up (mx_up (mx_up (mx_up (mx_up (mx_up (mx_up (mx_up (mx_up (mx_up (mx_up mI1 222 32 (-1)) 222 48 (-1)) 224 93 (-1)) 224 94 (-1)) 224 95 (-1)) 224 96 (-1)) 224 97 (-1)) 224 98 (-1)) 224 99 (-1)) 224 100 (-1)) 224 101 (-1)) 224 102 (-1)
theorem mI2_off {b j : Nat} (h0 : b ≠ 0) (h1 : b ≠ 222) (h2 : b ≠ 224) : mI2 b j = 0 := by simp [mI2, mI1, mI0, mx_up, h0, h1, h2]
theorem mI2_222 {j : Nat} (h1 : j ≠ 32) (h2 : j ≠ 48) : mI2 222 j = 0 := by simp [mI2, mI1, mI0, mx_up, h1, h2]
theorem mI2_224 {j : Nat} (h1 : j < 93) : mI2 224 j = 0 := by
  have : ∀ k, 93 ≤ k → j ≠ k := fun k hk => by omega
  simp [mI2, mI1, mI0, mx_up, this 93 (by omega), this 94 (by omega), this 95 (by omega), this 96 (by omega), this 97 (by omega), this 98 (by omega), this 99 (by omega), this 100 (by omega), this 101 (by omega), this 102 (by omega)]
theorem st_words : ∀ i, i < 22 → mx_tw 3 (mx_sl.getD 0 0) 0 0 0 (fun _ _ => 0) 3 i = Int64.ofNat (p32 (wd i)) := by decide +kernel
theorem mJ1_off {b j : Nat} (h : b ≠ 3) : mJ1 b j = 0 := by
  unfold mJ1
  rw [mx_tw_ne h]
  rfl
theorem R_start0 {M : mI} {J : mJ} (m1 : ∀ b j, b ≠ 0 → b ≠ 222 → b ≠ 224 → M b j = 0) (m2 : ∀ j, j ≠ 32 → j ≠ 48 → M 222 j = 0) (m3 : ∀ j, j < 93 → M 224 j = 0) (m4 : M 0 16 = -1 ∧ M 222 32 = -1 ∧ M 0 18 = -1 ∧ M 222 48 = -1) (m5 : ∀ b j, b ≠ 3 → J b j = 0) (m6 : ∀ i, i < 22 → J 3 i = Int64.ofNat (p32 (wd i))) : ∃ r, FX12_startSo 222 (M, J) = some r ∧ (∀ i, 249 ≤ i → ∀ j, r.1 i j = 0 ∧ r.2 i j = 0) ∧ RR r r := by
  obtain ⟨r, e1, h1⟩ := M_start (d := (M, J)) (R := M 224) (fun x _ => rfl)
  have z : mx_out (fun b _ => b = 224) (M, J) r := (ZX12_startSo e1).sub (fun b j q => by unfold WSX12_startSo at q; omega)
  have off : ∀ b j, b ≠ 224 → r.1 b j = M b j ∧ r.2 b j = J b j := fun b j q => z b j q
  have zr : ∀ b j, b ≠ 0 → b ≠ 222 → b ≠ 224 → r.1 b j = 0 := fun b j q1 q2 q3 => by rw [(off b j q3).1]; exact m1 b j q1 q2 q3
  have z2 : ∀ j, j ≠ 32 → j ≠ 48 → r.1 222 j = 0 := fun j q1 q2 => by rw [(off 222 j (by omega)).1]; exact m2 j q1 q2
  have n0 : r.1 224 0 = 0 := by rw [h1 0 (by omega), stN_lo _ (by omega)]; exact m3 _ (by omega)
  have n1 : r.1 224 1 = 0 := by rw [h1 1 (by omega), stN_lo _ (by omega)]; exact m3 _ (by omega)
  have n125 : r.1 224 125 = 0 := by rw [h1 125 (by omega), stN_125]; exact m3 _ (by omega)
  have n126 : r.1 224 126 = 0 := by rw [h1 126 (by omega), stN_0 _ (by omega) (by omega)]
  have n127 : r.1 224 127 = 0 := by rw [h1 127 (by omega), stN_0 _ (by omega) (by omega)]
  have n190 : r.1 224 190 = 0 := by
    rw [h1 190 (by omega)]
    unfold stN
    rw [if_neg (by omega), if_neg (by omega), if_neg (by omega), if_neg (by omega)]
  have p0 : nP (r.1 224) = 0 := by unfold nP; rw [n0]; rfl
  have l0 : nL (r.1 224) = 0 := by unfold nL; rw [n1]; rfl
  have k0 : nK (r.1 224) = 0 := by unfold nK; rw [n125]; rfl
  have vP : ∀ {Q : Nat → Prop} (p : Nat), p < nP (r.1 224) → Q p := fun p h => by rw [p0] at h; omega
  have vL : ∀ {Q : Nat → Prop} (p : Nat), p < nL (r.1 224) → Q p := fun p h => by rw [l0] at h; omega
  have vK : ∀ {Q : Nat → Prop} (p : Nat), p < nK (r.1 224) → Q p := fun p h => by rw [k0] at h; omega
  have hG : GI (r.1 224) := ⟨⟨by rw [p0, n0]; rfl, by rw [p0]; omega⟩, ⟨by rw [l0, n1]; rfl, by rw [l0]; omega⟩, fun l h => vL (Q := fun l => _) l h, fun l l' h => vL (Q := fun l => _) l h⟩
  have hS : SI (r.1 224) := ⟨⟨by rw [k0, n125]; rfl, by rw [k0]; omega⟩, fun l h => vL (Q := fun l => _) l h, fun l h => vP (Q := fun l => _) l h, fun l h => vP (Q := fun l => _) l h, fun l h => vK (Q := fun l => _) l h⟩
  have hC : CG r 4 (r.1 224) := ⟨⟨by rw [zr 4 0 (by omega) (by omega) (by omega), n0], by rw [zr 4 1 (by omega) (by omega) (by omega), n1]⟩, fun l h => vP (Q := fun l => _) l h, fun l h => vL (Q := fun l => _) l h, fun p q h => vP (Q := fun l => _) p h⟩
  have hT : CS r 4 (r.1 224) := ⟨⟨by rw [zr 4 2 (by omega) (by omega) (by omega), n125], by rw [zr 4 3 (by omega) (by omega) (by omega), n126], by rw [zr 4 4 (by omega) (by omega) (by omega), n127]⟩, fun l h => vP (Q := fun l => _) l h, fun l h => vK (Q := fun l => _) l h⟩
  have hN : NE r r := ⟨⟨hG, hS, hC, hT⟩, fun l h => vP (Q := fun l => _) l h⟩
  have hRl : ∀ b, b ≠ 0 → b ≠ 222 → b ≠ 224 → r.1 b 1 = i3 0 := fun b q1 q2 q3 => zr b 1 q1 q2 q3
  refine ⟨r, e1, fun i hi j => ⟨zr i j (by omega) (by omega) (by omega), by rw [(off i j (by omega)).2]; exact m5 _ _ (by omega)⟩, ?_, ?_, hN, ?_, ?_, ?_, ?_, ?_, ?_, ?_, ?_, ?_, ?_, ?_⟩
  · exact ⟨0, fun _ => 0, by omega, zr 1 2 (by omega) (by omega) (by omega), z2 2 (by omega) (by omega), fun j h => by omega, fun i hi => by rw [(off 3 i (by omega)).2]; exact m6 i hi⟩
  · show r.1 1 10 = r.1 222 10
    rw [zr 1 10 (by omega) (by omega) (by omega), z2 10 (by omega) (by omega)]
  · exact ⟨0, 0, ⟨by omega, by omega, zr 68 1 (by omega) (by omega) (by omega), zr 68 2 (by omega) (by omega) (by omega), fun j h => by omega⟩, z2 25 (by omega) (by omega)⟩
  · exact ⟨0, fun _ => 0, ⟨⟨hRl 41 (by omega) (by omega) (by omega), by omega, rfl, rfl, by omega⟩, fun i h => by omega⟩, z2 29 (by omega) (by omega), fun i h => by omega, rfl, fun i j h => by omega⟩
  · exact ⟨0, fun _ => 0, ⟨⟨hRl 43 (by omega) (by omega) (by omega), by omega, rfl, rfl, by omega⟩, fun i h => by omega⟩, z2 30 (by omega) (by omega), fun i h => by omega, Or.inl rfl, fun i j h => by omega⟩
  · have a1 : r.1 0 16 = -1 := by rw [(off 0 16 (by omega)).1]; exact m4.1
    have a2 : r.1 222 32 = -1 := by rw [(off 222 32 (by omega)).1]; exact m4.2.1
    exact ⟨by rw [a1, a2], fun q => absurd a2 q⟩
  · have a1 : r.1 0 18 = -1 := by rw [(off 0 18 (by omega)).1]; exact m4.2.2.1
    have a2 : r.1 222 48 = -1 := by rw [(off 222 48 (by omega)).1]; exact m4.2.2.2
    show r.1 0 18 = r.1 222 48
    rw [a1, a2]
  · exact ⟨0, ⟨hRl 66 (by omega) (by omega) (by omega), by omega, rfl, rfl, by omega⟩, z2 45 (by omega) (by omega), fun i h => by omega⟩
  · exact Or.inl (zr 45 1 (by omega) (by omega) (by omega))
  · have a2 : r.1 222 56 = 0 := z2 56 (by omega) (by omega)
    exact ⟨by rw [a2]; exact zr 169 5 (by omega) (by omega) (by omega), Or.inl a2, fun q => by rw [a2] at q; exact absurd q (by decide)⟩
  · exact Or.inl ⟨zr 174 6 (by omega) (by omega) (by omega), n190⟩
  · intro i hi
    have a2 : r.1 233 i = 0 := zr 233 i (by omega) (by omega) (by omega)
    exact ⟨by rw [a2]; exact zr (188 + 17 * i) 2 (by omega) (by omega) (by omega), Or.inl a2, fun q => by rw [a2] at q; exact absurd q (by decide)⟩
  · exact ⟨0, ⟨hRl 186 (by omega) (by omega) (by omega), by omega, rfl, rfl, by omega⟩, z2 51 (by omega) (by omega), fun i h => by omega⟩
theorem R_start : ∃ r, FX12_startSo 222 (mI2, mJ1) = some r ∧ (∀ i, 249 ≤ i → ∀ j, r.1 i j = 0 ∧ r.2 i j = 0) ∧ RR r r :=
  R_start0 (fun _ _ h0 h1 h2 => mI2_off h0 h1 h2) (fun _ h1 h2 => mI2_222 h1 h2) (fun _ h => mI2_224 h) ⟨by simp [mI2, mI1, mI0, mx_up], by simp [mI2, mI1, mI0, mx_up], by simp [mI2, mI1, mI0, mx_up], by simp [mI2, mI1, mI0, mx_up]⟩ (fun _ _ h => mJ1_off h) (fun i h => st_words i h)
