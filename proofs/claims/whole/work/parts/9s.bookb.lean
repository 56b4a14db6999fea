/-! ===== a line of a book ===== -/
section BOOKB
variable {c c' d d' : mB} {n lim p l P : Nat} {t : Nat → Nat}
def Z1 (l : Nat) : Nat → Nat → Prop := fun b j => U1 b j ∨ (171 ≤ b ∧ b ≤ 173 ∧ j = l)
def Z2 (l : Nat) : Nat → Nat → Prop := fun b j => U2 b j ∨ (b = 246 ∧ 4 * l + 1 ≤ j ∧ j ≤ 4 * l + 3)
def OK (c d : mB) (n lim : Nat) (t : Nat → Nat) (l : Nat) (K : mB → mB → Prop) (r s : Int32 × mB) : Prop :=
  (∃ p', r.1 = 1 ∧ s.1 = 1 ∧ PR r.2 s.2 n lim t p' ∧ K r.2 s.2 ∧ mx_out (Z1 l) c r.2 ∧ mx_out (Z2 l) d s.2) ∨ (r.1 = 0 ∧ s.1 = 0 ∧ FL r.2 s.2 ∧ mx_out (Z1 l) c r.2 ∧ mx_out (Z2 l) d s.2)
def BLk (P k : Nat) (c d : mB) (l : Nat) : Prop := ∃ x y n, c.1 171 l = i3 x ∧ d.1 246 (4 * l + 1) = i3 x ∧ (if k = 4 ∨ k = 5 then x ≤ 5 else x < P) ∧ (k = 0 ∨ k = 2 → c.1 172 l = i3 y ∧ d.1 246 (4 * l + 2) = i3 y ∧ y < P) ∧ (k = 2 ∨ k = 3 ∨ k = 4 → c.1 173 l = i3 n ∧ d.1 246 (4 * l + 3) = i3 n ∧ (if k = 2 then 1 ≤ n ∧ n ≤ 99 else n ≤ 400))
def gP (l : Nat) (m : mB) : Option (Int32 × mB) := Option.bind (FX12_readPointName 222 m) (fun s => FX12_keep 222 (i3 (4 * l + 1)) s.1 s.2)
def gN (l : Nat) (m : mB) : Option (Int32 × mB) := Option.bind (FX12_readNumber 222 0 5 m) (fun s => FX12_keep 222 (i3 (4 * l + 1)) s.1 s.2)
def g2 (l : Nat) (m : mB) : Option (Int32 × mB) := Option.bind (gP l m) (fun r => if r.1 = 0 then some (0, r.2) else FX12_readOther 222 (i3 (4 * l + 1)) r.2)
def gT (l : Nat) (lo hi : Int32) (r : Int32 × mB) : Option (Int32 × mB) := if r.1 = 0 then some (0, r.2) else Option.bind (FX12_readNumber 222 lo hi r.2) (fun s => FX12_keep 222 (i3 (4 * l + 3)) s.1 s.2)
def Gk (l k : Nat) (m : mB) : Option (Int32 × mB) := if k = 0 then g2 l m else if k = 2 then Option.bind (g2 l m) (gT l 1 99) else if k = 3 then Option.bind (gP l m) (gT l 0 400) else if k = 4 then Option.bind (gN l m) (gT l 0 400) else if k = 5 then gN l m else gP l m
def cT (lo hi : Int32) (r : Int32 × mB) : Option (Int32 × mB) := if r.1 = 0 then some (0, r.2) else Option.bind (FX0_readThird 169 1 lo hi r.2) (fun r22 => if r22.1 = 0 then some (0, r22.2) else some (1, r22.2))
def cB (r : Int32 × mB) : Option (Int32 × mB) := mx_chk (mx_b01 r.1) (some (r.1, r.2))
def Fk (k : Nat) (m : mB) : Option (Int32 × mB) := if k = 0 then Option.bind (FX0_readTwo 169 1 4 m) cB else if k = 2 then Option.bind (FX0_readTwo 169 1 4 m) (cT 1 99) else if k = 3 then Option.bind (FX0_readFirst 169 1 4 m) (cT 0 400) else if k = 4 then Option.bind (FX0_readNumber 169 1 m) (cT 0 400) else if k = 5 then Option.bind (FX0_readNumber 169 1 m) cB else Option.bind (FX0_readFirst 169 1 4 m) cB
theorem X1_Z {q : Nat} (h1 : 171 ≤ q) (h2 : q ≤ 173) (z : mx_out (X1 q l) c c') : mx_out (Z1 l) c c' := z.sub (fun b j w => by
  rcases w with w | w
  · exact Or.inl w
  · exact Or.inr (by omega))
theorem X2_Z {w : Nat} (h1 : 4 * l + 1 ≤ w) (h2 : w ≤ 4 * l + 3) (z : mx_out (X2 w) d d') : mx_out (Z2 l) d d' := z.sub (fun b j q => by
  rcases q with q | q
  · exact Or.inl q
  · exact Or.inr (by omega))
theorem Z1_4 (z : mx_out (Z1 l) c c') : c'.1 169 4 = c.1 169 4 := z.fld 169 4 (by unfold Z1 U1; omega)
theorem NmB_Z (h : NmB P c d) (zc : mx_out (Z1 l) c c') (zd : mx_out (Z2 l) d d') : NmB P c' d' := NmB_mv h zc zd (fun b j q => by unfold Z1 U1 at q; omega) (fun b j q => by unfold Z2 U2 at q; omega)
/-- one item alone -/
theorem B_cB {T R : Option (Int32 × mB)} {K : mB → mB → Prop} (h : hb T R (OK c d n lim t l K)) : hb (Option.bind T cB) R (OK c d n lim t l K) := by
  obtain ⟨r, s, e1, e2, q⟩ := h
  refine ⟨r, s, ?_, e2, q⟩
  rw [e1, ob_some]
  unfold cB
  rcases q with ⟨p', q1, -⟩ | ⟨q1, -⟩
  · rw [q1, show mx_b01 1 = true from rfl, mx_chkT, ← q1]
  · rw [q1, show mx_b01 0 = true from rfl, mx_chkT, ← q1]
theorem B_P (h : PR c d n lim t p) (hN : NmB P c d) (hl : c.1 169 4 = i3 l) (hl40 : l < 40) : hb (FX0_readFirst 169 1 4 c) (gP l d) (OK c d n lim t l (fun c d => ∃ x, c.1 171 l = i3 x ∧ d.1 246 (4 * l + 1) = i3 x ∧ x < P)) := by
  refine hb_mono (B_first h hN hl hl40) (fun r s q => ?_)
  rcases q with ⟨x, p', q0, q1, q2, q3, q4, q5, q6, q7, q8⟩ | ⟨q1, q2, q3, q4, q5⟩
  · exact Or.inl ⟨p', q1, q2, q5, ⟨x, q3, q4, q0⟩, X1_Z (by omega) (by omega) q7, X2_Z (by omega) (by omega) q8⟩
  · exact Or.inr ⟨q1, q2, q3, X1_Z (by omega) (by omega) q4, X2_Z (by omega) (by omega) q5⟩
theorem B_N (h : PR c d n lim t p) (hl : c.1 169 4 = i3 l) (hl40 : l < 40) : hb (FX0_readNumber 169 1 c) (gN l d) (OK c d n lim t l (fun c d => ∃ x, c.1 171 l = i3 x ∧ d.1 246 (4 * l + 1) = i3 x ∧ x ≤ 5)) := by
  refine hb_mono (B_number h hl hl40) (fun r s q => ?_)
  rcases q with ⟨x, p', q0, q1, q2, q3, q4, q5, q6, q7, q8⟩ | ⟨q1, q2, q3, q4, q5⟩
  · exact Or.inl ⟨p', q1, q2, q5, ⟨x, q3, q4, q0⟩, X1_Z (by omega) (by omega) q7, X2_Z (by omega) (by omega) q8⟩
  · exact Or.inr ⟨q1, q2, q3, X1_Z (by omega) (by omega) q4, X2_Z (by omega) (by omega) q5⟩
theorem B_2 (h : PR c d n lim t p) (hN : NmB P c d) (hl : c.1 169 4 = i3 l) (hl40 : l < 40) : hb (FX0_readTwo 169 1 4 c) (g2 l d) (OK c d n lim t l (fun c d => ∃ x y, c.1 171 l = i3 x ∧ d.1 246 (4 * l + 1) = i3 x ∧ x < P ∧ c.1 172 l = i3 y ∧ d.1 246 (4 * l + 2) = i3 y ∧ y < P)) := by
  unfold FX0_readTwo g2
  refine hb_bind (B_P h hN hl hl40) (fun r s q => ?_)
  rcases q with ⟨p', q1, q2, q5, ⟨x, q3, q4, q0⟩, q7, q8⟩ | ⟨q1, q2, q3, q4, q5⟩
  · rw [if_neg (by rw [q1]; decide), if_neg (by rw [q2]; decide)]
    refine hb_mono (B_other q5 (NmB_Z hN q7 q8) (by rw [Z1_4 q7]; exact hl) hl40 q0 q3 q4) (fun r2 s2 w => ?_)
    rcases w with ⟨y, p2, w0, w1, w2, w3, w4, w5, w6, w7, w8⟩ | ⟨w1, w2, w3, w4, w5⟩
    · exact Or.inl ⟨p2, w1, w2, w5, ⟨x, y, by rw [w7.fld 171 l (by unfold X1 U1; omega)]; exact q3, by rw [w8.fld 246 _ (by unfold X2 U2; omega)]; exact q4, q0, w3, w4, w0⟩, mx_out.tr q7 (X1_Z (by omega) (by omega) w7), mx_out.tr q8 (X2_Z (by omega) (by omega) w8)⟩
    · exact Or.inr ⟨w1, w2, w3, mx_out.tr q7 (X1_Z (by omega) (by omega) w4), mx_out.tr q8 (X2_Z (by omega) (by omega) w5)⟩
  · rw [if_pos q1, if_pos q2]
    exact hb_some (Or.inr ⟨rfl, rfl, q3, q4, q5⟩)
theorem B_T {T R : Option (Int32 × mB)} {K : mB → mB → Prop} (h : hb T R (OK c d n lim t l K)) (hl : c.1 169 4 = i3 l) (hl40 : l < 40) {lo hi : Nat} (h1 : lo < 1000) (h2 : hi < 1000) : hb (Option.bind T (cT (i3 lo) (i3 hi))) (Option.bind R (gT l (i3 lo) (i3 hi))) (OK c d n lim t l (fun c d => (∃ c0 d0, K c0 d0 ∧ mx_out (X1 173 l) c0 c ∧ mx_out (X2 (4 * l + 3)) d0 d) ∧ ∃ v, c.1 173 l = i3 v ∧ d.1 246 (4 * l + 3) = i3 v ∧ lo ≤ v ∧ v ≤ hi)) := by
  refine hb_bind h (fun r s q => ?_)
  unfold cT gT
  rcases q with ⟨p', q1, q2, q3, q4, q5, q6⟩ | ⟨q1, q2, q3, q4, q5⟩
  · rw [if_neg (by rw [q1]; decide), if_neg (by rw [q2]; decide)]
    obtain ⟨⟨r2, c2⟩, ⟨s2, d2⟩, e1, e2, w⟩ := B_third q3 (by rw [Z1_4 q5]; exact hl) hl40 h1 h2
    rw [e1, e2, ob_some]
    rcases w with ⟨y, p2, w0, w1, w2, w3, w4, w5, w6, w7, w8⟩ | ⟨w1, w2, w3, w4, w5⟩
    · dsimp only at w1 w2
      subst w1 w2
      dsimp only
      rw [if_neg (show ¬ (1 : Int32) = 0 by decide)]
      exact hb_some (Or.inl ⟨p2, rfl, rfl, w5, ⟨⟨r.2, s.2, q4, w7, w8⟩, y, w3, w4, w0⟩, mx_out.tr q5 (X1_Z (by omega) (by omega) w7), mx_out.tr q6 (X2_Z (by omega) (by omega) w8)⟩)
    · dsimp only at w1 w2
      subst w1 w2
      dsimp only
      rw [if_pos rfl]
      exact hb_some (Or.inr ⟨rfl, rfl, w3, mx_out.tr q5 (X1_Z (by omega) (by omega) w4), mx_out.tr q6 (X2_Z (by omega) (by omega) w5)⟩)
  · rw [if_pos q1, if_pos q2]
    exact hb_some (Or.inr ⟨rfl, rfl, q3, q4, q5⟩)
theorem OK_mono {K K' : mB → mB → Prop} {r s : Int32 × mB} (h : OK c d n lim t l K r s) (hK : K r.2 s.2 → K' r.2 s.2) : OK c d n lim t l K' r s := by
  rcases h with ⟨p', q1, q2, q3, q4, q5⟩ | q
  · exact Or.inl ⟨p', q1, q2, q3, hK q4, q5⟩
  · exact Or.inr q
theorem B_k (h : PR c d n lim t p) (hN : NmB P c d) (hl : c.1 169 4 = i3 l) (hl40 : l < 40) {k : Nat} (hk : k ≤ 6) : hb (Fk k c) (Gk l k d) (OK c d n lim t l (fun c d => BLk P k c d l)) := by
  have m1 : ∀ {c0 c1 : mB}, mx_out (X1 173 l) c0 c1 → c1.1 171 l = c0.1 171 l ∧ c1.1 172 l = c0.1 172 l := fun z => ⟨z.fld 171 l (by unfold X1 U1; omega), z.fld 172 l (by unfold X1 U1; omega)⟩
  have m2 : ∀ {d0 d1 : mB}, mx_out (X2 (4 * l + 3)) d0 d1 → d1.1 246 (4 * l + 1) = d0.1 246 (4 * l + 1) ∧ d1.1 246 (4 * l + 2) = d0.1 246 (4 * l + 2) := fun z => ⟨z.fld 246 _ (by unfold X2 U2; omega), z.fld 246 _ (by unfold X2 U2; omega)⟩
  rcases (by omega : k = 0 ∨ k = 1 ∨ k = 2 ∨ k = 3 ∨ k = 4 ∨ k = 5 ∨ k = 6) with e | e | e | e | e | e | e <;> subst e
  · refine hb_mono (B_cB (B_2 h hN hl hl40)) (fun r s q => OK_mono q (fun ⟨x, y, a1, a2, a3, a4, a5, a6⟩ => ⟨x, y, 0, a1, a2, by rw [if_neg (by omega)]; exact a3, fun _ => ⟨a4, a5, a6⟩, fun q => by omega⟩))
  · refine hb_mono (B_cB (B_P h hN hl hl40)) (fun r s q => OK_mono q (fun ⟨x, a1, a2, a3⟩ => ⟨x, 0, 0, a1, a2, by rw [if_neg (by omega)]; exact a3, fun q => by omega, fun q => by omega⟩))
  · refine hb_mono (B_T (lo := 1) (hi := 99) (B_2 h hN hl hl40) hl hl40 (by omega) (by omega)) (fun r s q => OK_mono q (fun ⟨⟨c0, d0, ⟨x, y, a1, a2, a3, a4, a5, a6⟩, z1, z2⟩, v, b1, b2', b3⟩ => ⟨x, y, v, by rw [(m1 z1).1]; exact a1, by rw [(m2 z2).1]; exact a2, by rw [if_neg (by omega)]; exact a3, fun _ => ⟨by rw [(m1 z1).2]; exact a4, by rw [(m2 z2).2]; exact a5, a6⟩, fun _ => ⟨b1, b2', by rw [if_pos rfl]; exact b3⟩⟩))
  · refine hb_mono (B_T (lo := 0) (hi := 400) (B_P h hN hl hl40) hl hl40 (by omega) (by omega)) (fun r s q => OK_mono q (fun ⟨⟨c0, d0, ⟨x, a1, a2, a3⟩, z1, z2⟩, v, b1, b2', b3⟩ => ⟨x, 0, v, by rw [(m1 z1).1]; exact a1, by rw [(m2 z2).1]; exact a2, by rw [if_neg (by omega)]; exact a3, fun q => by omega, fun _ => ⟨b1, b2', by rw [if_neg (by omega)]; exact b3.2⟩⟩))
  · refine hb_mono (B_T (lo := 0) (hi := 400) (B_N h hl hl40) hl hl40 (by omega) (by omega)) (fun r s q => OK_mono q (fun ⟨⟨c0, d0, ⟨x, a1, a2, a3⟩, z1, z2⟩, v, b1, b2', b3⟩ => ⟨x, 0, v, by rw [(m1 z1).1]; exact a1, by rw [(m2 z2).1]; exact a2, by rw [if_pos (by omega)]; exact a3, fun q => by omega, fun _ => ⟨b1, b2', by rw [if_neg (by omega)]; exact b3.2⟩⟩))
  · refine hb_mono (B_cB (B_N h hl hl40)) (fun r s q => OK_mono q (fun ⟨x, a1, a2, a3⟩ => ⟨x, 0, 0, a1, a2, by rw [if_pos (by omega)]; exact a3, fun q => by omega, fun q => by omega⟩))
  · refine hb_mono (B_cB (B_P h hN hl hl40)) (fun r s q => OK_mono q (fun ⟨x, a1, a2, a3⟩ => ⟨x, 0, 0, a1, a2, by rw [if_neg (by omega)]; exact a3, fun q => by omega, fun q => by omega⟩))
end BOOKB
