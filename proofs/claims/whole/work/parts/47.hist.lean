/-! ===== copies of networks; what was ahead of deeds ===== -/
def p32 (w : List Nat) : Nat := w.foldl (fun s l => s * 32 + l) 0
def p27 (w : List Nat) : Nat := w.foldl (fun s l => s * 27 + l) 0
def wok (w : List Nat) : Prop := 1 ≤ w.length ∧ w.length ≤ 7 ∧ ∀ l ∈ w, 1 ≤ l ∧ l ≤ 26
/-- a name, as the class and as the reference writes it -/
def nr (x y : Int64) : Prop := ∃ w, wok w ∧ x = Int64.ofNat (p32 w) ∧ y = Int64.ofNat (p27 w)
def NR (c : mB) (a : Nat) (N : Rw) (nm : Nat → Int64) : Prop := Nt c a N ∧ ∀ p, p < nP N → nr (c.2 (a + 1) p) (nm p)
theorem cp_at (m : mI) (a0 a n j : Nat) : mx_cp m a0 a n a j = if j < n then m a0 j else m a j := by simp [mx_cp]
theorem cp_off (m : mI) {b a : Nat} (h : b ≠ a) (a0 n : Nat) : mx_cp m a0 a n b = m b := by funext j; simp [mx_cp, h]
theorem cl_at (m : mJ) (a0 a n j : Nat) : mx_cl m a0 a n a j = if j < n then m a0 j else m a j := by simp [mx_cl]
theorem cl_off (m : mJ) {b a : Nat} (h : b ≠ a) (a0 n : Nat) : mx_cl m a0 a n b = m b := by funext j; simp [mx_cl, h]
section HIST
variable {c c' d : mB} {a p0 : Nat} {N N' : Rw} {nm : Nat → Int64}
theorem Nt_congr (h : Nt c a N) (hh : ∀ x, x < 63 → N' x = N x) (h2 : ∀ x, 125 ≤ x → x < 190 → N' x = N x) : Nt c a N' := by
  obtain ⟨g, s, h1, h3⟩ := h
  have hn := g.1.2
  have hL := g.2.1.2
  have hK := s.1.2
  have hk125 : nK N' = nK N := by unfold nK; rw [h2 125 (by omega) (by omega)]
  refine ⟨hd_GI hh g, SI_mk g s hh ?_ ?_ ?_ ?_ ?_, CG_mv g h1 rfl rfl rfl rfl rfl rfl rfl hh (fun l hl => h2 _ (by omega) (by omega)), ?_⟩
  · rw [hk125, h2 125 (by omega) (by omega)]; exact s.1
  · intro l hl; rw [h2 _ (by omega) (by omega)]; exact s.2.1 l hl
  · intro p hp
    rw [h2 _ (by omega) (by omega)]
    rcases prt s hp with q | ⟨q, q1, q2, q3, q4⟩
    · exact Or.inl q
    · exact Or.inr ⟨q, q1, q2, by rw [h2 _ (by omega) (by omega)]; exact q3, q4⟩
  · intro p hp; rw [h2 _ (by omega) (by omega)]; exact s.2.2.2.1 p hp
  · intro k hk; rw [hk125] at hk; rw [h2 _ (by omega) (by omega), h2 _ (by omega) (by omega)]; exact s.2.2.2.2 k hk
  · refine ⟨by rw [h2 _ (by omega) (by omega), h2 _ (by omega) (by omega), h2 _ (by omega) (by omega)]; exact h3.1, ?_, ?_⟩
    · intro p hp; rw [hd_P hh] at hp; rw [h2 _ (by omega) (by omega), h2 _ (by omega) (by omega)]; exact h3.2.1 p hp
    · intro k hk; rw [hk125] at hk; rw [h2 _ (by omega) (by omega), h2 _ (by omega) (by omega)]; exact h3.2.2 k hk
/-- the same network in another memory -/
theorem Nt_mem (h : Nt c a N) (he : ∀ b, a ≤ b → b ≤ a + 10 → c'.1 b = c.1 b) : Nt c' a N := by
  obtain ⟨g, s, h1, h3⟩ := h
  refine ⟨g, s, CG_mv g h1 (by rw [he a (by omega) (by omega)]) (by rw [he a (by omega) (by omega)]) (he _ (by omega) (by omega)) (he _ (by omega) (by omega)) (he _ (by omega) (by omega)) (he _ (by omega) (by omega)) (he _ (by omega) (by omega)) (fun _ _ => rfl) (fun _ _ => rfl), ?_⟩
  refine ⟨by rw [he a (by omega) (by omega)]; exact h3.1, ?_, ?_⟩
  · intro p hp; rw [he _ (by omega) (by omega), he _ (by omega) (by omega)]; exact h3.2.1 p hp
  · intro p hp; rw [he _ (by omega) (by omega), he _ (by omega) (by omega)]; exact h3.2.2 p hp
theorem NR_mem (h : NR c a N nm) (he : ∀ b, a ≤ b → b ≤ a + 10 → c'.1 b = c.1 b) (hl : c'.2 (a + 1) = c.2 (a + 1)) : NR c' a N nm := ⟨Nt_mem h.1 he, by rw [hl]; exact h.2⟩
theorem C_copyLinks (h : CG c p0 N) (g : GI N) (ha : p0 + 11 ≤ a ∨ a + 11 ≤ p0) : ∃ c', FX4_copyLinksFrom a p0 c = some c' ∧ CG c' a N ∧ c'.2 = c.2 := by
  have hn := g.1.2
  have hL := g.2.1.2
  refine ⟨_, by unfold FX4_copyLinksFrom; simp only [mx_letI]; rfl, ⟨⟨?_, ?_⟩, ?_, ?_, ?_⟩, ?_⟩
  · simp (disch := omega) only [cp_off, mx_up_ne, mx_up_self]; exact h.1.1
  · simp (disch := omega) only [cp_off, up_off, mx_up_self]; exact h.1.2
  · intro p hp q
    simp (disch := omega) only [cp_off, up_off, cp_at, if_pos]
    exact h.2.1 p hp q
  · intro l hl
    simp (disch := omega) only [cp_off, up_off, cp_at, if_pos]
    exact h.2.2.1 l hl
  · intro p q hp hq
    simp (disch := omega) only [cp_off, up_off, cp_at, if_pos]
    exact h.2.2.2 p q hp hq
  · rfl
theorem C_copyFrom (h : Nt c p0 N) (ha : p0 + 11 ≤ a ∨ a + 11 ≤ p0) : ∃ c', FX4_copyFrom a p0 c = some c' ∧ Nt c' a N ∧ ∀ p, p < 10 → c'.2 (a + 1) p = c.2 (p0 + 1) p := by
  obtain ⟨g, s, h1, h2⟩ := h
  have hn := g.1.2
  have hL := g.2.1.2
  have hK := s.1.2
  obtain ⟨c1, e1, g1, l1⟩ := C_copyLinks h1 g ha
  have z1 := ZX4_copyLinksFrom e1
  have cl : ∀ b, a + 11 ≤ b ∨ b < a ∨ b = a + 1 ∨ b = a + 3 ∨ b = a + 4 ∨ b = a + 9 ∨ b = a + 10 → c1.1 b = c.1 b := fun b hb => z1.cell b (fun j => by unfold WSX4_copyLinksFrom; omega)
  refine ⟨_, by unfold FX4_copyFrom; rw [e1]; simp only [ob_some, mx_letI]; rfl, ⟨g, s, ?_, ?_⟩, ?_⟩
  · refine CG_mv g g1 ?_ ?_ ?_ ?_ ?_ ?_ ?_ (fun _ _ => rfl) (fun _ _ => rfl) <;> simp (disch := omega) only [cp_off, up_off, mx_up_ne]
  · refine ⟨⟨?_, ?_, ?_⟩, ?_, ?_⟩
    · simp (disch := omega) only [cp_off, up_off, mx_up_ne, mx_up_self]; rw [cl p0 (by omega)]; exact h2.1.1
    · simp (disch := omega) only [cp_off, up_off, mx_up_ne, mx_up_self]; rw [cl p0 (by omega)]; exact h2.1.2.1
    · simp (disch := omega) only [cp_off, up_off, mx_up_ne, mx_up_self]; rw [cl p0 (by omega)]; exact h2.1.2.2
    · intro p hp
      simp (disch := omega) only [cp_off, up_off, cp_at, if_pos]
      rw [cl _ (by omega), cl _ (by omega)]
      exact h2.2.1 p hp
    · intro k hk
      simp (disch := omega) only [cp_off, up_off, cp_at, if_pos]
      rw [cl _ (by omega), cl _ (by omega)]
      exact h2.2.2 k hk
  · intro p hp
    simp (disch := omega) only [cl_at, if_pos, l1]
/-! the reference's rows aside -/
def seg (d : mB) (q fr : Nat) : mB := (fun b j => if b = q ∧ fr ≤ j ∧ j < fr + 65 then d.1 224 (125 + (j - fr)) else d.1 b j, d.2)
def cb (N : Rw) (S : Nat → Int32) : Rw := fun x => if 125 ≤ x ∧ x < 190 then S (x - 125) else N x
theorem M_save {q w fr : Nat} (hq : q ≠ 224) (hw2 : fr + 65 ≤ w) (hw3 : w < 1000) : FX12_save 222 q w (i3 fr) d = some (seg d q fr) := by
  have key : hw (FX12_save_L2 222 q w (i3 fr) mx_FU (i3 0) d) (fun m => m = seg d q fr) := by
    refine lp_inv (L := fun fu y m => FX12_save_L2 222 q w (i3 fr) fu y m) (n := 65) (fun i m => m = (fun b j => if b = q ∧ fr ≤ j ∧ j < fr + i then d.1 224 (125 + (j - fr)) else d.1 b j, d.2)) ?_ ?_ 0 mx_FU _ (by omega) (FU_lt (by omega)) ?_
    · intro fu m hm
      show hw (FX12_save_L2 222 q w (i3 fr) (fu + 1) (i3 65) m) _
      rw [FX12_save_L2]
      exact hw_some hm
    · intro fu i m hi hm hs
      show hw (FX12_save_L2 222 q w (i3 fr) (fu + 1) (i3 i) m) _
      subst hm
      rw [FX12_save_L2]
      simp (disch := omega) only [Nat.reduceAdd, ob_some, mx_letI, mx_chkT, mx_inb_i3, mx_inb_lit, lit_toNat, i3_toNat, i3_le, i3_lt, i3_leL, i3_Lle, i3_ltL, i3_Llt, i3_neg, i3_eq, i3_eqL, i3_ne1, i3_add, i3_addL, i3_Ladd, i3_mul, i3_mulL, i3_Lmul, mx_b01_0, mx_b01_1, b2_01, b2_0, b2_1, se_inl, se_inr, if_true, if_false, e10, e01, e00, e11, em1, em1lt, Nat.not_lt_zero, if_pos, if_neg]
      refine hs _ (Prod.ext ?_ rfl)
      funext b j
      simp only [mx_up]
      by_cases e : b = q ∧ j = fr + i
      · rw [if_pos e, if_pos (by omega), e.2, show fr + i - fr = i by omega]
      · rw [if_neg e]
        by_cases e2 : b = q ∧ fr ≤ j ∧ j < fr + i
        · rw [if_pos e2, if_pos (by omega)]
        · rw [if_neg e2, if_neg (by omega)]
    · refine Prod.ext ?_ rfl
      funext b j
      dsimp only
      rw [if_neg (by omega)]
  obtain ⟨m, e, rfl⟩ := key
  unfold FX12_save
  rw [show (0 : Int32) = i3 0 from rfl, e]
  rfl
theorem M_comeBack (h : d.1 224 = N) {q w fr : Nat} (hq : q ≠ 224) (hw2 : fr + 65 ≤ w) (hw3 : w < 1000) : FX12_comeBack 222 q w (i3 fr) d = some (sr d (cb N (fun k => d.1 q (fr + k)))) := by
  have key : hw (FX12_comeBack_L2 222 q w (i3 fr) mx_FU (i3 0) d) (fun m => m = sr d (cb N (fun k => d.1 q (fr + k)))) := by
    refine lp_inv (L := fun fu y m => FX12_comeBack_L2 222 q w (i3 fr) fu y m) (n := 65) (fun i m => m = sr d (fun x => if 125 ≤ x ∧ x < 125 + i then d.1 q (fr + (x - 125)) else N x)) ?_ ?_ 0 mx_FU _ (by omega) (FU_lt (by omega)) ?_
    · intro fu m hm
      show hw (FX12_comeBack_L2 222 q w (i3 fr) (fu + 1) (i3 65) m) _
      rw [FX12_comeBack_L2]
      exact hw_some hm
    · intro fu i m hi hm hs
      show hw (FX12_comeBack_L2 222 q w (i3 fr) (fu + 1) (i3 i) m) _
      subst hm
      rw [FX12_comeBack_L2]
      simp (disch := omega) only [Nat.reduceAdd, up_row', up_row, sr_row, sr_sr, sr_ne _ _ hq, ob_some, mx_letI, mx_chkT, mx_inb_i3, mx_inb_lit, lit_toNat, i3_toNat, i3_le, i3_lt, i3_leL, i3_Lle, i3_ltL, i3_Llt, i3_neg, i3_eq, i3_eqL, i3_ne1, i3_add, i3_addL, i3_Ladd, i3_mul, i3_mulL, i3_Lmul, mx_b01_0, mx_b01_1, b2_01, b2_0, b2_1, se_inl, se_inr, if_true, if_false, e10, e01, e00, e11, em1, em1lt, Nat.not_lt_zero, if_pos, if_neg]
      refine hs _ ?_
      congr 1
      funext x
      unfold ud
      by_cases e : x = 125 + i
      · rw [if_pos e, if_pos (by omega), e, show 125 + i - 125 = i by omega]
      · rw [if_neg e]
        show (if 125 ≤ x ∧ x < 125 + i then d.1 q (fr + (x - 125)) else N x) = _
        by_cases e2 : 125 ≤ x ∧ x < 125 + i
        · rw [if_pos e2, if_pos (by omega)]
        · rw [if_neg e2, if_neg (by omega)]
    · have : (fun x => if 125 ≤ x ∧ x < 125 + 0 then d.1 q (fr + (x - 125)) else N x) = N := by
        funext x
        rw [if_neg (by omega)]
      rw [this, ← h, sr_self]
  obtain ⟨m, e, rfl⟩ := key
  unfold FX12_comeBack
  rw [show (0 : Int32) = i3 0 from rfl, e]
  rfl
theorem M_snap {kp : Nat} (hk : d.1 222 25 = i3 kp) (h8 : kp ≤ 8) : ∃ d', FX12_snap 222 d = some d' ∧ d'.1 222 25 = i3 (if kp = 8 then 8 else kp + 1) ∧
    (∀ j, j < kp → (kp = 8 → j < 7) → ∀ x, x < 65 → d'.1 227 (65 * j + x) = d.1 227 (65 * (if kp = 8 then j + 1 else j) + x)) ∧
    (∀ x, x < 65 → d'.1 227 (65 * (if kp = 8 then 7 else kp) + x) = d.1 224 (125 + x)) := by
  unfold FX12_snap
  rw [mx_letI]
  by_cases e8 : kp = 8
  · subst e8
    simp only [if_true]
    rw [hk, if_pos (by rfl)]
    have key : hw (FX12_snap_L11 222 mx_FU (i3 0) d) (fun m => m = (fun b j => if b = 227 ∧ j < 455 then d.1 227 (j + 65) else d.1 b j, d.2)) := by
      refine lp_inv (L := fun fu y m => FX12_snap_L11 222 fu y m) (n := 455) (fun i m => m = (fun b j => if b = 227 ∧ j < i then d.1 227 (j + 65) else d.1 b j, d.2)) ?_ ?_ 0 mx_FU _ (by omega) (FU_lt (by omega)) ?_
      · intro fu m hm
        show hw (FX12_snap_L11 222 (fu + 1) (i3 455) m) _
        rw [FX12_snap_L11]
        exact hw_some hm
      · intro fu i m hi hm hs
        show hw (FX12_snap_L11 222 (fu + 1) (i3 i) m) _
        subst hm
        rw [FX12_snap_L11]
        simp (disch := omega) only [Nat.reduceAdd, ob_some, mx_letI, mx_chkT, mx_inb_i3, mx_inb_lit, lit_toNat, i3_toNat, i3_le, i3_lt, i3_leL, i3_Lle, i3_ltL, i3_Llt, i3_neg, i3_eq, i3_eqL, i3_ne1, i3_add, i3_addL, i3_Ladd, i3_mul, i3_mulL, i3_Lmul, mx_b01_0, mx_b01_1, b2_01, b2_0, b2_1, se_inl, se_inr, if_true, if_false, e10, e01, e00, e11, em1, em1lt, Nat.not_lt_zero, if_pos, if_neg]
        refine hs _ (Prod.ext ?_ rfl)
        funext b j
        simp only [mx_up]
        by_cases e : b = 227 ∧ j = i
        · rw [if_pos e, if_pos (by omega), e.2]
        · rw [if_neg e]
          by_cases e2 : b = 227 ∧ j < i
          · rw [if_pos e2, if_pos (by omega)]
          · rw [if_neg e2, if_neg (by omega)]
      · refine Prod.ext ?_ rfl
        funext b j
        dsimp only
        rw [if_neg (by omega)]
    obtain ⟨m, e, rfl⟩ := key
    rw [show (0 : Int32) = i3 0 from rfl, e]
    simp only [ob_some, mx_letI]
    have e25 : (mx_up (fun b j => if b = 227 ∧ j < 455 then d.1 227 (j + 65) else d.1 b j) 222 25 (i3 7)) 222 25 = i3 7 := mx_up_self _ _ _ _
    have e7 : (if (222 : Nat) = 227 ∧ 25 < 455 then d.1 227 (25 + 65) else d.1 222 25) - 1 = i3 7 := by rw [if_neg (by omega), hk]; rfl
    rw [e7, mx_up_self, show (65 : Int32) * i3 7 = i3 455 from rfl, M_save (by omega) (by omega) (by omega)]
    refine ⟨_, rfl, ?_, ?_, ?_⟩
    · dsimp only
      rw [mx_up_self]
      unfold seg
      dsimp only
      rw [if_neg (by omega), mx_up_self]
      rfl
    · intro j hj hj2 x hx
      dsimp only
      rw [up_off _ (by omega)]
      unfold seg
      dsimp only
      have := hj2 trivial
      rw [if_neg (by omega), up_off _ (by omega)]
      rw [if_pos (by omega), show 65 * j + x + 65 = 65 * (j + 1) + x by omega]
    · intro x hx
      dsimp only
      rw [up_off _ (by omega)]
      unfold seg
      dsimp only
      rw [if_pos (by omega), up_off _ (by omega)]
      rw [if_neg (by omega), show 65 * 7 + x - 455 = x by omega]
  · simp only [e8, if_false]
    rw [hk, if_neg (by rw [i3_eqL (by omega) (by decide)]; exact e8)]
    simp (disch := omega) only [i3_Lmul, M_save (q := 222 + 5) (w := 520) (fr := 65 * kp) (by omega) (by omega) (by omega), ob_some]
    refine ⟨_, rfl, ?_, ?_, ?_⟩
    · dsimp only
      rw [mx_up_self]
      unfold seg
      dsimp only
      rw [if_neg (by omega), hk, i3_succ]
    · intro j hj hj2 x hx
      dsimp only
      rw [up_off _ (by omega)]
      unfold seg
      dsimp only
      rw [if_neg (by omega)]
    · intro x hx
      dsimp only
      rw [up_off _ (by omega)]
      unfold seg
      dsimp only
      rw [if_pos (by omega), show 65 * kp + x - 65 * kp = x by omega]
end HIST
