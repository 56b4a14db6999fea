/-! ===== deeds by draws ===== -/
theorem shr8 (z : Int32) : ∃ k, k < 16777216 ∧ UInt32.toInt32 (Int32.toUInt32 z >>> (Int32.toUInt32 8 &&& Int32.toUInt32 31)) = i3 k := by
  rw [show (Int32.toUInt32 8 &&& Int32.toUInt32 31) = (8 : UInt32) by decide]
  refine ⟨(Int32.toUInt32 z >>> (8 : UInt32)).toNat, ?_, ?_⟩
  · rw [UInt32.toNat_shiftRight, show (8 : UInt32).toNat % 32 = 8 from rfl, Nat.shiftRight_eq_div_pow]
    have := UInt32.toNat_lt (Int32.toUInt32 z)
    omega
  · generalize Int32.toUInt32 z >>> (8 : UInt32) = w
    have e : w = UInt32.ofNat w.toNat := UInt32.ofNat_toNat.symm
    rw [e]
    generalize w.toNat = k
    show Int32.ofNat k = Int32.ofNat (k % 4294967296)
    apply Int32.toBitVec_inj.mp
    show BitVec.ofNat 32 k = BitVec.ofNat 32 (k % 4294967296)
    apply BitVec.eq_of_toNat_eq
    simp
section DRAWS
variable {c c' d d' : mB} {a : Nat} {N : Rw}
def WCd (a : Nat) : Nat → Nat → Prop := fun b j => WC0 a b j ∨ b = 185
def WDd : Nat → Nat → Prop := fun b j => WD0 b j ∨ (b = 222 ∧ j = 52)
def DS (a : Nat) (N : Rw) (c d : mB) : Prop := Nt c a N ∧ d.1 224 = N ∧ c.1 185 0 = d.1 222 52
theorem D_draw (ha : a = 4 ∨ a = 15) (h : DS a N c d) {n : Nat} (h1 : 1 ≤ n) (h2 : n ≤ 60) : hb (FX1_draw 185 (i3 n) c) (FX12_draw 222 (i3 n) d) (fun r s => ∃ v, v < n ∧ r.1 = i3 v ∧ s.1 = i3 v ∧ DS a N r.2 s.2 ∧ mx_out (WCd a) c r.2 ∧ mx_out WDd d s.2) := by
  obtain ⟨q1, q2, q3⟩ := h
  unfold FX1_draw FX12_draw
  rw [mx_letI, mx_letI, q3]
  have zc : mx_out (fun b j => b = 185 ∧ j = 0) c (mx_up c.1 185 0 (d.1 222 52 * 1103515245 + 12345), c.2) := mx_out_up mx_out.rf rfl ⟨rfl, rfl⟩
  have zd : mx_out (fun b j => b = 222 ∧ j = 52) d (mx_up d.1 222 52 (d.1 222 52 * 1103515245 + 12345), d.2) := mx_out_up mx_out.rf rfl ⟨rfl, rfl⟩
  have v1 : (mx_up c.1 185 0 (d.1 222 52 * 1103515245 + 12345), c.2).1 185 0 = d.1 222 52 * 1103515245 + 12345 := mx_up_self c.1 185 0 _
  have v2 : (mx_up d.1 222 52 (d.1 222 52 * 1103515245 + 12345), d.2).1 222 52 = d.1 222 52 * 1103515245 + 12345 := mx_up_self d.1 222 52 _
  generalize (mx_up c.1 185 0 (d.1 222 52 * 1103515245 + 12345), c.2) = c1 at zc v1 ⊢
  generalize (mx_up d.1 222 52 (d.1 222 52 * 1103515245 + 12345), d.2) = d1 at zd v2 ⊢
  have em : FJ9_max_7cf53 1 (i3 n) c1 = some (i3 n) := by
    have : ∀ n, n ≤ 60 → 1 ≤ n → FJ9_max_7cf53 1 (i3 n) c1 = some (i3 n) := by
      intro n h1 h2
      unfold FJ9_max_7cf53
      by_cases q : n = 1
      · subst q; rfl
      · rw [if_pos (by show i3 1 < i3 n; rw [i3_lt (by omega) (by omega)]; omega)]
    exact this n h2 h1
  have nz : mx_nz (i3 n) = true := by
    have : ∀ n, n ≤ 60 → 1 ≤ n → mx_nz (i3 n) = true := by decide
    exact this n h2 h1
  rw [em, ob_some, v1, v2, nz, mx_chkT, mx_chkT]
  obtain ⟨k, hk, ek⟩ := shr8 (d.1 222 52 * 1103515245 + 12345)
  have hmod : i3 k - i3 k / i3 n * i3 n = i3 (k % n) := by
    rw [i3_div (by omega) (by omega), i3_mul, i3_sub (Nat.div_mul_le_self k n)]
    congr 1
    have := Nat.div_add_mod k n
    rw [Nat.mul_comm] at this
    omega
  rw [ek, hmod]
  refine hb_some ⟨k % n, Nat.mod_lt _ (by omega), rfl, rfl, ⟨Nt_mem q1 (fun b w1 w2 => zc.cell b (fun j => by omega)), by rw [zd.cell 224 (fun j => by omega)]; exact q2, by rw [v1, v2]⟩, zc.sub (fun b j q => Or.inr q.1), zd.sub (fun b j q => Or.inr q)⟩
/-- both sides after a deed -/
def DQ (a : Nat) (N : Rw) (c d : mB) (r s : Int32 × mB) : Prop := ∃ N', (∀ k, k < 125 ∨ 190 ≤ k → N' k = N k) ∧ DS a N' r.2 s.2 ∧ mx_out (WCd a) c r.2 ∧ mx_out WDd d s.2 ∧ (r.1 = 0 ∧ s.1 = 0 ∧ N' = N ∨ r.1 = 1 ∧ s.1 = 1)
theorem DQ_tr {c1 d1 : mB} {r s : Int32 × mB} (h : DQ a N c1 d1 r s) (zc : mx_out (WCd a) c c1) (zd : mx_out WDd d d1) : DQ a N c d r s := by
  obtain ⟨N', h1, h2, h3, h4, h5⟩ := h
  exact ⟨N', h1, h2, mx_out.tr zc h3, mx_out.tr zd h4, h5⟩
theorem DQ_no (h : DS a N c d) : DQ a N c d (0, c) (0, d) := ⟨N, fun _ _ => rfl, h, mx_out.rf, mx_out.rf, Or.inl ⟨rfl, rfl, rfl⟩⟩
theorem DE_do {F : mB → Option (Int32 × mB)} {what x y n : Int32} (ha : a = 4 ∨ a = 15) (hE : DE a N F what x y n) (h : DS a N c d) : hb (Option.bind (F c) (fun r => if r.1 = 0 then some (1, r.2) else some (0, r.2))) (FX12_doIf 222 what x y n d) (DQ a N c d) := by
  obtain ⟨rc, N', h9, e1, e2, e3, e4⟩ := hE
  obtain ⟨q1, q2, q3⟩ := h
  obtain ⟨c1, f1, f2, f3⟩ := e1 c q1
  obtain ⟨d1, g1, g2, g3⟩ := e2 d q2
  have x1 : c1.1 185 0 = c.1 185 0 := f3.fld 185 0 (by unfold WC0 SW; omega)
  have x2 : d1.1 222 52 = d.1 222 52 := g3.fld 222 52 (by unfold WD0; omega)
  unfold FX12_doIf
  rw [f1, g1, ob_some, ob_some]
  dsimp only
  by_cases q : rc = 0
  · rw [if_pos q] at f2
    subst q
    rw [if_pos (show i3 0 = 0 from rfl), if_pos (show i3 0 = 0 from rfl)]
    obtain ⟨d2, k1, k2, k3⟩ := e3 rfl d1 g2
    have x3 : d2.1 222 52 = d1.1 222 52 := k3.fld 222 52 (by unfold WD0; omega)
    rw [k1, ob_some]
    exact hb_some ⟨N', e4, ⟨f2, k2, by rw [x1, x3, x2]; exact q3⟩, f3.sub (fun b j q => Or.inl q), (mx_out.tr g3 k3).sub (fun b j q => Or.inl q), Or.inr ⟨rfl, rfl⟩⟩
  · rw [if_neg q] at f2
    have q0 : ¬ i3 rc = 0 := by show ¬ i3 rc = i3 0; rw [i3_eq (by omega) (by omega)]; exact q
    rw [if_neg q0, if_neg q0]
    exact hb_some ⟨N, fun _ _ => rfl, ⟨f2, g2, by rw [x1, x2]; exact q3⟩, f3.sub (fun b j q => Or.inl q), g3.sub (fun b j q => Or.inl q), Or.inl ⟨rfl, rfl, rfl⟩⟩
theorem DQ_b {r s : Int32 × mB} (h : DQ a N c d r s) : mx_chk (mx_b01 s.1) (some (s.1, s.2)) = some s := by
  obtain ⟨N', h1, h2, h3, h4, h5 | h5⟩ := h
  · rw [h5.2.1]; show some (0, s.2) = some s; rw [← h5.2.1]
  · rw [h5.2]; show some (1, s.2) = some s; rw [← h5.2]
theorem DQ_c {r s : Int32 × mB} (h : DQ a N c d r s) : mx_chk (mx_b01 r.1) (some (r.1, r.2)) = some r := by
  obtain ⟨N', h1, h2, h3, h4, h5 | h5⟩ := h
  · rw [h5.1]; show some (0, r.2) = some r; rw [← h5.1]
  · rw [h5.1]; show some (1, r.2) = some r; rw [← h5.1]
theorem DQ_i {r s : Int32 × mB} (h : DQ a N c d r s) : (if r.1 = 0 then some ((0 : Int32), r.2) else some (1, r.2)) = some r := by
  obtain ⟨N', h1, h2, h3, h4, h5 | h5⟩ := h
  · rw [if_pos h5.1, ← h5.1]
  · rw [if_neg (by rw [h5.1]; decide), ← h5.1]
theorem DQ_j {r s : Int32 × mB} (h : DQ a N c d r s) : (if s.1 = 0 then some ((0 : Int32), s.2) else some (1, s.2)) = some s := by
  obtain ⟨N', h1, h2, h3, h4, h5 | h5⟩ := h
  · rw [if_pos h5.2.1, ← h5.2.1]
  · rw [if_neg (by rw [h5.2]; decide), ← h5.2]
theorem hb_R {α β : Type} {x : Option α} {y : Option β} {f : β → Option β} {Q : α → β → Prop} (h : hb x y Q) (hf : ∀ a b, Q a b → f b = some b) : hb x (Option.bind y f) Q := by
  obtain ⟨a, b, e1, e2, q⟩ := h
  exact ⟨a, b, e1, by rw [e2]; exact hf a b q, q⟩
theorem hb_L {α β : Type} {x : Option α} {y : Option β} {f : α → Option α} {Q : α → β → Prop} (h : hb x y Q) (hf : ∀ a b, Q a b → f a = some a) : hb (Option.bind x f) y Q := by
  obtain ⟨a, b, e1, e2, q⟩ := h
  exact ⟨a, b, by rw [e1]; exact hf a b q, e2, q⟩
theorem drawPoint_eq {m : mB} {n : Nat} (h : m.1 224 0 = i3 n) : FX12_drawPoint 222 m = FX12_draw 222 (i3 n) m := by
  unfold FX12_drawPoint
  show Option.bind (FX12_draw 222 (m.1 224 0) m) _ = _
  rw [h]
  cases FX12_draw 222 (i3 n) m <;> rfl
theorem D_done (ha : a = 4 ∨ a = 15) (h : DS a N c d) (hP : 1 ≤ nP N) : hb (FX1_isDone 185 a 38 c) (FX12_drawsDeed 222 d) (DQ a N c d) := by
  have hh := h
  obtain ⟨⟨g, s, hg, hs⟩, hd, -⟩ := hh
  have hn := g.1.2
  have hl := g.2.1.2
  have hk := s.1.2
  unfold FX1_isDone FX12_drawsDeed
  have ep : FX4_points a c = some (i3 (nP N)) := by
    unfold FX4_points
    rw [hg.1.1, g.1.1]
  rw [ep, ob_some]
  refine hb_bind (D_draw (n := 7) ha h (by omega) (by omega)) (fun r1 s1 ⟨v, hv, e1, e2, h1, z1, w1⟩ => ?_)
  obtain ⟨r1a, c1⟩ := r1
  obtain ⟨s1a, d1⟩ := s1
  dsimp only at e1 e2 h1 z1 w1 ⊢
  subst e1 e2
  have hh1 := h1
  obtain ⟨⟨-, -, hg1, hs1⟩, hd1, -⟩ := hh1
  have pt : ∀ {m : mB}, m.1 224 = N → m.1 224 0 = i3 (nP N) := fun e => by rw [e]; exact g.1.1
  rcases (by omega : v = 0 ∨ v = 1 ∨ v = 2 ∨ v = 3 ∨ v = 4 ∨ v = 5 ∨ v = 6) with e | e | e | e | e | e | e
  · subst e
    rw [if_pos (show i3 0 = 0 from rfl), if_pos (show i3 0 = 0 from rfl), drawPoint_eq (pt hd1)]
    refine hb_bind (D_draw (n := nP N) ha h1 hP (by omega)) (fun r2 s2 ⟨v2, hv2, f1, f2, h2, z2, w2⟩ => ?_)
    obtain ⟨r2a, c2⟩ := r2
    obtain ⟨s2a, d2⟩ := s2
    dsimp only at f1 f2 h2 z2 w2 ⊢
    subst f1 f2
    rw [drawPoint_eq (pt h2.2.1)]
    refine hb_bind (D_draw (n := nP N) ha h2 hP (by omega)) (fun r3 s3 ⟨v3, hv3, k1, k2, h3, z3, w3⟩ => ?_)
    obtain ⟨r3a, c3⟩ := r3
    obtain ⟨s3a, d3⟩ := s3
    dsimp only at k1 k2 h3 z3 w3 ⊢
    subst k1 k2
    unfold FX1_pairTwo
    by_cases q : v2 = v3
    · rw [if_pos (by rw [q]), if_pos (by rw [q]), ob_some]
      exact hb_some (DQ_tr (DQ_no h3) (mx_out.tr z1 (mx_out.tr z2 z3)) (mx_out.tr w1 (mx_out.tr w2 w3)))
    · have q' : ¬ i3 v2 = i3 v3 := by rw [i3_eq (by omega) (by omega)]; exact q
      rw [if_neg q', if_neg q']
      refine hb_R (hb_L (hb_mono (DE_do ha (DE_pair g s hv2 hv3 0) h3) (fun a b w => DQ_tr w (mx_out.tr z1 (mx_out.tr z2 z3)) (mx_out.tr w1 (mx_out.tr w2 w3)))) (fun a b w => DQ_c w)) (fun a b w => DQ_j w)
  · subst e
    rw [if_neg (show ¬ i3 1 = 0 by decide), if_neg (show ¬ i3 1 = 0 by decide), if_pos (show i3 1 = 1 from rfl), if_pos (show i3 1 = 1 from rfl), drawPoint_eq (pt hd1)]
    refine hb_bind (D_draw (n := nP N) ha h1 hP (by omega)) (fun r2 s2 ⟨v2, hv2, f1, f2, h2, z2, w2⟩ => ?_)
    obtain ⟨r2a, c2⟩ := r2
    obtain ⟨s2a, d2⟩ := s2
    dsimp only at f1 f2 h2 z2 w2 ⊢
    subst f1 f2
    exact hb_R (hb_mono (DE_do ha (DE_part g s hv2 0 0) h2) (fun a b w => DQ_tr w (mx_out.tr z1 z2) (mx_out.tr w1 w2))) (fun a b w => DQ_b w)
  · subst e
    rw [if_neg (show ¬ i3 2 = 0 by decide), if_neg (show ¬ i3 2 = 0 by decide), if_neg (show ¬ i3 2 = 1 by decide), if_neg (show ¬ i3 2 = 1 by decide), if_pos (show i3 2 = 2 from rfl), if_pos (show i3 2 = 2 from rfl)]
    have el : ∀ {m : mB}, CG m a N → FX4_links a m = some (i3 (nL N)) := fun q => by unfold FX4_links; rw [q.1.2, g.2.1.1]
    have ed : d1.1 (222 + 2) 1 = i3 (nL N) := by show d1.1 224 1 = _; rw [hd1]; exact g.2.1.1
    rw [el hg1, ob_some, ed]
    by_cases q : nL N = 0
    · rw [q, if_pos (show i3 0 ≤ 0 by decide), if_pos (show i3 0 = 0 from rfl)]
      exact hb_some (DQ_tr (DQ_no h1) z1 w1)
    · rw [if_neg (by show ¬ i3 _ ≤ i3 0; rw [i3_le (by omega) (by omega)]; omega), if_neg (by show ¬ i3 _ = i3 0; rw [i3_eq (by omega) (by omega)]; exact q)]
      unfold FX1_weighOne
      rw [el hg1, ob_some]
      refine hb_L (hb_bind (D_draw (n := nL N) ha h1 (by omega) (by omega)) (fun r2 s2 ⟨v2, hv2, f1, f2, h2, z2, w2⟩ => ?_)) (fun a b w => DQ_i w)
      obtain ⟨r2a, c2⟩ := r2
      obtain ⟨s2a, d2⟩ := s2
      dsimp only at f1 f2 h2 z2 w2 ⊢
      subst f1 f2
      rw [i3_Ladd, i3_Ladd, mx_inb_i3 (by omega) (by omega), mx_chkT, mx_inb_i3 (by omega) (by omega), mx_chkT, i3_toNat (by omega), i3_toNat (by omega)]
      have hl2 := g.2.2.1 v2 hv2
      have eA : d2.1 (222 + 2) (3 + v2) = i3 (nA N v2) := by show d2.1 224 _ = _; rw [h2.2.1]; exact hl2.1
      have eB : d2.1 (222 + 2) (33 + v2) = i3 (nB N v2) := by show d2.1 224 _ = _; rw [h2.2.1]; exact hl2.2.1
      rw [eA, eB]
      refine hb_bind (D_draw (n := 30) ha h2 (by omega) (by omega)) (fun r3 s3 ⟨v3, hv3, k1, k2, h3, z3, w3⟩ => ?_)
      obtain ⟨r3a, c3⟩ := r3
      obtain ⟨s3a, d3⟩ := s3
      dsimp only at k1 k2 h3 z3 w3 ⊢
      subst k1 k2
      rw [mx_letI, C_fromOf_y g h3.1.2.2.1 hv2, C_toOf_y g h3.1.2.2.1 hv2, ob_some, ob_some, i3_succ]
      exact hb_R (hb_mono (DE_do ha (DE_weigh (w := v3 + 1) g s hl2.2.2.1 hl2.2.2.2.1 (by omega) (by omega)) h3) (fun a b w => DQ_tr w (mx_out.tr z1 (mx_out.tr z2 z3)) (mx_out.tr w1 (mx_out.tr w2 w3)))) (fun a b w => DQ_b w)
  · subst e
    rw [if_neg (show ¬ i3 3 = 0 by decide), if_neg (show ¬ i3 3 = 0 by decide), if_neg (show ¬ i3 3 = 1 by decide), if_neg (show ¬ i3 3 = 1 by decide), if_neg (show ¬ i3 3 = 2 by decide), if_neg (show ¬ i3 3 = 2 by decide), if_pos (show i3 3 = 3 from rfl), if_pos (show i3 3 = 3 from rfl), drawPoint_eq (pt hd1)]
    refine hb_bind (D_draw (n := nP N) ha h1 hP (by omega)) (fun r2 s2 ⟨v2, hv2, f1, f2, h2, z2, w2⟩ => ?_)
    obtain ⟨r2a, c2⟩ := r2
    obtain ⟨s2a, d2⟩ := s2
    dsimp only at f1 f2 h2 z2 w2 ⊢
    subst f1 f2
    refine hb_bind (D_draw (n := 60) ha h2 (by omega) (by omega)) (fun r3 s3 ⟨v3, hv3, k1, k2, h3, z3, w3⟩ => ?_)
    obtain ⟨r3a, c3⟩ := r3
    obtain ⟨s3a, d3⟩ := s3
    dsimp only at k1 k2 h3 z3 w3 ⊢
    subst k1 k2
    exact hb_R (hb_mono (DE_do ha (DE_price (w := v3) g hv2 0 (by omega)) h3) (fun a b w => DQ_tr w (mx_out.tr z1 (mx_out.tr z2 z3)) (mx_out.tr w1 (mx_out.tr w2 w3)))) (fun a b w => DQ_b w)
  · subst e
    rw [if_neg (show ¬ i3 4 = 0 by decide), if_neg (show ¬ i3 4 = 0 by decide), if_neg (show ¬ i3 4 = 1 by decide), if_neg (show ¬ i3 4 = 1 by decide), if_neg (show ¬ i3 4 = 2 by decide), if_neg (show ¬ i3 4 = 2 by decide), if_neg (show ¬ i3 4 = 3 by decide), if_neg (show ¬ i3 4 = 3 by decide), if_pos (show i3 4 = 4 from rfl), if_neg (show ¬ 6 ≤ i3 4 by decide), drawPoint_eq (pt hd1)]
    refine hb_bind (D_draw (n := nP N) ha h1 hP (by omega)) (fun r2 s2 ⟨v2, hv2, f1, f2, h2, z2, w2⟩ => ?_)
    obtain ⟨r2a, c2⟩ := r2
    obtain ⟨s2a, d2⟩ := s2
    dsimp only at f1 f2 h2 z2 w2 ⊢
    subst f1 f2
    exact hb_R (hb_mono (DE_do ha (DE_grow g s ha hv2 0 0) h2) (fun a b w => DQ_tr w (mx_out.tr z1 z2) (mx_out.tr w1 w2))) (fun a b w => DQ_b w)
  · subst e
    rw [if_neg (show ¬ i3 5 = 0 by decide), if_neg (show ¬ i3 5 = 0 by decide), if_neg (show ¬ i3 5 = 1 by decide), if_neg (show ¬ i3 5 = 1 by decide), if_neg (show ¬ i3 5 = 2 by decide), if_neg (show ¬ i3 5 = 2 by decide), if_neg (show ¬ i3 5 = 3 by decide), if_neg (show ¬ i3 5 = 3 by decide), if_neg (show ¬ i3 5 = 4 by decide), if_pos (show i3 5 = 5 from rfl), if_neg (show ¬ 6 ≤ i3 5 by decide), drawPoint_eq (pt hd1)]
    refine hb_bind (D_draw (n := nP N) ha h1 hP (by omega)) (fun r2 s2 ⟨v2, hv2, f1, f2, h2, z2, w2⟩ => ?_)
    obtain ⟨r2a, c2⟩ := r2
    obtain ⟨s2a, d2⟩ := s2
    dsimp only at f1 f2 h2 z2 w2 ⊢
    subst f1 f2
    exact hb_R (hb_mono (DE_do ha (DE_grow g s ha hv2 0 0) h2) (fun a b w => DQ_tr w (mx_out.tr z1 z2) (mx_out.tr w1 w2))) (fun a b w => DQ_b w)
  · subst e
    rw [if_neg (show ¬ i3 6 = 0 by decide), if_neg (show ¬ i3 6 = 0 by decide), if_neg (show ¬ i3 6 = 1 by decide), if_neg (show ¬ i3 6 = 1 by decide), if_neg (show ¬ i3 6 = 2 by decide), if_neg (show ¬ i3 6 = 2 by decide), if_neg (show ¬ i3 6 = 3 by decide), if_neg (show ¬ i3 6 = 3 by decide), if_neg (show ¬ i3 6 = 4 by decide), if_neg (show ¬ i3 6 = 5 by decide), if_pos (show 6 ≤ i3 6 by decide)]
    have el : ∀ {m : mB}, CS m a N → FX4_sets a m = some (i3 (nK N)) := fun q => by unfold FX4_sets; rw [q.1.1, s.1.1]
    have ed : d1.1 (222 + 2) 125 = i3 (nK N) := by show d1.1 224 125 = _; rw [hd1]; exact s.1.1
    rw [el hs1, ob_some, ed]
    by_cases q : nK N = 0
    · rw [q, if_pos (show i3 0 ≤ 0 by decide), if_pos (show i3 0 = 0 from rfl)]
      exact hb_some (DQ_tr (DQ_no h1) z1 w1)
    · rw [if_neg (by show ¬ i3 _ ≤ i3 0; rw [i3_le (by omega) (by omega)]; omega), if_neg (by show ¬ i3 _ = i3 0; rw [i3_eq (by omega) (by omega)]; exact q)]
      unfold FX1_crownOne
      rw [el hs1, ob_some]
      refine hb_L (hb_bind (D_draw (n := nK N) ha h1 (by omega) (by omega)) (fun r2 s2 ⟨v2, hv2, f1, f2, h2, z2, w2⟩ => ?_)) (fun a b w => DQ_i w)
      obtain ⟨r2a, c2⟩ := r2
      obtain ⟨s2a, d2⟩ := s2
      dsimp only at f1 f2 h2 z2 w2 ⊢
      subst f1 f2
      refine hb_bind (D_draw (n := 20) ha h2 (by omega) (by omega)) (fun r3 s3 ⟨v3, hv3, k1, k2, h3, z3, w3⟩ => ?_)
      obtain ⟨r3a, c3⟩ := r3
      obtain ⟨s3a, d3⟩ := s3
      dsimp only at k1 k2 h3 z3 w3 ⊢
      subst k1 k2
      exact hb_R (hb_mono (DE_do ha (DE_crown (w := v3) s hv2 0 (by omega)) h3) (fun a b w => DQ_tr w (mx_out.tr z1 (mx_out.tr z2 z3)) (mx_out.tr w1 (mx_out.tr w2 w3)))) (fun a b w => DQ_b w)
end DRAWS
