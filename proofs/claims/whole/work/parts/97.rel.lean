/-! ===== class and reference stand for the same ===== -/
section REL
variable {c c' d d' : mB}
def ag (U : Nat → Nat → Prop) (m m' : mB) : Prop := ∀ b j, U b j → m'.1 b j = m.1 b j ∧ m'.2 b j = m.2 b j
theorem ag_of {S U : Nat → Nat → Prop} {m m' : mB} (z : mx_out S m m') (h : ∀ b j, U b j → ¬ S b j) : ag U m m' := fun b j q => z b j (h b j q)
theorem ag_rf {U : Nat → Nat → Prop} {m : mB} : ag U m m := fun _ _ _ => ⟨rfl, rfl⟩
theorem ag_tr {U : Nat → Nat → Prop} {m m1 m2 : mB} (h : ag U m m1) (h' : ag U m1 m2) : ag U m m2 := fun b j q => ⟨(h' b j q).1.trans (h b j q).1, (h' b j q).2.trans (h b j q).2⟩
theorem ag_sub {U V : Nat → Nat → Prop} {m m' : mB} (h : ag U m m') (hs : ∀ b j, V b j → U b j) : ag V m m' := fun b j q => h b j (hs b j q)
theorem ag_cell {U : Nat → Nat → Prop} {m m' : mB} (h : ag U m m') (b : Nat) (hb : ∀ j, U b j) : m'.1 b = m.1 b ∧ m'.2 b = m.2 b := ⟨funext fun j => (h b j (hb j)).1, funext fun j => (h b j (hb j)).2⟩
/-- the tape -/
def TP (c d : mB) : Prop := ∃ n t, Txt c d n t
theorem TP_mv (h : TP c d) (hc : ag (fun b j => (b = 1 ∧ j = 2) ∨ b = 2 ∨ b = 3) c c') (hd : ag (fun b j => (b = 222 ∧ j = 2) ∨ b = 223) d d') : TP c' d' := by
  obtain ⟨n, t, h1, h2, h3, h4, h5⟩ := h
  refine ⟨n, t, h1, by rw [(hc 1 2 (by omega)).1]; exact h2, by rw [(hd 222 2 (by omega)).1]; exact h3, fun j hj => ?_, fun i hi => ?_⟩
  · rw [(hc 2 j (by omega)).1, (hd 223 j (by omega)).1]; exact h4 j hj
  · rw [(hc 3 i (by omega)).2]; exact h5 i hi
/-- the fault -/
def FA (c d : mB) : Prop := c.1 1 10 = d.1 222 10
theorem FA_mv (h : FA c d) (hc : ag (fun b j => b = 1 ∧ j = 10) c c') (hd : ag (fun b j => b = 222 ∧ j = 10) d d') : FA c' d' := by
  unfold FA
  rw [(hc 1 10 ⟨rfl, rfl⟩).1, (hd 222 10 ⟨rfl, rfl⟩).1]
  exact h
/-- the network -/
def NE (c d : mB) : Prop := NR c 4 (d.1 224) (d.2 230)
theorem NE_mv (h : NE c d) (hc : ag (fun b _ => 4 ≤ b ∧ b ≤ 14) c c') (hd : ag (fun b j => (b = 224 ∧ j < 190) ∨ b = 230) d d') : NE c' d' := by
  unfold NE at h ⊢
  rw [(ag_cell hd 230 (fun j => Or.inr rfl)).2]
  exact NR_congr (NR_mem h (fun b q1 q2 => (ag_cell hc b (fun j => by omega)).1) (ag_cell hc 5 (fun j => by omega)).2) (fun x hx => (hd 224 x (by omega)).1) (fun x h1 h2 => (hd 224 x (by omega)).1)
theorem HI_mv (h : HI c d) (hc : ag (fun b _ => 68 ≤ b ∧ b ≤ 168) c c') (hd : ag (fun b j => (b = 224 ∧ j < 125) ∨ b = 230 ∨ b = 227 ∨ (b = 222 ∧ j = 25)) d d') : HI c' d' := by
  obtain ⟨a, k, h1, h2⟩ := h
  exact ⟨a, k, HK_mv h1 (fun b q1 q2 => ag_cell hc b (fun j => by omega)) (fun x hx => (hd 224 x (by omega)).1) (ag_cell hd 227 (fun j => by omega)).1 (ag_cell hd 230 (fun j => by omega)).2, by rw [(hd 222 25 (by omega)).1]; exact h2⟩
/-- a row of points on both sides -/
def RW (P : Nat → Prop) (r q f : Nat) (c d : mB) : Prop := ∃ k g, Ri c r k g ∧ d.1 222 f = i3 k ∧ (∀ i, i < k → d.1 q i = i3 (g i)) ∧ P k ∧ ∀ i j, i < k → j < k → g i = g j → i = j
theorem RW_mv {P : Nat → Prop} {r q f : Nat} (h : RW P r q f c d) (hc : ag (fun b j => (b = r ∧ j = 1) ∨ b = r + 1) c c') (hd : ag (fun b j => (b = 222 ∧ j = f) ∨ b = q) d d') : RW P r q f c' d' := by
  obtain ⟨k, g, ⟨⟨h1, h2⟩, h3⟩, h4, h5, h6⟩ := h
  refine ⟨k, g, ⟨⟨by rw [(hc r 1 (by omega)).1]; exact h1, h2⟩, fun i hi => ?_⟩, by rw [(hd 222 f (by omega)).1]; exact h4, fun i hi => ?_, h6⟩
  · rw [(hc (r + 1) i (by omega)).1]; exact h3 i hi
  · rw [(hd q i (by omega)).1]; exact h5 i hi
def ePA (k : Nat) : Prop := k % 2 = 0
def oFL (k : Nat) : Prop := k = 0 ∨ (3 ≤ k ∧ k % 2 = 1)
/-- what proves not -/
def PF (c d : mB) : Prop := c.1 0 16 = d.1 222 32 ∧ (d.1 222 32 ≠ -1 → c.1 0 17 = d.1 222 33)
theorem PF_mv (h : PF c d) (hc : ag (fun b j => b = 0 ∧ (j = 16 ∨ j = 17)) c c') (hd : ag (fun b j => b = 222 ∧ (j = 32 ∨ j = 33)) d d') : PF c' d' := by
  unfold PF
  rw [(hc 0 16 (by omega)).1, (hc 0 17 (by omega)).1, (hd 222 32 (by omega)).1, (hd 222 33 (by omega)).1]
  exact h
def AD (c d : mB) : Prop := c.1 0 18 = d.1 222 48
theorem AD_mv (h : AD c d) (hc : ag (fun b j => b = 0 ∧ j = 18) c c') (hd : ag (fun b j => b = 222 ∧ j = 48) d d') : AD c' d' := by
  unfold AD
  rw [(hc 0 18 ⟨rfl, rfl⟩).1, (hd 222 48 ⟨rfl, rfl⟩).1]
  exact h
/-- rows of numbers on both sides -/
def RN (r cap q f : Nat) (c d : mB) : Prop := ∃ k, Rl c r cap k ∧ d.1 222 f = i3 k ∧ ∀ i, i < k → c.1 (r + 1) i = d.1 q i
theorem RN_mv {r cap q f : Nat} (h : RN r cap q f c d) (hc : ag (fun b j => (b = r ∧ j = 1) ∨ b = r + 1) c c') (hd : ag (fun b j => (b = 222 ∧ j = f) ∨ b = q) d d') : RN r cap q f c' d' := by
  obtain ⟨k, ⟨h1, h2⟩, h4, h5⟩ := h
  refine ⟨k, ⟨by rw [(hc r 1 (by omega)).1]; exact h1, h2⟩, by rw [(hd 222 f (by omega)).1]; exact h4, fun i hi => ?_⟩
  rw [(hc (r + 1) i (by omega)).1, (hd q i (by omega)).1]; exact h5 i hi
/-- the book that was judged -/
def BK (c d : mB) : Prop := c.1 169 5 = d.1 222 56 ∧ (d.1 222 56 = 0 ∨ d.1 222 56 = 1) ∧ (d.1 222 56 = 1 → c.1 169 6 = d.1 247 0 ∧ c.1 169 7 = d.1 247 1 ∧ c.1 169 8 = d.1 247 2 ∧ c.1 169 9 = d.1 247 3)
theorem BK_mv (h : BK c d) (hc : ag (fun b j => b = 169 ∧ 5 ≤ j) c c') (hd : ag (fun b j => (b = 222 ∧ j = 56) ∨ b = 247) d d') : BK c' d' := by
  unfold BK
  rw [(hc 169 5 (by omega)).1, (hc 169 6 (by omega)).1, (hc 169 7 (by omega)).1, (hc 169 8 (by omega)).1, (hc 169 9 (by omega)).1, (hd 222 56 (by omega)).1, (hd 247 0 (by omega)).1, (hd 247 1 (by omega)).1, (hd 247 2 (by omega)).1, (hd 247 3 (by omega)).1]
  exact h
/-- sayings: roots that stand open after so many parts -/
def stk (f : Nat → Nat) : Nat → List Nat
  | 0 => []
  | i + 1 => i :: (if f i = 0 then stk f i else if f i = 1 then (stk f i).tail else (stk f i).tail.tail)
def cdf (A : Nat → Int32) (i : Nat) : Nat := if A i = 112 then 1 else if A i = 110 ∨ A i = 111 then 2 else 0
/-- a part of the class's saying (rows A, B, W), and the reference's node of the same number -/
def SYP (A B W : Nat → Int32) (R : Rw) (i : Nat) : Prop :=
  (A i = 112 ∧ R (192 + 4 * i) = 1 ∧ ∃ x r, stk (cdf A) i = x :: r ∧ R (193 + 4 * i) = i3 x) ∨
  ((A i = 110 ∧ R (192 + 4 * i) = 3 ∨ A i = 111 ∧ R (192 + 4 * i) = 2) ∧ ∃ y x r, stk (cdf A) i = y :: x :: r ∧ R (193 + 4 * i) = i3 x ∧ R (194 + 4 * i) = i3 y) ∨
  (∃ u v g, 13 ≤ u ∧ u ≤ 21 ∧ A i = i3 (100 + u) ∧ R (192 + 4 * i) = i3 (50 + u) ∧ (u ≤ 14 ∨ (u = 15 ∨ u = 16) ∧ v < nP R ∧ W i = i3 v ∧ R (193 + 4 * i) = i3 v ∨ u = 17 ∧ v ≤ 5 ∧ W i = i3 v ∧ R (193 + 4 * i) = i3 v ∨ 18 ≤ u ∧ v ≤ 999 ∧ (g = 60 ∨ g = 61 ∨ g = 62) ∧ B i = i3 g ∧ R (195 + 4 * i) = i3 g ∧ W i = i3 v ∧ R (194 + 4 * i) = i3 v))
def SYa (c : mB) (a : Nat) (R : Rw) : Prop := (c.1 a 6 = 0 ∧ R 190 = 0) ∨ (c.1 a 6 = 1 ∧ R 190 = 1 ∧ ∃ k tp, k ≤ 40 ∧ c.1 a 4 = i3 k ∧ R 191 = i3 tp ∧ stk (cdf (c.1 (a + 1))) k = [tp] ∧ ∀ i, i < k → SYP (c.1 (a + 1)) (c.1 (a + 2)) (c.1 (a + 3)) R i)
theorem SYa_mv {a : Nat} {R R' : Rw} (h : SYa c a R) (hc : ag (fun b j => (b = a ∧ (j = 4 ∨ j = 6)) ∨ b = a + 1 ∨ b = a + 2 ∨ b = a + 3) c c') (h0 : R' 0 = R 0) (hR : ∀ x, 190 ≤ x → x < 432 → R' x = R x) : SYa c' a R' := by
  unfold SYa
  rw [(hc a 6 (by omega)).1, (hc a 4 (by omega)).1, (ag_cell hc (a + 1) (fun j => by omega)).1, (ag_cell hc (a + 2) (fun j => by omega)).1, (ag_cell hc (a + 3) (fun j => by omega)).1, hR 190 (by omega) (by omega), hR 191 (by omega) (by omega)]
  rcases h with h | ⟨h1, h2, k, tp, h3, h4, h5, h6, h7⟩
  · exact Or.inl h
  · refine Or.inr ⟨h1, h2, k, tp, h3, h4, h5, h6, fun i hi => ?_⟩
    have hP : nP R' = nP R := by unfold nP; rw [h0]
    have := h7 i hi
    unfold SYP at this ⊢
    rw [hR _ (by omega) (by omega), hR _ (by omega) (by omega), hR _ (by omega) (by omega), hR _ (by omega) (by omega), hP]
    exact this
def SY (c d : mB) : Prop := SYa c 174 (d.1 224)
theorem SY_mv (h : SY c d) (hc : ag (fun b j => (b = 174 ∧ (j = 4 ∨ j = 6)) ∨ b = 175 ∨ b = 176 ∨ b = 177) c c') (hd : ag (fun b j => b = 224 ∧ (j = 0 ∨ 190 ≤ j)) d d') : SY c' d' := SYa_mv h hc (hd 224 0 (by omega)).1 (fun x h1 h2 => (hd 224 x (by omega)).1)
/-- images -/
def pix (d : mB) (i : Nat) : Rw := fun x => d.1 226 (432 * i + x)
def PI (c d : mB) : Prop := ∀ i, i < 2 → c.1 (188 + 17 * i) 2 = d.1 233 i ∧ (d.1 233 i = 0 ∨ d.1 233 i = 1) ∧ (d.1 233 i = 1 → NR c (189 + 17 * i) (pix d i) (fun q => d.2 232 (10 * i + q)) ∧ SYa c (200 + 17 * i) (pix d i))
theorem PI_mv (h : PI c d) (hc : ag (fun b _ => 188 ≤ b ∧ b ≤ 221) c c') (hd : ag (fun b _ => b = 226 ∨ b = 232 ∨ b = 233) d d') : PI c' d' := by
  intro i hi
  obtain ⟨h1, h2, h3⟩ := h i hi
  have e : pix d' i = pix d i := by
    unfold pix
    rw [(ag_cell hd 226 (fun j => by omega)).1]
  rw [(hc (188 + 17 * i) 2 (by omega)).1, (hd 233 i (by omega)).1, e, (ag_cell hd 232 (fun j => by omega)).2]
  refine ⟨h1, h2, fun q => ⟨NR_mem (h3 q).1 (fun b q1 q2 => (ag_cell hc b (fun j => by omega)).1) (ag_cell hc _ (fun j => by omega)).2, SYa_mv (h3 q).2 (fun b j w => hc b j (by omega)) rfl (fun _ _ _ => rfl)⟩⟩
def RR (c d : mB) : Prop := TP c d ∧ FA c d ∧ NE c d ∧ HI c d ∧ RW ePA 41 236 29 c d ∧ RW oFL 43 237 30 c d ∧ PF c d ∧ AD c d ∧ RN 66 10 240 45 c d ∧ HV c ∧ BK c d ∧ SY c d ∧ PI c d ∧ RN 186 40 245 51 c d
/-- what the relation speaks of -/
def SC : Nat → Nat → Prop := fun b j => (b = 0 ∧ (j = 16 ∨ j = 17 ∨ j = 18)) ∨ (b = 1 ∧ (j = 2 ∨ j = 10)) ∨ (2 ≤ b ∧ b ≤ 14) ∨ (41 ≤ b ∧ b ≤ 168) ∨ (b = 169 ∧ 5 ≤ j) ∨ (b = 174 ∧ (j = 4 ∨ j = 6)) ∨ (175 ≤ b ∧ b ≤ 177) ∨ (186 ≤ b ∧ b ≤ 221)
def SD : Nat → Nat → Prop := fun b j => (b = 222 ∧ (j = 2 ∨ j = 10 ∨ j = 25 ∨ j = 29 ∨ j = 30 ∨ j = 32 ∨ j = 33 ∨ j = 45 ∨ j = 48 ∨ j = 51 ∨ j = 56)) ∨ b = 223 ∨ b = 224 ∨ b = 226 ∨ b = 227 ∨ b = 230 ∨ b = 232 ∨ b = 233 ∨ b = 236 ∨ b = 237 ∨ b = 240 ∨ b = 245 ∨ b = 247
theorem RR_mv (h : RR c d) (hc : ag SC c c') (hd : ag SD d d') : RR c' d' := by
  obtain ⟨h1, h2, h3, h4, h5, h6, h7, h8, h9, h10, h11, h12, h13, h14⟩ := h
  refine ⟨TP_mv h1 (ag_sub hc (fun b j q => by unfold SC; omega)) (ag_sub hd (fun b j q => by unfold SD; omega)), FA_mv h2 (ag_sub hc (fun b j q => by unfold SC; omega)) (ag_sub hd (fun b j q => by unfold SD; omega)), NE_mv h3 (ag_sub hc (fun b j q => by unfold SC; omega)) (ag_sub hd (fun b j q => by unfold SD; omega)), HI_mv h4 (ag_sub hc (fun b j q => by unfold SC; omega)) (ag_sub hd (fun b j q => by unfold SD; omega)), RW_mv h5 (ag_sub hc (fun b j q => by unfold SC; omega)) (ag_sub hd (fun b j q => by unfold SD; omega)), RW_mv h6 (ag_sub hc (fun b j q => by unfold SC; omega)) (ag_sub hd (fun b j q => by unfold SD; omega)), PF_mv h7 (ag_sub hc (fun b j q => by unfold SC; omega)) (ag_sub hd (fun b j q => by unfold SD; omega)), AD_mv h8 (ag_sub hc (fun b j q => by unfold SC; omega)) (ag_sub hd (fun b j q => by unfold SD; omega)), RN_mv h9 (ag_sub hc (fun b j q => by unfold SC; omega)) (ag_sub hd (fun b j q => by unfold SD; omega)), HV_mv h10 (fun b q1 q2 => (ag_cell hc b (fun j => by unfold SC; omega)).1), BK_mv h11 (ag_sub hc (fun b j q => by unfold SC; omega)) (ag_sub hd (fun b j q => by unfold SD; omega)), SY_mv h12 (ag_sub hc (fun b j q => by unfold SC; omega)) (ag_sub hd (fun b j q => by unfold SD; omega)), PI_mv h13 (ag_sub hc (fun b j q => by unfold SC; omega)) (ag_sub hd (fun b j q => by unfold SD; omega)), RN_mv h14 (ag_sub hc (fun b j q => by unfold SC; omega)) (ag_sub hd (fun b j q => by unfold SD; omega))⟩
end REL
