/-! ===== kinds of tokens, numbers, names, signs ===== -/
section PRIMB
variable {c c' d d' : mB} {n lim p : Nat} {t : Nat → Nat}
def U1 : Nat → Nat → Prop := fun b j => b = 1 ∧ (j = 4 ∨ 6 ≤ j)
def U2 : Nat → Nat → Prop := fun b j => b = 222 ∧ 5 ≤ j ∧ j ≤ 13
theorem W1_U {m m' : mB} (z : mx_out W1 m m') : mx_out U1 m m' := z.sub (fun b j q => by unfold W1 at q; unfold U1; omega)
theorem W2_U {m m' : mB} (z : mx_out W2 m m') : mx_out U2 m m' := z.sub (fun b j q => by unfold W2 at q; unfold U2; omega)
theorem WF_U {m m' : mB} (z : mx_out WF m m') : mx_out U1 m m' := z.sub (fun b j q => by unfold WF at q; unfold U1; omega)
theorem WG_U {m m' : mB} (z : mx_out WG m m') : mx_out U2 m m' := z.sub (fun b j q => by unfold WG at q; unfold U2; omega)
/-- a step that fails, one that succeeds -/
def RF (c d c' d' : mB) : Prop := FL c' d' ∧ mx_out U1 c c' ∧ mx_out U2 d d'
def RS (c d : mB) (n lim : Nat) (t : Nat → Nat) (p : Nat) (c' d' : mB) (p' : Nat) : Prop := PR c' d' n lim t p' ∧ p < p' ∧ mx_out U1 c c' ∧ mx_out U2 d d'
theorem PR_go (h : PR c d n lim t p) (hl : tkp n lim t p < min n lim) : hb (FX10_advance 1 c) (FX12_go 222 d) (fun c' d' => RS c d n lim t p c' d' (tnx n lim t p)) := hb_mono (PR_adv h hl) (fun a b q => ⟨q.1, (tnx_lt hl).1, W1_U q.2.1, W2_U q.2.2⟩)
theorem PR_no (h : PR c d n lim t p) {x : Int32} (hx : d.1 222 7 = 1 → x = 1) : ∃ c' d', FX10_fail 1 x c = some (0, c') ∧ FX12_bad 222 x d = some (0, d') ∧ RF c d c' d' := by
  obtain ⟨⟨r1, c1⟩, ⟨s1, d1⟩, e1, e2, h1, h2, h3, h4, h5⟩ := PR_fail h hx
  dsimp only at h1 h2 h3 h4 h5
  subst h1 h2
  exact ⟨c1, d1, e1, e2, h3, WF_U h4, WG_U h5⟩
theorem PR_isNum (h : PR c d n lim t p) : (∃ v, vNum c d v ∧ tkp n lim t p < min n lim) ∨ (c.1 1 6 ≠ 3 ∧ d.1 222 7 ≠ 3) := by
  rcases PR_view h with ⟨⟨q1, q2⟩, -⟩ | ⟨hl, ⟨q1, q2⟩ | ⟨i, q0, q1, q2, -⟩ | ⟨w, -, -, q1, -, q2, -⟩ | ⟨v, hv⟩ | ⟨v, q0, q1, q2, -⟩⟩
  · right
    refine ⟨by rw [q1]; decide, ?_⟩
    rcases q2 with q2 | q2 <;> rw [q2.2] <;> decide
  · right; rw [q1, q2]; exact ⟨by decide, by decide⟩
  · right; rw [q1, q2]; exact ⟨by show ¬ _ = i3 3; rw [i3_eq (by omega) (by omega)]; omega, by decide⟩
  · right; rw [q1, q2]; exact ⟨by decide, by decide⟩
  · exact Or.inl ⟨v, hv, hl⟩
  · right
    have := isG_lt q0
    rw [q1, q2]; exact ⟨by show ¬ _ = i3 3; rw [i3_eq (by omega) (by omega)]; omega, by decide⟩
theorem PR_isName (h : PR c d n lim t p) : (∃ w, vName c d w ∧ tkp n lim t p < min n lim ∧ FX12_isName 222 d = some 1) ∨ (c.1 1 6 ≠ 2 ∧ FX12_isName 222 d = some 0) := by
  rcases PR_view h with ⟨⟨q1, q2⟩, -⟩ | ⟨hl, ⟨q1, q2⟩ | ⟨i, hi⟩ | ⟨w, hw7⟩ | ⟨v, -, q1, -, q2, -⟩ | ⟨v, q0, q1, q2, -⟩⟩
  · right
    refine ⟨by rw [q1]; decide, M_isName_n ?_⟩
    rcases q2 with q2 | q2 <;> rw [q2.2] <;> decide
  · right; exact ⟨by rw [q1]; decide, M_isName_n (by rw [q2]; decide)⟩
  · right; exact ⟨by rw [hi.2.1]; show ¬ _ = i3 2; rw [i3_eq (by have := hi.1; omega) (by omega)]; omega, M_isName_t hi⟩
  · exact Or.inl ⟨w, hw7, hl, M_isName_y hw7⟩
  · right; exact ⟨by rw [q1]; decide, M_isName_n (by rw [q2]; decide)⟩
  · right
    have := isG_lt q0
    exact ⟨by rw [q1]; show ¬ _ = i3 2; rw [i3_eq (by omega) (by omega)]; omega, M_isName_n (by rw [q2]; decide)⟩
theorem PR_isSign (h : PR c d n lim t p) {x : Nat} (hx : isG x = true) : (c.1 1 6 = i3 x ∧ FX12_isSign 222 (i3 x) d = some 1 ∧ tkp n lim t p < min n lim ∧ d.1 222 7 = 4 ∧ d.1 222 9 = i3 x) ∨ (c.1 1 6 ≠ i3 x ∧ FX12_isSign 222 (i3 x) d = some 0) := by
  have hx2 := isG_lt hx
  rcases PR_view h with ⟨⟨q1, q2⟩, -⟩ | ⟨hl, ⟨q1, q2⟩ | ⟨i, q0, q1, q2, -⟩ | ⟨w, -, -, q1, -, q2, -⟩ | ⟨v, -, q1, -, q2, -⟩ | ⟨v, q0, q1, q2, q3⟩⟩
  · right
    refine ⟨by rw [q1]; show ¬ i3 0 = _; rw [i3_eq (by omega) (by omega)]; omega, M_isSign_n _ ?_⟩
    rcases q2 with q2 | q2 <;> rw [q2.2] <;> decide
  · right; exact ⟨by rw [q1]; show ¬ i3 1 = _; rw [i3_eq (by omega) (by omega)]; omega, M_isSign_n _ (by rw [q2]; decide)⟩
  · right; exact ⟨by rw [q1, Ne, i3_eq (by omega) (by omega)]; omega, M_isSign_n _ (by rw [q2]; decide)⟩
  · right; exact ⟨by rw [q1]; show ¬ i3 2 = _; rw [i3_eq (by omega) (by omega)]; omega, M_isSign_n _ (by rw [q2]; decide)⟩
  · right; exact ⟨by rw [q1]; show ¬ i3 3 = _; rw [i3_eq (by omega) (by omega)]; omega, M_isSign_n _ (by rw [q2]; decide)⟩
  · have := isG_lt q0
    have e := M_isSign_y (d := d) (x := x) (v := v) (by omega) (by omega) q2 q3
    by_cases c0 : v = x
    · rw [c0] at q1 q3 e
      rw [decide_eq_true rfl] at e
      exact Or.inl ⟨q1, e, hl, q2, q3⟩
    · rw [decide_eq_false c0] at e
      exact Or.inr ⟨by rw [q1, Ne, i3_eq (by omega) (by omega)]; exact c0, e⟩
theorem PR_isWord (h : PR c d n lim t p) {k : Nat} (hk : k < 22) : (c.1 1 6 = i3 (100 + mi k) ∧ FX12_isWord 222 (i3 k) d = some 1 ∧ tkp n lim t p < min n lim ∧ d.1 222 7 = 2) ∨ (c.1 1 6 ≠ i3 (100 + mi k) ∧ FX12_isWord 222 (i3 k) d = some 0) := by
  have hm := mi_lt k hk
  rcases PR_view h with ⟨⟨q1, q2⟩, -⟩ | ⟨hl, ⟨q1, q2⟩ | ⟨i, q0, q1, q2, q3⟩ | ⟨w, w1, w2, q1, -, q2, q3⟩ | ⟨v, -, q1, -, q2, -⟩ | ⟨v, q0, q1, q2, q3⟩⟩
  · right
    refine ⟨by rw [q1]; show ¬ i3 0 = _; rw [i3_eq (by omega) (by omega)]; omega, M_isWord_n _ ?_⟩
    rcases q2 with q2 | q2 <;> rw [q2.2] <;> decide
  · right; exact ⟨by rw [q1]; show ¬ i3 1 = _; rw [i3_eq (by omega) (by omega)]; omega, M_isWord_n _ (by rw [q2]; decide)⟩
  · have e := M_isWord_w hk (wd_ok i q0) q2 q3
    by_cases c0 : i = mi k
    · rw [decide_eq_true (by rw [c0])] at e
      exact Or.inl ⟨by rw [q1, c0], e, hl, q2⟩
    · rw [decide_eq_false (fun q => c0 (wd_inj i q0 _ hm q))] at e
      exact Or.inr ⟨by rw [q1, Ne, i3_eq (by omega) (by omega)]; omega, e⟩
  · have e := M_isWord_w hk w1 q2 q3
    rw [decide_eq_false (fun q => w2 _ hm q.symm)] at e
    exact Or.inr ⟨by rw [q1]; show ¬ i3 2 = _; rw [i3_eq (by omega) (by omega)]; omega, e⟩
  · right; exact ⟨by rw [q1]; show ¬ i3 3 = _; rw [i3_eq (by omega) (by omega)]; omega, M_isWord_n _ (by rw [q2]; decide)⟩
  · have := isG_lt q0
    right; exact ⟨by rw [q1, Ne, i3_eq (by omega) (by omega)]; omega, M_isWord_n _ (by rw [q2]; decide)⟩
/-- a number is read -/
theorem PR_num (h : PR c d n lim t p) {a b : Nat} (ha : a < 1000) (hb' : b < 1000) : hb (FX10_takeNumber 1 (i3 a) (i3 b) c) (FX12_readNumber 222 (i3 a) (i3 b) d) (fun r s => (∃ v p', a ≤ v ∧ v ≤ b ∧ r.1 = i3 v ∧ s.1 = 1 ∧ s.2.1 222 13 = i3 v ∧ RS c d n lim t p r.2 s.2 p') ∨ (r.1 = -1 ∧ s.1 = 0 ∧ RF c d r.2 s.2)) := by
  unfold FX10_takeNumber FX12_readNumber
  have no : ∀ x : Int32, (d.1 222 7 = 1 → x = 1) → hb (Option.bind (FX10_fail 1 x c) (fun r => some ((-1 : Int32), r.2))) (Option.bind (FX12_bad 222 x d) (fun r => mx_chk (mx_b01 r.1) (some (r.1, r.2)))) (fun r s => (∃ v p', a ≤ v ∧ v ≤ b ∧ r.1 = i3 v ∧ s.1 = 1 ∧ s.2.1 222 13 = i3 v ∧ RS c d n lim t p r.2 s.2 p') ∨ (r.1 = -1 ∧ s.1 = 0 ∧ RF c d r.2 s.2)) := by
    intro x hx
    obtain ⟨c1, d1, e1, e2, q⟩ := PR_no h hx
    rw [e1, e2, ob_some, ob_some]
    exact hb_some (Or.inr ⟨rfl, rfl, q⟩)
  rcases PR_isNum h with ⟨v, ⟨v1, v2, v3, v4, v5⟩, hl⟩ | ⟨q1, q2⟩
  · rw [if_pos v2, if_pos v4, v3, v5]
    unfold FX12_isIn
    have h7 : d.1 222 7 = 1 → (2 : Int32) = 1 := fun q => by rw [v4] at q; exact absurd q (by decide)
    by_cases c1 : v < a
    · have q : i3 v < i3 a := by rw [i3_lt (by omega) (by omega)]; exact c1
      rw [if_pos q, if_pos q, ob_some, if_pos rfl]
      exact no 2 h7
    · have q : ¬ i3 v < i3 a := by rw [i3_lt (by omega) (by omega)]; exact c1
      rw [if_neg q, if_neg q]
      by_cases c2 : v ≤ b
      · have q1 : i3 v ≤ i3 b := by rw [i3_le (by omega) (by omega)]; exact c2
        have q2 : ¬ i3 b < i3 v := by rw [i3_lt (by omega) (by omega)]; omega
        rw [if_pos q1, if_neg q2, ob_some, if_neg (by decide), mx_letI, mx_letI]
        have z : mx_out (fun b j => b = 222 ∧ j = 13) d (mx_up d.1 222 13 (i3 v), d.2) := mx_out_up mx_out.rf rfl ⟨rfl, rfl⟩
        have h' : PR c (mx_up d.1 222 13 (i3 v), d.2) n lim t p := PR_mv h (S := fun _ _ => False) mx_out.rf z (fun b j q => q.elim) (fun b j q => by omega)
        obtain ⟨c1, d1, e1, e2, r1, r2, r3, r4⟩ := PR_go h' hl
        rw [e1, e2, ob_some, ob_some]
        refine hb_some (Or.inl ⟨v, _, by omega, c2, rfl, rfl, ?_, r1, r2, r3, mx_out.tr (z.sub (fun b j q => by unfold U2; omega)) r4⟩)
        obtain ⟨c1', d1', e1', e2', -, -, w⟩ := PR_adv h' hl
        rw [e2] at e2'
        cases e2'
        show d1.1 222 13 = _
        rw [w.fld 222 13 (by unfold W2; omega)]
        exact mx_up_self d.1 222 13 _
      · have q1 : ¬ i3 v ≤ i3 b := by rw [i3_le (by omega) (by omega)]; exact c2
        have q2 : i3 b < i3 v := by rw [i3_lt (by omega) (by omega)]; omega
        rw [if_neg q1, if_pos q2, ob_some, if_pos rfl]
        exact no 2 h7
  · rw [if_neg q1, if_neg q2]
    exact no 1 (fun _ => rfl)
/-- a sign is read -/
theorem PR_take (h : PR c d n lim t p) {x : Nat} (hx : isG x = true) : hb (FX10_take 1 (i3 x) c) (Option.bind (FX12_isSign 222 (i3 x) d) (fun r1 => if r1 = 0 then Option.bind (FX12_bad 222 1 d) (fun r4 => mx_chk (mx_b01 r4.1) (some (r4.1, r4.2))) else Option.bind (FX12_go 222 d) (fun r3 => some (1, r3)))) (fun r s => (∃ p', r.1 = 1 ∧ s.1 = 1 ∧ RS c d n lim t p r.2 s.2 p') ∨ (r.1 = 0 ∧ s.1 = 0 ∧ RF c d r.2 s.2)) := by
  unfold FX10_take
  rcases PR_isSign h hx with ⟨q1, q2, hl, -⟩ | ⟨q1, q2⟩
  · rw [if_pos q1, q2, ob_some, if_neg (by decide)]
    obtain ⟨c1, d1, e1, e2, r⟩ := PR_go h hl
    rw [e1, e2, ob_some, ob_some]
    exact hb_some (Or.inl ⟨_, rfl, rfl, r⟩)
  · rw [if_neg q1, q2, ob_some, if_pos rfl]
    obtain ⟨c1, d1, e1, e2, q⟩ := PR_no h (x := 1) (fun _ => rfl)
    rw [e1, e2, ob_some, ob_some]
    exact hb_some (Or.inr ⟨rfl, rfl, q⟩)
theorem PR_readEnd (h : PR c d n lim t p) : hb (FX10_take 1 59 c) (FX12_readEnd 222 d) (fun r s => (∃ p', r.1 = 1 ∧ s.1 = 1 ∧ RS c d n lim t p r.2 s.2 p') ∨ (r.1 = 0 ∧ s.1 = 0 ∧ RF c d r.2 s.2)) := PR_take (x := 59) h (by decide)
/-- the names on both sides -/
def Nms (c d : mB) (a q k : Nat) : Prop := ∀ i, i < k → nr (c.2 (a + 1) i) (d.2 q i)
theorem nr_eq {x y : Int64} (h : nr x y) {w : List Nat} (hw7 : wok w) : (x = Int64.ofNat (p32 w)) ↔ (y = Int64.ofNat (p27 w)) := by
  obtain ⟨u, hu, rfl, rfl⟩ := h
  rw [w32_eq hu hw7, w27_eq hu hw7]
theorem C_pointNamed {a k : Nat} (hk : k ≤ 10) (h0 : c.1 a 0 = i3 k) (W : Int64) : FX4_pointNamed a W c = some (oi (ff (fun i => decide (c.2 (a + 1) i = W)) k)) := by
  have key : FX4_pointNamed_L2 a W c mx_FU (i3 0) = some (osum (ff (fun i => decide (c.2 (a + 1) i = W)) k)) := by
    refine lp_ff (L := fun fu y => FX4_pointNamed_L2 a W c fu y) (n := k) _ osum ?_ ?_ ?_ mx_FU (FU_lt (by omega))
    · intro fu
      show FX4_pointNamed_L2 a W c (fu + 1) (i3 k) = _
      rw [FX4_pointNamed_L2, h0, if_pos (by rw [i3_le (by omega) (by omega)]; omega)]
      rfl
    · intro fu i hi hP
      show FX4_pointNamed_L2 a W c (fu + 1) (i3 i) = _
      rw [FX4_pointNamed_L2, h0, if_neg (by rw [i3_le (by omega) (by omega)]; omega), if_neg (by show ¬ i3 10 ≤ _; rw [i3_le (by omega) (by omega)]; omega), mx_inb_i3 (by omega) (by omega), mx_chkT, i3_toNat (by omega), if_pos ((lgz _ _).mpr (of_decide_eq_true hP))]
      rfl
    · intro fu i hi hP
      show FX4_pointNamed_L2 a W c (fu + 1) (i3 i) = FX4_pointNamed_L2 a W c fu (i3 (i + 1))
      rw [FX4_pointNamed_L2, h0, if_neg (by rw [i3_le (by omega) (by omega)]; omega), if_neg (by show ¬ i3 10 ≤ _; rw [i3_le (by omega) (by omega)]; omega), mx_inb_i3 (by omega) (by omega), mx_chkT, i3_toNat (by omega), if_neg (fun q => of_decide_eq_false hP ((lgz _ _).mp q)), mx_letI, i3_succ]
  unfold FX4_pointNamed
  show Option.bind (FX4_pointNamed_L2 a W c mx_FU (i3 0)) _ = _
  rw [key, ob_some]
  exact osum_oi _
theorem M_findIn {q k : Nat} (hk : k ≤ 10) (W : Int64) : FX12_findIn q 10 0 (i3 k) W d = some (oi (ff (fun i => decide (d.2 q i = W)) k)) := by
  have key : FX12_findIn_L3 q 10 0 (i3 k) W d mx_FU (i3 0) = some (osum (ff (fun i => decide (d.2 q i = W)) k)) := by
    have e0 : ∀ i, (0 : Int32) + i3 i = i3 i := fun i => by
      have := i3_Ladd i 0
      rw [Nat.zero_add] at this
      exact this
    refine lp_ff (L := fun fu y => FX12_findIn_L3 q 10 0 (i3 k) W d fu y) (n := k) _ osum ?_ ?_ ?_ mx_FU (FU_lt (by omega))
    · intro fu
      show FX12_findIn_L3 q 10 0 (i3 k) W d (fu + 1) (i3 k) = _
      rw [FX12_findIn_L3, if_pos (by rw [i3_le (by omega) (by omega)]; omega)]
      rfl
    · intro fu i hi hP
      show FX12_findIn_L3 q 10 0 (i3 k) W d (fu + 1) (i3 i) = _
      rw [FX12_findIn_L3, if_neg (by rw [i3_le (by omega) (by omega)]; omega), e0, mx_inb_i3 (by omega) (by omega), mx_chkT, i3_toNat (by omega), if_pos ((lgz _ _).mpr (of_decide_eq_true hP))]
      rfl
    · intro fu i hi hP
      show FX12_findIn_L3 q 10 0 (i3 k) W d (fu + 1) (i3 i) = FX12_findIn_L3 q 10 0 (i3 k) W d fu (i3 (i + 1))
      rw [FX12_findIn_L3, if_neg (by rw [i3_le (by omega) (by omega)]; omega), e0, mx_inb_i3 (by omega) (by omega), mx_chkT, i3_toNat (by omega), if_neg (fun q => of_decide_eq_false hP ((lgz _ _).mp q)), mx_letI, i3_succ]
  unfold FX12_findIn
  show Option.bind (FX12_findIn_L3 q 10 0 (i3 k) W d mx_FU (i3 0)) _ = _
  rw [key, ob_some]
  exact osum_oi _
/-- where a name stands -/
def nix (d : mB) (q k : Nat) (w : List Nat) : Option Nat := ff (fun i => decide (d.2 q i = Int64.ofNat (p27 w))) k
theorem C_named {a q k : Nat} (hk : k ≤ 10) (h0 : c.1 a 0 = i3 k) (hn : Nms c d a q k) {w : List Nat} (hw7 : wok w) : FX4_pointNamed a (Int64.ofNat (p32 w)) c = some (oi (nix d q k w)) := by
  rw [C_pointNamed hk h0]
  congr 2
  exact ff_congr (fun i hi => decide_eq_decide.mpr (nr_eq (hn i hi) hw7))
end PRIMB
