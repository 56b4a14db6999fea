/-! ===== reading on, on both sides ===== -/
section PRIM
variable {c c' d d' : mB} {n lim p : Nat} {t : Nat → Nat}
theorem hb_some {α β : Type} {a : α} {b : β} {Q : α → β → Prop} (h : Q a b) : hb (some a) (some b) Q := ⟨a, b, rfl, rfl, h⟩
theorem hb_mono {α β : Type} {x : Option α} {y : Option β} {P Q : α → β → Prop} (h : hb x y P) (hp : ∀ a b, P a b → Q a b) : hb x y Q := by
  obtain ⟨a, b, e1, e2, q⟩ := h
  exact ⟨a, b, e1, e2, hp a b q⟩
/-- both stand at the same token, without a fault -/
def PR (c d : mB) (n lim : Nat) (t : Nat → Nat) (p : Nat) : Prop := Tx c n lim t ∧ Ty d n lim t ∧ p ≤ n ∧ TC c (tkn n lim t p) ∧ TM d (tkn n lim t p) ∧ c.1 1 7 = i3 (tst n lim t p) ∧ d.1 222 6 = i3 (tst n lim t p) ∧ c.1 1 4 = i3 (tnx n lim t p) ∧ (tkp n lim t p < min n lim → d.1 222 5 = i3 (tnx n lim t p)) ∧ c.1 1 10 = 0 ∧ d.1 222 10 = 0
theorem tst_le : tst n lim t p ≤ n := by
  unfold tst
  by_cases c0 : min n lim ≤ tkp n lim t p
  · rw [if_pos c0]; omega
  · rw [if_neg c0]; omega
theorem tnx_lt (h : tkp n lim t p < min n lim) : p < tnx n lim t p ∧ tnx n lim t p ≤ n := by
  have hp : p ≤ tkp n lim t p := by unfold tkp; omega
  unfold tnx
  rw [if_neg (by omega)]
  cases ha : isA (t (tkp n lim t p)) with
  | true =>
    rw [if_pos rfl]
    have h1 := chn_pos (t := t) (n := n) (p := tkp n lim t p) (by omega) ha
    have h2 := (chn_ok (t := t) (n := n) (p := tkp n lim t p) (by omega)).1
    omega
  | false =>
    rw [if_neg (by decide)]
    omega
theorem PR_mv {S T : Nat → Nat → Prop} (h : PR c d n lim t p) (zc : mx_out S c c') (zd : mx_out T d d') (hS : ∀ b j, S b j → ¬ (b = 1 ∨ b = 2 ∨ b = 3)) (hT : ∀ b j, T b j → ¬ ((b = 222 ∧ (j = 3 ∨ j = 4 ∨ j = 5 ∨ j = 6 ∨ j = 7 ∨ j = 8 ∨ j = 9 ∨ j = 10 ∨ j = 12)) ∨ b = 223)) : PR c' d' n lim t p := by
  obtain ⟨h1, h2, h3, h4, h5, h6, h7, h8, h9, h10, h11⟩ := h
  have f1 : ∀ j, c'.1 1 j = c.1 1 j := fun j => zc.fld 1 j (fun q => hS 1 j q (Or.inl rfl))
  have l1 : ∀ j, c'.2 1 j = c.2 1 j := fun j => (zc 1 j (fun q => hS 1 j q (Or.inl rfl))).2
  have f2 : ∀ j, (j = 3 ∨ j = 4 ∨ j = 5 ∨ j = 6 ∨ j = 7 ∨ j = 8 ∨ j = 9 ∨ j = 10 ∨ j = 12) → d'.1 222 j = d.1 222 j ∧ d'.2 222 j = d.2 222 j := fun j hj => zd 222 j (fun q => hT 222 j q (Or.inl ⟨rfl, hj⟩))
  refine ⟨Tx_mv h1 zc (fun b j q w => hS b j q (by omega)), Ty_mv h2 zd (fun b j q w => hT b j q (by omega)), h3, TC_mv h4 (f1 5) (f1 6) (f1 8) (l1 9), ?_, by rw [f1]; exact h6, by rw [(f2 6 (by omega)).1]; exact h7, by rw [f1]; exact h8, fun q => by rw [(f2 5 (by omega)).1]; exact h9 q, by rw [f1]; exact h10, by rw [(f2 10 (by omega)).1]; exact h11⟩
  unfold TM
  rw [(f2 7 (by omega)).1, (f2 8 (by omega)).1, (f2 9 (by omega)).1, (f2 12 (by omega)).2]
  exact h5
theorem PR_adv (h : PR c d n lim t p) (hl : tkp n lim t p < min n lim) : hb (FX10_advance 1 c) (FX12_go 222 d) (fun c' d' => PR c' d' n lim t (tnx n lim t p) ∧ mx_out W1 c c' ∧ mx_out W2 d d') := by
  obtain ⟨h1, h2, h3, h4, h5, h6, h7, h8, h9, h10, h11⟩ := h
  obtain ⟨t1, t2⟩ := tnx_lt hl
  have := h1.1
  obtain ⟨c1, e1, a1, a2, a3, a4⟩ := C_adv h1 (by omega) h8
  obtain ⟨d1, e2, b1, b2', b3, b4⟩ := M_go h2 t2 (h9 hl)
  refine ⟨c1, d1, e1, e2, ⟨Tx_mv h1 a4 (fun b j q => by unfold W1 at q; omega), Ty_mv h2 b4 (fun b j q => by unfold W2 at q; omega), t2, a1, b1, a2, b2', a3, b3, ?_, ?_⟩, a4, b4⟩
  · rw [a4.fld 1 10 (by unfold W1; omega)]; exact h10
  · rw [b4.fld 222 10 (by unfold W2; omega)]; exact h11
/-- what the token is -/
def vEnd (c d : mB) : Prop := c.1 1 6 = 0 ∧ (c.1 1 5 = 0 ∧ d.1 222 7 = 0 ∨ c.1 1 5 = 1 ∧ d.1 222 7 = 1)
def vBad (c d : mB) : Prop := c.1 1 6 = 1 ∧ d.1 222 7 = 1
def vTold (c d : mB) (i : Nat) : Prop := i < 22 ∧ c.1 1 6 = i3 (100 + i) ∧ d.1 222 7 = 2 ∧ d.2 222 12 = Int64.ofNat (p27 (wd i))
def vName (c d : mB) (w : List Nat) : Prop := wok w ∧ (∀ i, i < 22 → wd i ≠ w) ∧ c.1 1 6 = 2 ∧ c.2 1 9 = Int64.ofNat (p32 w) ∧ d.1 222 7 = 2 ∧ d.2 222 12 = Int64.ofNat (p27 w)
def vNum (c d : mB) (v : Nat) : Prop := v < 1000 ∧ c.1 1 6 = 3 ∧ c.1 1 8 = i3 v ∧ d.1 222 7 = 3 ∧ d.1 222 8 = i3 v
def vSign (c d : mB) (v : Nat) : Prop := isG v = true ∧ c.1 1 6 = i3 v ∧ d.1 222 7 = 4 ∧ d.1 222 9 = i3 v
theorem PR_view (h : PR c d n lim t p) : (vEnd c d ∧ min n lim ≤ tkp n lim t p) ∨ (tkp n lim t p < min n lim ∧ (vBad c d ∨ (∃ i, vTold c d i) ∨ (∃ w, vName c d w) ∨ (∃ v, vNum c d v) ∨ ∃ v, vSign c d v)) := by
  obtain ⟨h1, h2, h3, h4, h5, -⟩ := h
  by_cases c0 : min n lim ≤ tkp n lim t p
  · left
    refine ⟨?_, c0⟩
    unfold tkn at h4 h5
    rw [if_pos c0] at h4 h5
    by_cases c1 : lim < n
    · rw [if_pos c1] at h4 h5
      rcases h4 with q | q | q | q | q | q
      · exact absurd q.1 (by simp)
      · rcases h5 with r | r | r | r | r | r
        · exact absurd r.1 (by simp)
        · exact ⟨q.2.1, Or.inr ⟨q.2.2, r.2⟩⟩
        all_goals exact absurd r.1 (by simp)
      all_goals exact absurd q.1 (by simp)
    · rw [if_neg c1] at h4 h5
      rcases h4 with q | q | q | q | q | q
      · rcases h5 with r | r | r | r | r | r
        · exact ⟨q.2.1, Or.inl ⟨q.2.2, r.2⟩⟩
        all_goals exact absurd r.1 (by simp)
      all_goals exact absurd q.1 (by simp)
  · right
    refine ⟨by omega, ?_⟩
    have hk : 2 ≤ (tkn n lim t p).1 := by
      unfold tkn ckt
      rw [if_neg c0]
      split
      · split
        · simp
        · split <;> simp
      · split <;> simp
    generalize hτ : tkn n lim t p = τ at h4 h5 hk
    rcases h4 with q | q | q | q | q | q
    · omega
    · omega
    · rcases h5 with r | r | r | r | r | r
      · omega
      · omega
      · exact Or.inl ⟨q.2, r.2⟩
      all_goals omega
    · rcases h5 with r | r | r | r | r | r
      · omega
      · omega
      · omega
      · have k6 := q.2.2.2
        unfold kdw at k6
        cases e : tix τ.2.1 with
        | none =>
          rw [e] at k6
          refine Or.inr (Or.inr (Or.inl ⟨τ.2.1, q.2.1, fun i hi w => ?_, k6, q.2.2.1, r.2.2.2, r.2.2.1⟩))
          have := ff_none.mp e i hi
          rw [decide_eq_false_iff_not] at this
          exact this w
        | some i =>
          rw [e] at k6
          obtain ⟨a1, a2, -⟩ := ff_some.mp e
          rw [decide_eq_true_eq] at a2
          refine Or.inr (Or.inl ⟨i, a1, k6, r.2.2.2, ?_⟩)
          rw [a2]; exact r.2.2.1
      · omega
      · omega
    · rcases h5 with r | r | r | r | r | r
      · omega
      · omega
      · omega
      · omega
      · exact Or.inr (Or.inr (Or.inr (Or.inl ⟨τ.2.2, q.2.2.2, q.2.1, q.2.2.1, r.2.1, r.2.2.1⟩)))
      · omega
    · rcases h5 with r | r | r | r | r | r
      · omega
      · omega
      · omega
      · omega
      · omega
      · exact Or.inr (Or.inr (Or.inr (Or.inr ⟨τ.2.2, q.2.2, q.2.1, r.2.1, r.2.2.1⟩)))
/-- the reference's told words, by the class's numbers -/
def mi (k : Nat) : Nat := if k = 2 then 4 else if k = 3 then 2 else if k = 4 then 5 else if k = 5 then 6 else if k = 6 then 3 else k
theorem M_wordOf (d : mB) : ∀ k, k < 22 → FX12_wordOf (i3 k) d = some (Int64.ofNat (p27 (wd (mi k)))) := by
  intro k hk
  rcases (by omega : k = 0 ∨ k = 1 ∨ k = 2 ∨ k = 3 ∨ k = 4 ∨ k = 5 ∨ k = 6 ∨ k = 7 ∨ k = 8 ∨ k = 9 ∨ k = 10 ∨ k = 11 ∨ k = 12 ∨ k = 13 ∨ k = 14 ∨ k = 15 ∨ k = 16 ∨ k = 17 ∨ k = 18 ∨ k = 19 ∨ k = 20 ∨ k = 21) with e | e | e | e | e | e | e | e | e | e | e | e | e | e | e | e | e | e | e | e | e | e <;> subst e <;> rfl
theorem mi_lt : ∀ k, k < 22 → mi k < 22 := by decide +kernel
theorem M_isWord_n (k : Nat) (h : d.1 222 7 ≠ 2) : FX12_isWord 222 (i3 k) d = some 0 := by
  unfold FX12_isWord
  rw [if_neg h]
theorem M_isWord_w {k : Nat} (hk : k < 22) {w : List Nat} (hw7 : wok w) (h7 : d.1 222 7 = 2) (h12 : d.2 222 12 = Int64.ofNat (p27 w)) : FX12_isWord 222 (i3 k) d = some (b2 (decide (w = wd (mi k)))) := by
  unfold FX12_isWord
  rw [if_pos h7, M_wordOf d k hk, ob_some, h12]
  by_cases e : w = wd (mi k)
  · rw [if_pos ((lgz _ _).mpr (by rw [e])), decide_eq_true e]; rfl
  · rw [if_neg (fun q => e ((w27_eq hw7 (wd_ok _ (mi_lt k hk))).mp ((lgz _ _).mp q))), decide_eq_false e]; rfl
theorem M_isName_n (h : d.1 222 7 ≠ 2) : FX12_isName 222 d = some 0 := by
  unfold FX12_isName
  rw [if_neg h]
theorem mi_on : ∀ i, i < 22 → ∃ k, k < 22 ∧ mi k = i := by decide +kernel
theorem M_isName_w {w : List Nat} (hw7 : wok w) (h7 : d.1 222 7 = 2) (h12 : d.2 222 12 = Int64.ofNat (p27 w)) : (FX12_isName 222 d = some 1 ∧ ∀ i, i < 22 → wd i ≠ w) ∨ (FX12_isName 222 d = some 0 ∧ ¬ ∀ i, i < 22 → wd i ≠ w) := by
  have key := lp_all (L := fun fu y => FX12_isName_L12 222 d fu y) i3 (n := 22) (fun k => wd (mi k) ≠ w) (0 : Int32) (fun fu => by
      show FX12_isName_L12 222 d (fu + 1) (i3 22) = _
      rw [FX12_isName_L12]
      rfl) (fun fu k hk _ => by
      show (_ ∧ FX12_isName_L12 222 d (fu + 1) (i3 k) = FX12_isName_L12 222 d fu (i3 (k + 1))) ∨ (_ ∧ FX12_isName_L12 222 d (fu + 1) (i3 k) = some (.inl 0))
      rw [FX12_isName_L12, if_neg (by show ¬ i3 21 < i3 k; rw [i3_lt (by omega) (by omega)]; omega), M_wordOf d k hk, ob_some, h12, mx_letI, i3_succ]
      by_cases e : w = wd (mi k)
      · rw [if_pos ((lgz _ _).mpr (by rw [e]))]
        exact Or.inr ⟨fun q => q e.symm, rfl⟩
      · rw [if_neg (fun q => e ((w27_eq hw7 (wd_ok _ (mi_lt k hk))).mp ((lgz _ _).mp q)))]
        exact Or.inl ⟨fun q => e q.symm, rfl⟩) mx_FU (FU_lt (by omega))
  unfold FX12_isName
  rw [if_pos h7]
  show (Option.bind (FX12_isName_L12 222 d mx_FU (i3 0)) _ = _ ∧ _) ∨ (Option.bind (FX12_isName_L12 222 d mx_FU (i3 0)) _ = _ ∧ _)
  rcases key with ⟨e, h⟩ | ⟨e, h⟩
  · left
    rw [e, ob_some]
    refine ⟨rfl, fun i hi => ?_⟩
    obtain ⟨k, hk, rfl⟩ := mi_on i hi
    exact h k hk
  · right
    rw [e, ob_some]
    exact ⟨rfl, fun q => h (fun k hk => q _ (mi_lt k hk))⟩
theorem M_isName_y {w : List Nat} (h : vName c d w) : FX12_isName 222 d = some 1 := by
  rcases M_isName_w h.1 h.2.2.2.2.1 h.2.2.2.2.2 with q | q
  · exact q.1
  · exact absurd h.2.1 q.2
theorem M_isName_t {i : Nat} (h : vTold c d i) : FX12_isName 222 d = some 0 := by
  rcases M_isName_w (wd_ok i h.1) h.2.2.1 h.2.2.2 with q | q
  · exact absurd rfl (q.2 i h.1)
  · exact q.1
theorem M_isSign_n (x : Int32) (h : d.1 222 7 ≠ 4) : FX12_isSign 222 x d = some 0 := by
  unfold FX12_isSign
  rw [if_neg h]
theorem M_isSign_y {x v : Nat} (hx : x < 256) (hv : v < 256) (h : d.1 222 7 = 4) (h9 : d.1 222 9 = i3 v) : FX12_isSign 222 (i3 x) d = some (b2 (decide (v = x))) := by
  unfold FX12_isSign
  rw [if_pos h, h9]
  by_cases e : v = x
  · rw [if_pos (by rw [e]), decide_eq_true e]; rfl
  · rw [if_neg (by rw [i3_eq (by omega) (by omega)]; exact e), decide_eq_false e]; rfl
theorem isG_lt {v : Nat} (h : isG v = true) : v = 59 ∨ v = 60 ∨ v = 61 ∨ v = 62 ∨ v = 40 ∨ v = 41 := by
  unfold isG at h
  simp at h
  omega
/-- both found the same fault -/
def FL (c d : mB) : Prop := c.1 1 10 = d.1 222 10 ∧ c.1 1 11 = d.1 222 11
def WF : Nat → Nat → Prop := fun b j => b = 1 ∧ (j = 10 ∨ j = 11)
def WG : Nat → Nat → Prop := fun b j => b = 222 ∧ (j = 10 ∨ j = 11)
theorem PR_fail (h : PR c d n lim t p) {x : Int32} (hx : d.1 222 7 = 1 → x = 1) : hb (FX10_fail 1 x c) (FX12_bad 222 x d) (fun r s => r.1 = 0 ∧ s.1 = 0 ∧ FL r.2 s.2 ∧ mx_out WF c r.2 ∧ mx_out WG d s.2) := by
  obtain ⟨-, -, -, -, -, h6, h7, -, -, h10, -⟩ := h
  have zc : mx_out WF c (mx_up (mx_up c.1 1 10 x) 1 11 (mx_up c.1 1 10 x 1 7), c.2) := mx_out_up (mx_out_up mx_out.rf rfl ⟨rfl, Or.inl rfl⟩) rfl ⟨rfl, Or.inr rfl⟩
  have zd : mx_out WG d (mx_up (mx_up d.1 222 10 x) 222 11 (mx_up d.1 222 10 x 222 6), d.2) := mx_out_up (mx_out_up mx_out.rf rfl ⟨rfl, Or.inl rfl⟩) rfl ⟨rfl, Or.inr rfl⟩
  have e2 : FX12_bad 222 x d = some (0, (mx_up (mx_up d.1 222 10 x) 222 11 (mx_up d.1 222 10 x 222 6), d.2)) := by
    unfold FX12_bad
    by_cases c1 : d.1 222 7 = 1
    · rw [if_pos c1, hx c1]; rfl
    · rw [if_neg c1]; rfl
  refine ⟨(0, (mx_up (mx_up c.1 1 10 x) 1 11 (mx_up c.1 1 10 x 1 7), c.2)), (0, (mx_up (mx_up d.1 222 10 x) 222 11 (mx_up d.1 222 10 x 222 6), d.2)), ?_, e2, rfl, rfl, ⟨?_, ?_⟩, zc, zd⟩
  · unfold FX10_fail
    rw [if_pos h10]
    rfl
  · show mx_up (mx_up c.1 1 10 x) 1 11 (mx_up c.1 1 10 x 1 7) 1 10 = mx_up (mx_up d.1 222 10 x) 222 11 (mx_up d.1 222 10 x 222 6) 222 10
    rw [up_at, if_neg (by omega), up_at, if_pos rfl, up_at, if_neg (by omega), up_at, if_pos rfl]
  · show mx_up (mx_up c.1 1 10 x) 1 11 (mx_up c.1 1 10 x 1 7) 1 11 = mx_up (mx_up d.1 222 10 x) 222 11 (mx_up d.1 222 10 x 222 6) 222 11
    rw [mx_up_self, mx_up_self, up_at, if_neg (by omega), up_at, if_neg (by omega), h6, h7]
end PRIM
