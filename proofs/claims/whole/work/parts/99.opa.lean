/-! ===== operations: deeds ===== -/
section OPA
variable {c c' d d' : mB}
def Sm (X Y : Option (Int32 × mB)) : Prop := hb X Y (fun r s => r.1 = s.1 ∧ RR r.2 s.2)
def Sv (c : mB) (X : Option Int32) (Y : Option (Int32 × mB)) : Prop := hb X Y (fun r s => r = s.1 ∧ RR c s.2)
theorem two (h : NE c d) (x y : Int32) : (∃ p q, x = i3 p ∧ y = i3 q ∧ p < nP (d.1 224) ∧ q < nP (d.1 224) ∧ p ≠ q ∧ FX11_areTwo 0 x y c = some 1 ∧ FX12_areTwo 222 x y d = some 1) ∨ (FX11_areTwo 0 x y c = some 0 ∧ FX12_areTwo 222 x y d = some 0) := by
  obtain ⟨⟨g, s, hg, hs⟩, -⟩ := h
  have hn := g.1.2
  unfold FX11_areTwo FX12_areTwo
  show (∃ p q, x = i3 p ∧ y = i3 q ∧ p < nP (d.1 224) ∧ q < nP (d.1 224) ∧ p ≠ q ∧ Option.bind (FX4_hasPoint 4 x c) _ = some 1 ∧ _) ∨ (Option.bind (FX4_hasPoint 4 x c) _ = some 0 ∧ _)
  rcases i3_cases x (nP (d.1 224)) (by omega) with ⟨p, hp, rfl⟩ | ⟨-, hx⟩
  · rw [C_hasPoint_y g hg hp, M_isPoint_y g rfl hp, ob_some, ob_some, if_neg (show ¬ (1 : Int32) = 0 by decide), if_neg (show ¬ (1 : Int32) = 0 by decide)]
    show (∃ p' q, i3 p = i3 p' ∧ y = i3 q ∧ p' < nP (d.1 224) ∧ q < nP (d.1 224) ∧ p' ≠ q ∧ Option.bind (FX4_hasPoint 4 y c) _ = some 1 ∧ _) ∨ (Option.bind (FX4_hasPoint 4 y c) _ = some 0 ∧ _)
    rcases i3_cases y (nP (d.1 224)) (by omega) with ⟨q, hq, rfl⟩ | ⟨-, hy⟩
    · rw [C_hasPoint_y g hg hq, M_isPoint_y g rfl hq]
      simp only [ob_some, if_neg (show ¬ (1 : Int32) = 0 by decide)]
      by_cases e : p = q
      · right
        rw [if_pos (by rw [e])]
        exact ⟨rfl, rfl⟩
      · left
        have e' : ¬ i3 p = i3 q := by rw [i3_eq (by omega) (by omega)]; exact e
        rw [if_neg e']
        exact ⟨p, q, rfl, rfl, hp, hq, e, rfl, rfl⟩
    · right
      rw [C_hasPoint_n g hg hy, M_isPoint_n g rfl hy]
      simp only [ob_some]
      exact ⟨rfl, rfl⟩
  · right
    rw [C_hasPoint_n g hg hx, M_isPoint_n g rfl hx, ob_some, ob_some]
    exact ⟨rfl, rfl⟩
theorem act0 (what x y n : Int32) (d : mB) : FX12_act 222 what x y n 0 d = some (-1, d) := rfl
theorem WN_of {S : Nat → Nat → Prop} {m m' : mB} (z : mx_out S m m') (h : ∀ b j, S b j → b = 4 ∨ (6 ≤ b ∧ b ≤ 14)) : mx_out WN m m' := z.sub (fun b j q => h b j q)
theorem act_r {X Y : Option (Int32 × mB)} (h : Sm X Y) : Sm X (Option.bind Y (fun r3 => some (r3.1, r3.2))) := by
  obtain ⟨r, s, e1, e2, q⟩ := h
  exact ⟨r, s, e1, by rw [e2]; rfl, q⟩
theorem O_pair (h : RR c d) (x y : Int32) : Sm (FX11_pair 0 x y c) (FX12_pair 222 x y d) := by
  unfold FX11_pair FX12_pair
  rw [mx_letI]
  have h0 := th0 h 0
  generalize (mx_up d.1 222 0 0, d.2) = d0 at h0 ⊢
  obtain ⟨g, s, hg, hs⟩ := h0.2.2.1.1
  have hn := g.1.2
  rcases two h0.2.2.1 x y with ⟨p, q, rfl, rfl, hp, hq, hne, e1, e2⟩ | ⟨e1, e2⟩
  · rw [e1, e2, ob_some, ob_some, if_neg (show ¬ (1 : Int32) = 0 by decide)]
    refine act_r (deed h0 (F := fun r3 => FX4_pairUp 4 (i3 p) (i3 q) r3) (N' := nPair (d0.1 224) p q) (fun c1 hc => ?_) (fun d1 e => M_refusal_pair g s e hp hq 0) (fun _ d1 e => M_live_pair g e hp hq 0) (fun k hk => ?_))
    · obtain ⟨c2, a1, a2, a3⟩ := C_pairUp hc hp hq
      exact ⟨c2, a1, a2, a3, WN_of (ZX4_pairUp a1) (fun b j q => by unfold WSX4_pairUp at q; omega)⟩
    · unfold nPair
      rw [ud_ne _ _ (by omega), ud_ne _ _ (by omega)]
  · rw [e1, e2, ob_some, ob_some, if_pos rfl, act0, ob_some]
    exact hb_some ⟨rfl, h0⟩
theorem ptq_b {N : Rw} (g : GI N) (s : SI N) {p : Nat} (hp : p < nP N) : ptq N p < 10 := by
  have hn := g.1.2
  unfold ptq
  rcases prt s hp with q | ⟨r, q1, q2, -⟩
  · rw [q]; decide
  · rw [q2, i3_toNat (by omega)]; omega
theorem O_part (h : RR c d) (x : Int32) : Sm (FX11_part 0 x c) (FX12_part 222 x d) := by
  unfold FX11_part FX12_part
  rw [mx_letI]
  have h0 := th0 h 0
  generalize (mx_up d.1 222 0 0, d.2) = d0 at h0 ⊢
  obtain ⟨g, s, hg, hs⟩ := h0.2.2.1.1
  have hn := g.1.2
  show Sm (Option.bind (FX4_hasPoint 4 x c) _) _
  rcases i3_cases x (nP (d0.1 224)) (by omega) with ⟨p, hp, rfl⟩ | ⟨-, hx⟩
  · rw [C_hasPoint_y g hg hp, M_isPoint_y g rfl hp, ob_some, ob_some, if_neg (show ¬ (1 : Int32) = 0 by decide)]
    refine act_r (deed h0 (F := fun r3 => FX4_partFrom 4 (i3 p) r3) (N' := nPart (d0.1 224) p) (fun c1 hc => ?_) (fun d1 e => M_refusal_part g e hp 0 0) (fun r d1 e => M_live_part g s e hp r 0 0) (fun k hk => ?_))
    · obtain ⟨c2, a1, a2, a3⟩ := C_partFrom hc hp
      exact ⟨c2, a1, a2, a3, WN_of (ZX4_partFrom a1) (fun b j q => by unfold WSX4_partFrom at q; omega)⟩
    · unfold nPart
      have hpq := ptq_b g s hp
      rw [ud_ne _ _ (by omega), ud_ne _ _ (by omega)]
  · rw [C_hasPoint_n g hg hx, M_isPoint_n g rfl hx, ob_some, ob_some, if_pos rfl, act0, ob_some]
    exact hb_some ⟨rfl, h0⟩
theorem M_in {x : Int32} {lo hi : Nat} (hl : lo ≤ hi) (hh : hi < 2147483647) (d : mB) : (∃ w, x = i3 w ∧ lo ≤ w ∧ w ≤ hi ∧ FX12_isIn x (i3 lo) (i3 hi) d = some 1) ∨ ((x < i3 lo ∨ i3 hi < x) ∧ FX12_isIn x (i3 lo) (i3 hi) d = some 0) := by
  unfold FX12_isIn
  by_cases c1 : x < i3 lo
  · right
    rw [if_pos c1]
    exact ⟨Or.inl c1, rfl⟩
  · rw [if_neg c1]
    by_cases c2 : i3 hi < x
    · right
      rw [if_pos c2]
      exact ⟨Or.inr c2, rfl⟩
    · left
      rw [if_neg c2]
      have hx0 : ¬ x < 0 := by
        intro q
        apply c1
        rw [Int32.lt_iff_toInt_lt] at q ⊢
        rw [i3_toInt (by omega)]
        have : (0 : Int32).toInt = 0 := rfl
        omega
      obtain ⟨w, rfl, hw7⟩ := i3_of hx0
      rw [i3_lt hw7 (by omega)] at c1
      rw [i3_lt (by omega) hw7] at c2
      exact ⟨w, rfl, by omega, by omega, rfl⟩
theorem O_price (h : RR c d) (x n : Int32) : Sm (FX11_price 0 x n c) (FX12_price 222 x n d) := by
  unfold FX11_price FX12_price FX11_isPrice
  rw [mx_letI]
  have h0 := th0 h 0
  generalize (mx_up d.1 222 0 0, d.2) = d0 at h0 ⊢
  obtain ⟨g, s, hg, hs⟩ := h0.2.2.1.1
  have hn := g.1.2
  show Sm (Option.bind (FX4_hasPoint 4 x c) _) _
  rcases i3_cases x (nP (d0.1 224)) (by omega) with ⟨p, hp, rfl⟩ | ⟨-, hx⟩
  · rw [C_hasPoint_y g hg hp, M_isPoint_y g rfl hp, ob_some, ob_some, if_neg (show ¬ (1 : Int32) = 0 by decide), if_neg (show ¬ (1 : Int32) = 0 by decide)]
    show Sm _ (Option.bind (FX12_isIn n (i3 0) (i3 400) d0) _)
    rcases M_in (x := n) (lo := 0) (hi := 400) (by omega) (by omega) d0 with ⟨w, rfl, w1, w2, e⟩ | ⟨w1, e⟩
    · rw [e, ob_some, if_neg (show ¬ (1 : Int32) = 0 by decide), if_neg (i3_ge0 (by omega)), if_neg (by show ¬ i3 400 < i3 w; rw [i3_lt (by omega) (by omega)]; omega), ob_some, if_neg (show ¬ (1 : Int32) = 0 by decide)]
      refine act_r (deed h0 (F := fun r3 => FX4_priceAt 4 (i3 p) (i3 w) r3) (N' := ud (d0.1 224) (168 + p) (i3 w)) (fun c1 hc => ?_) (fun d1 e => M_refusal_price g e hp 0 (i3 w)) (fun _ d1 e => M_live_price g e hp 0 (i3 w)) (fun k hk => ud_ne _ _ (by omega)))
      obtain ⟨c2, a1, a2, a3⟩ := C_priceAt hc hp (n := i3 w) ⟨w, rfl, w2⟩
      exact ⟨c2, a1, a2, a3, WN_of (ZX4_priceAt a1) (fun b j q => by unfold WSX4_priceAt at q; omega)⟩
    · rw [e, ob_some, if_pos rfl, act0, ob_some]
      rcases w1 with w1 | w1
      · have w1' : n < 0 := w1
        rw [if_pos w1', ob_some, if_pos rfl]
        exact hb_some ⟨rfl, h0⟩
      · have w1' : 400 < n := w1
        rw [if_pos w1']
        by_cases q : n < 0
        · rw [if_pos q, ob_some, if_pos rfl]; exact hb_some ⟨rfl, h0⟩
        · rw [if_neg q, ob_some, if_pos rfl]; exact hb_some ⟨rfl, h0⟩
  · rw [C_hasPoint_n g hg hx, M_isPoint_n g rfl hx, ob_some, ob_some, if_pos rfl, if_pos rfl, act0, ob_some]
    exact hb_some ⟨rfl, h0⟩
theorem O_crown (h : RR c d) (x n : Int32) : Sm (FX11_crown 0 x n c) (FX12_crown 222 x n d) := by
  unfold FX11_crown FX12_crown FX11_isPrice
  rw [mx_letI]
  have h0 := th0 h 0
  generalize (mx_up d.1 222 0 0, d.2) = d0 at h0 ⊢
  obtain ⟨g, s, hg, hs⟩ := h0.2.2.1.1
  have hn := s.1.2
  show Sm (Option.bind (FX4_hasSet 4 x c) _) _
  rcases i3_cases x (nK (d0.1 224)) (by omega) with ⟨p, hp, rfl⟩ | ⟨-, hx⟩
  · rw [C_hasSet_y s hs hp, M_isOdd_y s rfl hp, ob_some, ob_some, if_neg (show ¬ (1 : Int32) = 0 by decide), if_neg (show ¬ (1 : Int32) = 0 by decide)]
    show Sm _ (Option.bind (FX12_isIn n (i3 0) (i3 400) d0) _)
    rcases M_in (x := n) (lo := 0) (hi := 400) (by omega) (by omega) d0 with ⟨w, rfl, w1, w2, e⟩ | ⟨w1, e⟩
    · rw [e, ob_some, if_neg (show ¬ (1 : Int32) = 0 by decide), if_neg (i3_ge0 (by omega)), if_neg (by show ¬ i3 400 < i3 w; rw [i3_lt (by omega) (by omega)]; omega), ob_some, if_neg (show ¬ (1 : Int32) = 0 by decide)]
      refine act_r (deed h0 (F := fun r3 => FX4_crownAt 4 (i3 p) (i3 w) r3) (N' := ud (d0.1 224) (184 + p) (i3 w)) (fun c1 hc => ?_) (fun d1 e => M_refusal_crown s e hp 0 (i3 w)) (fun _ d1 e => M_live_crown s e hp 0 (i3 w)) (fun k hk => ud_ne _ _ (by omega)))
      obtain ⟨c2, a1, a2, a3⟩ := C_crownAt hc hp (n := i3 w) ⟨w, rfl, w2⟩
      exact ⟨c2, a1, a2, a3, WN_of (ZX4_crownAt a1) (fun b j q => by unfold WSX4_crownAt at q; omega)⟩
    · rw [e, ob_some, if_pos rfl, act0, ob_some]
      rcases w1 with w1 | w1
      · have w1' : n < 0 := w1
        rw [if_pos w1', ob_some, if_pos rfl]
        exact hb_some ⟨rfl, h0⟩
      · have w1' : 400 < n := w1
        rw [if_pos w1']
        by_cases q : n < 0
        · rw [if_pos q, ob_some, if_pos rfl]; exact hb_some ⟨rfl, h0⟩
        · rw [if_neg q, ob_some, if_pos rfl]; exact hb_some ⟨rfl, h0⟩
  · rw [C_hasSet_n s hs hx, M_isOdd_n s rfl hx, ob_some, ob_some, if_pos rfl, if_pos rfl, act0, ob_some]
    exact hb_some ⟨rfl, h0⟩
theorem O_weigh (h : RR c d) (x y n : Int32) : Sm (FX11_weigh 0 x y n c) (FX12_weigh 222 x y n d) := by
  unfold FX11_weigh FX12_weigh
  rw [mx_letI]
  have h0 := th0 h 0
  generalize (mx_up d.1 222 0 0, d.2) = d0 at h0 ⊢
  obtain ⟨g, s, hg, hs⟩ := h0.2.2.1.1
  have hn := g.1.2
  have hL := g.2.1.2
  rcases two h0.2.2.1 x y with ⟨p, q, rfl, rfl, hp, hq, hne, e1, e2⟩ | ⟨e1, e2⟩
  · rw [e1, e2, ob_some, ob_some, if_neg (show ¬ (1 : Int32) = 0 by decide), if_neg (show ¬ (1 : Int32) = 0 by decide)]
    show Sm _ (Option.bind (FX12_isIn n (i3 1) (i3 99) d0) _)
    rcases M_in (x := n) (lo := 1) (hi := 99) (by omega) (by omega) d0 with ⟨w, rfl, w1, w2, e⟩ | ⟨w1, e⟩
    · rw [e, ob_some, if_neg (show ¬ (1 : Int32) = 0 by decide), if_neg (by show ¬ i3 w < i3 1; rw [i3_lt (by omega) (by omega)]; omega), if_pos (by show i3 w ≤ i3 99; rw [i3_le (by omega) (by omega)]; omega)]
      refine act_r (deed h0 (F := fun r3 => FX4_weighAnew 4 (i3 p) (i3 q) (i3 w) r3) (N' := nWeigh (d0.1 224) p q (i3 w)) (fun c1 hc => ?_) (fun d1 e => M_refusal_weigh g e hp hq (i3 w)) (fun r d1 e => M_live_weigh g e hp hq (i3 w) r) (fun k hk => ?_))
      · obtain ⟨c2, a1, a2, a3⟩ := C_weighAnew hc hp hq (n := i3 w) ⟨w, rfl, w1, w2⟩
        exact ⟨c2, a1, a2, a3, WN_of (ZX4_weighAnew a1) (fun b j q => by unfold WSX4_weighAnew at q; omega)⟩
      · unfold nWeigh
        cases el : li (d0.1 224) p q with
        | none => rfl
        | some l =>
          have := (li_some el).1
          exact ud_ne _ _ (by omega)
    · rw [e, ob_some, if_pos rfl, act0, ob_some]
      rcases w1 with w1 | w1
      · have w1' : n < 1 := w1
        rw [if_pos w1']
        exact hb_some ⟨rfl, h0⟩
      · have w1' : ¬ n ≤ 99 := by
          intro q
          have w2 : (99 : Int32) < n := w1
          rw [Int32.lt_iff_toInt_lt] at w2
          rw [Int32.le_iff_toInt_le] at q
          omega
        rw [if_neg w1']
        by_cases q : n < 1
        · rw [if_pos q]; exact hb_some ⟨rfl, h0⟩
        · rw [if_neg q]; exact hb_some ⟨rfl, h0⟩
  · rw [e1, e2, ob_some, ob_some, if_pos rfl, if_pos rfl, act0, ob_some]
    exact hb_some ⟨rfl, h0⟩
theorem O_open (h : RR c d) (x : Int32) : Sm (FX11_open 0 x c) (FX12_open 222 x d) := by
  unfold FX11_open FX12_open
  rw [mx_letI]
  have h0 := th0 h 0
  generalize (mx_up d.1 222 0 0, d.2) = d0 at h0 ⊢
  obtain ⟨g, s, hg, hs⟩ := h0.2.2.1.1
  have hn := s.1.2
  show Sm (Option.bind (FX4_hasSet 4 x c) _) _
  rcases i3_cases x (nK (d0.1 224)) (by omega) with ⟨p, hp, rfl⟩ | ⟨-, hx⟩
  · rw [C_hasSet_y s hs hp, M_isOdd_y s rfl hp, ob_some, ob_some, if_neg (show ¬ (1 : Int32) = 0 by decide)]
    refine act_r (deed h0 (F := fun r3 => FX4_openSet 4 (i3 p) r3) (N' := nOpen (d0.1 224) p) (fun c1 hc => ?_) (fun d1 e => M_refusal_open s e hp 0 0) (fun r d1 e => M_live_open s e hp 0 0) (fun k hk => ?_))
    · obtain ⟨c2, a1, a2, a3⟩ := C_openSet hc hp
      exact ⟨c2, a1, a2, a3, WN_of (ZX4_openSet a1) (fun b j q => by unfold WSX4_openSet at q; omega)⟩
    · rw [nOpen_eq hp hn, if_neg (by omega), if_neg (by omega), if_neg (by omega)]
  · rw [C_hasSet_n s hs hx, M_isOdd_n s rfl hx, ob_some, ob_some, if_pos rfl, act0, ob_some]
    exact hb_some ⟨rfl, h0⟩
end OPA
