/-! ===== deeds, in any network of the class ===== -/
theorem hb_bind {α β γ δ : Type} {x : Option α} {y : Option β} {f : α → Option γ} {g : β → Option δ} {P : α → β → Prop} {Q : γ → δ → Prop} (h : hb x y P) (hp : ∀ a b, P a b → hb (f a) (g b) Q) : hb (Option.bind x f) (Option.bind y g) Q := by
  obtain ⟨a, b, e1, e2, p⟩ := h
  rw [e1, e2]
  exact hp a b p
theorem lp_hb {S T R R' : Type} {L : Nat → Int32 → S → Option R} {M : Nat → Int32 → T → Option R'} {n : Nat} (I : Nat → S → T → Prop) {Q : R → R' → Prop}
    (h0 : ∀ f f' s t, I n s t → hb (L (f + 1) (i3 n) s) (M (f' + 1) (i3 n) t) Q)
    (h1 : ∀ f f' k s t, k < n → I k s t → (∀ s' t', I (k + 1) s' t' → hb (L f (i3 (k + 1)) s') (M f' (i3 (k + 1)) t') Q) → hb (L (f + 1) (i3 k) s) (M (f' + 1) (i3 k) t) Q) :
    ∀ (k f f' : Nat) (s : S) (t : T), k ≤ n → n - k < f → n - k < f' → I k s t → hb (L f (i3 k) s) (M f' (i3 k) t) Q := by
  have key : ∀ (j k f f' : Nat) (s : S) (t : T), k + j = n → j < f → j < f' → I k s t → hb (L f (i3 k) s) (M f' (i3 k) t) Q := by
    intro j
    induction j with
    | zero =>
      intro k f f' s t hk hf hf' hi
      obtain ⟨f, rfl⟩ : ∃ g, f = g + 1 := ⟨f - 1, by omega⟩
      obtain ⟨f', rfl⟩ : ∃ g, f' = g + 1 := ⟨f' - 1, by omega⟩
      have : k = n := by omega
      subst this
      exact h0 f f' s t hi
    | succ j ih =>
      intro k f f' s t hk hf hf' hi
      obtain ⟨f, rfl⟩ : ∃ g, f = g + 1 := ⟨f - 1, by omega⟩
      obtain ⟨f', rfl⟩ : ∃ g, f' = g + 1 := ⟨f' - 1, by omega⟩
      exact h1 f f' k s t (by omega) hi (fun s' t' hi' => ih (k + 1) f f' s' t' (by omega) (by omega) (by omega) hi')
  intro k f f' s t hk hf hf' hi
  exact key (n - k) k f f' s t (by omega) hf hf' hi
/-- what is found goes by turns -/
theorem ext_alt {N : Rw} (g : GI N) (s : SI N) : ∀ {n : Nat} {row row' : List Nat}, ext N false n row = some row' → row.length % 2 = 1 → (∀ x ∈ row, x < nP N) → (∀ i, i < row.length - 1 → gbp N (fun i => row.getD i 0) i) → (∀ i, i < row'.length - 1 → gbp N (fun i => row'.getD i 0) i) ∧ lone N (row'.getD (row'.length - 1) 0) = true ∧ hd0 row' = hd0 row := by
  have hn := g.1.2
  intro n
  induction n with
  | zero =>
    intro row row' h ho hp hg
    unfold ext at h
    rw [if_neg (by decide)] at h
    obtain ⟨p, -, e⟩ := fs_some h
    split at e
    · cases e
      rename_i hc
      simp only [Bool.and_eq_true, Bool.not_eq_true', List.contains_eq_mem, decide_eq_false_iff_not] at hc
      refine ⟨fun i hi => ?_, ?_, hd_app (by omega) _⟩
      · rw [List.length_append] at hi
        simp only [List.length_cons, List.length_nil] at hi
        unfold gbp
        dsimp only
        rw [gd_app1, gd_app1, if_pos (by omega)]
        by_cases q : i + 1 < row.length
        · rw [if_pos q]; exact hg i (by omega)
        · rw [if_neg q, if_pos (by omega)]
          have e1 : i = row.length - 1 := by omega
          refine ⟨by rw [e1]; exact hc.1.1, fun q2 => by omega⟩
      · have e1 := ls_app row p
        unfold ls at e1
        rw [e1]; exact hc.2
    · cases e
  | succ n ih =>
    intro row row' h ho hp hg
    unfold ext at h
    obtain ⟨p, -, e⟩ := fs_some h
    split at e
    · rename_i hc
      simp only [Bool.and_eq_true, Bool.not_eq_true', List.contains_eq_mem, decide_eq_false_iff_not] at hc
      have hpl := (lk_lt g hc.1.1.1).2.1
      obtain ⟨q, q1, q2, q3, q4⟩ : ∃ q, q < nP N ∧ N (158 + p) = i3 q ∧ N (158 + q) = i3 p ∧ lk N p q = true := by
        rcases prt s hpl with q | q
        · have : lone N p = true := decide_eq_true q
          rw [this] at hc
          exact absurd hc.1.2 (by decide)
        · exact q
      have eq : ptq N p = q := by unfold ptq; rw [q2, i3_toNat (by omega)]
      rw [eq] at e
      have hlen : (row ++ [p, q]).length = row.length + 2 := by rw [List.length_append]; rfl
      have r := ih e (by rw [hlen]; omega) (fun x hx => by
        simp only [List.mem_append, List.mem_cons, List.not_mem_nil, or_false] at hx
        rcases hx with hx | rfl | rfl
        · exact hp x hx
        · exact hpl
        · exact q1) (fun i hi => by
        rw [hlen] at hi
        unfold gbp
        dsimp only
        have l1 : (row ++ [p]).length = row.length + 1 := by rw [List.length_append]; rfl
        rw [app2, gd_app1, gd_app1, gd_app1, gd_app1, l1]
        by_cases c1 : i + 1 < row.length
        · rw [if_pos (show i < row.length + 1 by omega), if_pos (show i < row.length by omega), if_pos (show i + 1 < row.length + 1 by omega), if_pos c1]
          exact hg i (by omega)
        · by_cases c2 : i + 1 = row.length
          · rw [if_pos (show i < row.length + 1 by omega), if_pos (show i < row.length by omega), if_pos (show i + 1 < row.length + 1 by omega), if_neg c1, if_pos c2]
            have e1 : i = row.length - 1 := by omega
            exact ⟨by rw [e1]; exact hc.1.1.1, fun q2 => by omega⟩
          · have e1 : i = row.length := by omega
            rw [if_pos (show i < row.length + 1 by omega), if_neg (show ¬ i < row.length by omega), if_pos e1, if_neg (show ¬ i + 1 < row.length + 1 by omega), if_pos (show i + 1 = row.length + 1 by omega)]
            exact ⟨q4, fun _ => q2⟩)
      exact ⟨r.1, r.2.1, by rw [r.2.2]; exact hd_app (by omega) _⟩
    · cases e
theorem fnd_isP {N : Rw} (g : GI N) (s : SI N) {p : Nat} {row : List Nat} (hp : p < nP N) (hl : lone N p = true) (h : fnd N false p = some row) : isP N row.length (fun i => row.getD i 0) := by
  obtain ⟨k1, k2, k3, k4, k5⟩ := fnd_ok g s hp h
  have k5' : 2 ≤ row.length := k5
  obtain ⟨n, hn5, e⟩ := fs_some h
  split at e
  · cases e
  · obtain ⟨a1, a2, a3⟩ := ext_alt g s e rfl (fun x hx => by rw [List.mem_singleton] at hx; rw [hx]; exact hp) (fun i hi => by simp at hi)
    have e0 : row.getD 0 0 = p := a3
    exact ⟨k5', by dsimp only; rw [e0]; exact hl, by dsimp only; rw [e0]; exact hp, a2, k2 _ (gd_memB (by omega)), a1⟩
section DEEDZ
variable {c c' d d' : mB} {a : Nat} {N : Rw}
def WC0 (a : Nat) : Nat → Nat → Prop := fun b j => (b = a ∨ (a + 2 ≤ b ∧ b ≤ a + 10)) ∨ SW 39 b j
def WD0 : Nat → Nat → Prop := fun b _ => b = 224 ∨ b = 235
/-- a deed does the same in the class's network a and in the reference's row -/
def DE (a : Nat) (N : Rw) (F : mB → Option (Int32 × mB)) (what x y n : Int32) : Prop := ∃ (rc : Nat) (N' : Rw), rc ≤ 9 ∧
  (∀ c, Nt c a N → ∃ c', F c = some (i3 rc, c') ∧ Nt c' a (if rc = 0 then N' else N) ∧ mx_out (WC0 a) c c') ∧
  (∀ d, d.1 224 = N → ∃ d', FX12_refusal 222 what x y n d = some (i3 rc, d') ∧ d'.1 224 = N ∧ mx_out WD0 d d') ∧
  (rc = 0 → ∀ d, d.1 224 = N → ∃ d', FX12_live 222 what x y n d = some d' ∧ d'.1 224 = N' ∧ mx_out WD0 d d') ∧
  (∀ k, k < 125 ∨ 190 ≤ k → N' k = N k)
theorem sr_out (d : mB) (N' : Rw) : mx_out WD0 d (sr d N') := fun b j q => by
  unfold WD0 at q
  exact ⟨by rw [sr_ne _ _ (by omega)], rfl⟩
theorem DE_mk {F : mB → Option (Int32 × mB)} {what x y n rc : Int32} {N' : Rw} (hr : ∃ r, rc = i3 r ∧ r ≤ 9)
    (hF : ∀ c1, Nt c1 a N → ∃ c2, F c1 = some (rc, c2) ∧ Nt c2 a (if rc = 0 then N' else N) ∧ mx_out (WC0 a) c1 c2)
    (hR : ∀ d0, d0.1 224 = N → FX12_refusal 222 what x y n d0 = some (rc, d0))
    (hL : rc = 0 → ∀ d0, d0.1 224 = N → FX12_live 222 what x y n d0 = some (sr d0 N'))
    (hN : ∀ k, k < 125 ∨ 190 ≤ k → N' k = N k) : DE a N F what x y n := by
  obtain ⟨r, rfl, hr9⟩ := hr
  have e0 : (i3 r = 0) ↔ r = 0 := by show i3 r = i3 0 ↔ _; exact i3_eq (by omega) (by omega)
  refine ⟨r, N', hr9, fun c1 hc => ?_, fun d0 e => ⟨d0, hR d0 e, e, mx_out.rf⟩, fun h d0 e => ⟨_, hL (e0.mpr h) d0 e, sr_row _ _, sr_out _ _⟩, hN⟩
  obtain ⟨c2, b1, b2', b3⟩ := hF c1 hc
  refine ⟨c2, b1, ?_, b3⟩
  by_cases q : r = 0
  · rw [if_pos q]; rw [if_pos (e0.mpr q)] at b2'; exact b2'
  · rw [if_neg q]; rw [if_neg (fun w => q (e0.mp w))] at b2'; exact b2'
theorem WC_of {S : Nat → Nat → Prop} {m m' : mB} (z : mx_out S m m') (h : ∀ b j, S b j → b = a ∨ (a + 2 ≤ b ∧ b ≤ a + 10)) : mx_out (WC0 a) m m' := z.sub (fun b j q => Or.inl (h b j q))
theorem DE_pair (g : GI N) (s : SI N) {p q : Nat} (hp : p < nP N) (hq : q < nP N) (n : Int32) : DE a N (fun m => FX4_pairUp a (i3 p) (i3 q) m) 0 (i3 p) (i3 q) n := by
  have hn := g.1.2
  refine DE_mk (N' := nPair N p q) (rc := rPair N p q) ?_ (fun c1 hc => ?_) (fun d1 e => M_refusal_pair g s e hp hq n) (fun _ d1 e => M_live_pair g e hp hq n) (fun k hk => ?_)
  · unfold rPair
    split
    · split
      · exact ⟨0, rfl, by omega⟩
      · exact ⟨2, rfl, by omega⟩
    · exact ⟨1, rfl, by omega⟩
  · obtain ⟨c2, a1, a2, a3⟩ := C_pairUp hc hp hq
    exact ⟨c2, a1, a2, WC_of (ZX4_pairUp a1) (fun b j q => by unfold WSX4_pairUp at q; omega)⟩
  · unfold nPair
    rw [ud_ne _ _ (by omega), ud_ne _ _ (by omega)]
theorem DE_part (g : GI N) (s : SI N) {p : Nat} (hp : p < nP N) (y n : Int32) : DE a N (fun m => FX4_partFrom a (i3 p) m) 1 (i3 p) y n := by
  have hn := g.1.2
  refine DE_mk (N' := nPart N p) (rc := rPart N p) ?_ (fun c1 hc => ?_) (fun d1 e => M_refusal_part g e hp y n) (fun r d1 e => M_live_part g s e hp r y n) (fun k hk => ?_)
  · unfold rPart
    split
    · exact ⟨1, rfl, by omega⟩
    · exact ⟨0, rfl, by omega⟩
  · obtain ⟨c2, a1, a2, a3⟩ := C_partFrom hc hp
    exact ⟨c2, a1, a2, WC_of (ZX4_partFrom a1) (fun b j q => by unfold WSX4_partFrom at q; omega)⟩
  · unfold nPart
    have hpq := ptq_b g s hp
    rw [ud_ne _ _ (by omega), ud_ne _ _ (by omega)]
theorem DE_weigh (g : GI N) (s : SI N) {p q w : Nat} (hp : p < nP N) (hq : q < nP N) (w1 : 1 ≤ w) (w2 : w ≤ 99) : DE a N (fun m => FX4_weighAnew a (i3 p) (i3 q) (i3 w) m) 2 (i3 p) (i3 q) (i3 w) := by
  have hn := g.2.1.2
  refine DE_mk (N' := nWeigh N p q (i3 w)) (rc := rWeigh N p q (i3 w)) ?_ (fun c1 hc => ?_) (fun d1 e => M_refusal_weigh g e hp hq (i3 w)) (fun r d1 e => M_live_weigh g e hp hq (i3 w) r) (fun k hk => ?_)
  · unfold rWeigh
    split
    · exact ⟨1, rfl, by omega⟩
    · split
      · exact ⟨2, rfl, by omega⟩
      · exact ⟨0, rfl, by omega⟩
  · obtain ⟨c2, a1, a2, a3⟩ := C_weighAnew hc hp hq (n := i3 w) ⟨w, rfl, w1, w2⟩
    exact ⟨c2, a1, a2, WC_of (ZX4_weighAnew a1) (fun b j q => by unfold WSX4_weighAnew at q; omega)⟩
  · unfold nWeigh
    cases el : li N p q with
    | none => rfl
    | some l =>
      have := (li_some el).1
      exact ud_ne _ _ (by omega)
theorem DE_price (g : GI N) {p w : Nat} (hp : p < nP N) (y : Int32) (w2 : w ≤ 400) : DE a N (fun m => FX4_priceAt a (i3 p) (i3 w) m) 3 (i3 p) y (i3 w) := by
  have hn := g.1.2
  refine DE_mk (N' := ud N (168 + p) (i3 w)) (rc := rPrice N p (i3 w)) ?_ (fun c1 hc => ?_) (fun d1 e => M_refusal_price g e hp y (i3 w)) (fun _ d1 e => M_live_price g e hp y (i3 w)) (fun k hk => ud_ne _ _ (by omega))
  · unfold rPrice
    split
    · exact ⟨1, rfl, by omega⟩
    · exact ⟨0, rfl, by omega⟩
  · obtain ⟨c2, a1, a2, a3⟩ := C_priceAt hc hp (n := i3 w) ⟨w, rfl, w2⟩
    exact ⟨c2, a1, a2, WC_of (ZX4_priceAt a1) (fun b j q => by unfold WSX4_priceAt at q; omega)⟩
theorem DE_crown (s : SI N) {p w : Nat} (hp : p < nK N) (y : Int32) (w2 : w ≤ 400) : DE a N (fun m => FX4_crownAt a (i3 p) (i3 w) m) 4 (i3 p) y (i3 w) := by
  have hn := s.1.2
  refine DE_mk (N' := ud N (184 + p) (i3 w)) (rc := rCrown N p (i3 w)) ?_ (fun c1 hc => ?_) (fun d1 e => M_refusal_crown s e hp y (i3 w)) (fun _ d1 e => M_live_crown s e hp y (i3 w)) (fun k hk => ud_ne _ _ (by omega))
  · unfold rCrown
    split
    · exact ⟨1, rfl, by omega⟩
    · exact ⟨0, rfl, by omega⟩
  · obtain ⟨c2, a1, a2, a3⟩ := C_crownAt hc hp (n := i3 w) ⟨w, rfl, w2⟩
    exact ⟨c2, a1, a2, WC_of (ZX4_crownAt a1) (fun b j q => by unfold WSX4_crownAt at q; omega)⟩
theorem DE_open (s : SI N) {p : Nat} (hp : p < nK N) (y n : Int32) : DE a N (fun m => FX4_openSet a (i3 p) m) 5 (i3 p) y n := by
  have hn := s.1.2
  refine DE_mk (N' := nOpen N p) (rc := rOpen N p) ?_ (fun c1 hc => ?_) (fun d1 e => M_refusal_open s e hp y n) (fun r d1 e => M_live_open s e hp y n) (fun k hk => ?_)
  · unfold rOpen
    split
    · exact ⟨0, rfl, by omega⟩
    · exact ⟨1, rfl, by omega⟩
  · obtain ⟨c2, a1, a2, a3⟩ := C_openSet hc hp
    exact ⟨c2, a1, a2, WC_of (ZX4_openSet a1) (fun b j q => by unfold WSX4_openSet at q; omega)⟩
  · rw [nOpen_eq hp hn, if_neg (by omega), if_neg (by omega), if_neg (by omega)]
theorem DE_grow (g : GI N) (s : SI N) (ha : a = 4 ∨ a = 15) {p : Nat} (hp : p < nP N) (y n : Int32) : DE a N (fun m => FX9_growFrom 38 a (i3 p) m) 6 (i3 p) y n := by
  have hn := g.1.2
  have nWY : ∀ {d d' : mB}, mx_out WY d d' → d'.1 224 = d.1 224 := fun z => z.cell 224 (fun j => by unfold WY; omega)
  have ref : ∀ d, FX12_refusal 222 6 (i3 p) y n d = Option.bind (FX12_isLone 222 (i3 p) d) (fun r26 => (if r26 = 0 then (some (1, d)) else Option.bind (FX12_layPath 222 (i3 p) d) (fun r28 => (if r28.1 = 0 then (some (2, r28.2)) else (some (0, r28.2)))))) := fun d => rfl
  by_cases cl : N (158 + p) = -1
  · have hlo : lone N p = true := decide_eq_true cl
    cases ef : fnd N false p with
    | none =>
      refine ⟨2, N, by omega, fun c hc => ?_, fun d e => ?_, fun q => absurd q (by decide), fun k hk => rfl⟩
      · obtain ⟨⟨r1, c1⟩, e1, z1, m1⟩ := C_findRow (p0 := a) (by omega) false hc hp
        rw [ef] at m1
        dsimp only at m1 z1
        obtain ⟨-, -, h1, h2⟩ := hc
        refine ⟨c1, ?_, ?_, z1.sub (fun b j q => Or.inr q)⟩
        · show FX9_growFrom 38 a (i3 p) c = _
          unfold FX9_growFrom
          rw [C_isLone_y g h1 h2 hp, ob_some, decide_eq_true cl, if_neg (show ¬ b2 true = 0 by decide)]
          show Option.bind (FX9_findRow 38 a (i3 p) (i3 (fw false)) (b2 false) c) _ = _
          rw [e1, ob_some, m1]
          rfl
        · rw [if_neg (by omega)]
          exact Nt_mem ⟨g, s, h1, h2⟩ (fun b q1 q2 => z1.cell b (fun j => by unfold SW; omega))
      · obtain ⟨⟨r2, d1⟩, e2, z2, m2⟩ := M_layPath g s e hp hlo
        rw [ef] at m2
        dsimp only at m2 z2
        refine ⟨d1, ?_, by rw [nWY z2]; exact e, z2.sub (fun b j q => Or.inr q)⟩
        rw [ref, M_isLone_y g e hp, ob_some, hlo, if_neg (show ¬ b2 true = 0 by decide), e2, ob_some, m2]
        rfl
    | some row =>
      obtain ⟨k1, k2, k3, k4, k5⟩ := fnd_ok g s hp ef
      have k4' : row.length % 2 = 0 := k4
      have k5' : 2 ≤ row.length := k5
      have hP := fnd_isP g s hp hlo ef
      have pt := isP_pt g hP
      have lay : ∀ d : mB, d.1 224 = N → ∃ d', FX12_layPath 222 (i3 p) d = some (i3 row.length, d') ∧ ways d' row ∧ mx_out WY d d' := fun d e => by
        obtain ⟨⟨r2, d1⟩, e2, z2, m2⟩ := M_layPath g s e hp hlo
        rw [ef] at m2
        dsimp only at m2 z2
        exact ⟨d1, by rw [e2, m2.1], m2.2, z2⟩
      refine ⟨0, nTurn N row.length (fun i => row.getD i 0), by omega, fun c hc => ?_, fun d e => ?_, fun _ d e => ?_, fun j hj => nTurn_off (fun i hi => by have := pt i hi; omega) hj⟩
      · obtain ⟨⟨r1, c1⟩, e1, z1, m1⟩ := C_findRow (p0 := a) (by omega) false hc hp
        rw [ef] at m1
        dsimp only at m1 z1
        have hc1 : Nt c1 a N := Nt_mem hc (fun b q1 q2 => z1.cell b (fun j => by unfold SW; omega))
        rcases C_turnAlong (r := 39) hc1 ⟨m1.2.1, fun i hi => ⟨m1.2.2 i hi, by have := k2 _ (gd_memB hi); omega⟩⟩ k4' (by omega) (nd_inj k1) with ⟨-, c2, e3, n3⟩ | ⟨hno, -⟩
        · obtain ⟨-, -, h1, h2⟩ := hc
          refine ⟨c2, ?_, n3, mx_out.tr (z1.sub (fun b j q => Or.inr q)) (WC_of (ZX4_turnAlong e3) (fun b j q => by unfold WSX4_turnAlong at q; omega))⟩
          show FX9_growFrom 38 a (i3 p) c = _
          unfold FX9_growFrom
          rw [C_isLone_y g h1 h2 hp, ob_some, decide_eq_true cl, if_neg (show ¬ b2 true = 0 by decide)]
          show Option.bind (FX9_findRow 38 a (i3 p) (i3 (fw false)) (b2 false) c) _ = _
          rw [e1, ob_some, m1.1]
          dsimp only
          rw [if_neg (show ¬ (1 : Int32) = 0 by decide)]
          show Option.bind (FX4_turnAlong a 39 c1) _ = _
          rw [e3, ob_some]
          rfl
        · exact absurd hP hno
      · obtain ⟨d1, e2, w2, z2⟩ := lay d e
        refine ⟨d1, ?_, by rw [nWY z2]; exact e, z2.sub (fun b j q => Or.inr q)⟩
        rw [ref, M_isLone_y g e hp, ob_some, hlo, if_neg (show ¬ b2 true = 0 by decide), e2, ob_some]
        dsimp only
        rw [if_neg (by show ¬ i3 _ = i3 0; rw [i3_eq (by omega) (by omega)]; omega)]
        rfl
      · obtain ⟨d1, e2, w2, z2⟩ := lay d e
        have e1 : d1.1 224 = N := by rw [nWY z2]; exact e
        rcases M_turnPath (q1 := 235) (f := fun i => row.getD i 0) g e1 k3 k4' (by omega) (fun i hi => ⟨w2 i hi, by have h1 : row.getD i 0 < nP N := pt i hi; show row.getD i 0 < 10; omega⟩) with q | ⟨i, hi, q⟩
        · refine ⟨_, ?_, sr_row _ _, mx_out.tr (z2.sub (fun b j q => Or.inr q)) (sr_out _ _)⟩
          show Option.bind (FX12_layPath 222 (i3 p) d) _ = _
          rw [e2, ob_some]
          dsimp only
          show Option.bind (FX12_turnPath 222 235 10 (i3 row.length) d1) _ = _
          rw [q, ob_some]
        · have h1 : row.getD i 0 < nP N := pt i hi; have h2 : nP N ≤ row.getD i 0 := q; omega
  · have hlo : lone N p = false := decide_eq_false cl
    refine ⟨1, N, by omega, fun c hc => ⟨c, ?_, by rw [if_neg (by omega)]; exact hc, mx_out.rf⟩, fun d e => ⟨d, ?_, e, mx_out.rf⟩, fun q => absurd q (by decide), fun k hk => rfl⟩
    · obtain ⟨-, -, h1, h2⟩ := hc
      show FX9_growFrom 38 a (i3 p) c = _
      unfold FX9_growFrom
      rw [C_isLone_y g h1 h2 hp, ob_some, decide_eq_false cl, if_pos (show b2 false = 0 from rfl)]
      rfl
    · rw [ref, M_isLone_y g e hp, ob_some, hlo, if_pos (show b2 false = 0 from rfl)]
      rfl
end DEEDZ
