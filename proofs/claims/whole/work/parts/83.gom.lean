/-! ===== the reference's next token ===== -/
section GOM
variable {d d' : mB} {n lim p : Nat} {t : Nat → Nat}
def Ty (d : mB) (n lim : Nat) (t : Nat → Nat) : Prop := n ≤ 940 ∧ lim ≤ 900 ∧ d.1 222 3 = i3 n ∧ d.1 222 4 = i3 lim ∧ ∀ j, j < n → t j < 256 ∧ d.1 223 j = i3 (t j)
def W2 : Nat → Nat → Prop := fun b j => b = 222 ∧ (j = 5 ∨ j = 6 ∨ j = 7 ∨ j = 8 ∨ j = 9 ∨ j = 12)
def TM (d : mB) (τ : Nat × List Nat × Nat) : Prop := (τ.1 = 0 ∧ d.1 222 7 = 0) ∨ (τ.1 = 1 ∧ d.1 222 7 = 1) ∨ (τ.1 = 2 ∧ d.1 222 7 = 1) ∨ (τ.1 = 3 ∧ wok τ.2.1 ∧ d.2 222 12 = Int64.ofNat (p27 τ.2.1) ∧ d.1 222 7 = 2) ∨ (τ.1 = 4 ∧ d.1 222 7 = 3 ∧ d.1 222 8 = i3 τ.2.2 ∧ τ.2.2 < 1000) ∨ (τ.1 = 5 ∧ d.1 222 7 = 4 ∧ d.1 222 9 = i3 τ.2.2 ∧ isG τ.2.2 = true)
theorem Ty_mv {S : Nat → Nat → Prop} (h : Ty d n lim t) (z : mx_out S d d') (hS : ∀ b j, S b j → ¬ ((b = 222 ∧ (j = 3 ∨ j = 4)) ∨ b = 223)) : Ty d' n lim t := by
  obtain ⟨h1, h2, h3, h4, h5⟩ := h
  refine ⟨h1, h2, ?_, ?_, fun j hj => ?_⟩
  · rw [z.fld 222 3 (fun q => by have := hS 222 3 q; omega)]; exact h3
  · rw [z.fld 222 4 (fun q => by have := hS 222 4 q; omega)]; exact h4
  · rw [z.fld 223 j (fun q => by have := hS 223 j q; omega)]; exact h5 j hj
/-- white space up to the limit, or up to the end -/
theorem skp_two (hp : p ≤ n) : (tkp n lim t p < min n lim → p + skp n t p = tkp n lim t p) ∧ (min n lim ≤ tkp n lim t p → min n lim ≤ p + skp n t p) ∧ p + skp n t p ≤ n := by
  obtain ⟨a1, a2⟩ := skp_ok (min n lim) t p
  obtain ⟨b1, b2'⟩ := skp_ok n t p
  unfold tkp
  refine ⟨fun h => ?_, fun h => ?_, ?_⟩
  · have hw2 := a2.resolve_left (by omega)
    rcases Nat.lt_trichotomy (skp n t p) (skp (min n lim) t p) with q | q | q
    · have h1 := (a1 _ q).2
      rcases b2' with w | w
      · omega
      · rw [h1] at w; cases w
    · omega
    · have h1 := (b1 _ q).2
      rw [h1] at hw2; cases hw2
  · rcases Nat.lt_or_ge (p + skp n t p) (min n lim) with q | q
    · exfalso
      have h1 := (a1 (skp n t p) (by omega)).2
      rcases b2' with w | w
      · omega
      · rw [h1] at w; cases w
    · exact q
  · by_cases c0 : skp n t p = 0
    · omega
    · have := (b1 (skp n t p - 1) (by omega)).1; omega
theorem M_skip (h : Ty d n lim t) (hp : p ≤ n) (h4 : d.1 222 5 = i3 p) : ∃ d', FX12_go_L0 222 mx_FU d = some d' ∧ d'.1 222 5 = i3 (p + skp n t p) ∧ mx_out (fun b j => b = 222 ∧ j = 5) d d' := by
  obtain ⟨x1, x2, x3, x4, x6⟩ := h
  obtain ⟨s1, s2⟩ := skp_ok n t p
  have s3 := (skp_two (n := n) (lim := lim) (t := t) hp).2.2
  have key : hw (FX12_go_L0 222 mx_FU d) (fun d' => d'.1 222 5 = i3 (p + skp n t p) ∧ mx_out (fun b j => b = 222 ∧ j = 5) d d') := by
    refine lp_ig (fun _ => (0 : Int32)) (S := mB) (L := fun fu _ s => FX12_go_L0 222 fu s) (n := skp n t p) (fun k s => s.1 222 5 = i3 (p + k) ∧ mx_out (fun b j => b = 222 ∧ j = 5) d s) ?_ ?_ 0 mx_FU d (by omega) (FU_lt (by omega)) ⟨h4, mx_out.rf⟩
    · intro fu s hI
      show hw (FX12_go_L0 222 (fu + 1) s) _
      have e3 : s.1 222 3 = i3 n := by rw [hI.2.fld 222 3 (by omega)]; exact x3
      rw [FX12_go_L0, hI.1, e3]
      by_cases c0 : n ≤ p + skp n t p
      · rw [if_pos (by rw [i3_le (by omega) (by omega)]; exact c0)]
        exact hw_some hI
      · have ht : s.1 (222 + 1) (p + skp n t p) = i3 (t (p + skp n t p)) := by
          show s.1 223 _ = _
          rw [hI.2.fld 223 _ (by omega)]; exact (x6 _ (by omega)).2
        have hv := (x6 (p + skp n t p) (by omega)).1
        have q := s2.resolve_left c0
        unfold isW at q
        rw [Bool.or_eq_false_iff, decide_eq_false_iff_not, decide_eq_false_iff_not] at q
        rw [if_neg (by rw [i3_le (by omega) (by omega)]; exact c0), mx_inb_i3 (by omega) (by omega), mx_chkT, i3_toNat (by omega), ht, if_neg (by show ¬ _ = i3 32; rw [i3_eq (by omega) (by omega)]; exact q.1), if_neg (by show ¬ _ = i3 10; rw [i3_eq (by omega) (by omega)]; exact q.2)]
        exact hw_some hI
    · intro fu k s hk hI hs
      show hw (FX12_go_L0 222 (fu + 1) s) _
      obtain ⟨q1, q2⟩ := s1 k hk
      have e3 : s.1 222 3 = i3 n := by rw [hI.2.fld 222 3 (by omega)]; exact x3
      have ht : s.1 (222 + 1) (p + k) = i3 (t (p + k)) := by
        show s.1 223 _ = _
        rw [hI.2.fld 223 _ (by omega)]; exact (x6 _ (by omega)).2
      have hv := (x6 (p + k) (by omega)).1
      have nx : hw (FX12_go_L0 222 fu (mx_up s.1 222 5 (i3 (p + (k + 1))), s.2)) (fun d' => d'.1 222 5 = i3 (p + skp n t p) ∧ mx_out (fun b j => b = 222 ∧ j = 5) d d') := hs _ ⟨mx_up_self s.1 222 5 _, mx_out_up hI.2 rfl ⟨rfl, rfl⟩⟩
      rw [FX12_go_L0, hI.1, e3, if_neg (by rw [i3_le (by omega) (by omega)]; omega), mx_inb_i3 (by omega) (by omega), mx_chkT, i3_toNat (by omega), ht, mx_letI, i3_succ]
      unfold isW at q2
      rw [Bool.or_eq_true, decide_eq_true_eq, decide_eq_true_eq] at q2
      by_cases c0 : t (p + k) = 32
      · rw [if_pos (by rw [c0]; rfl)]
        exact nx
      · rw [if_neg (by show ¬ _ = i3 32; rw [i3_eq (by omega) (by omega)]; exact c0), if_pos (by rw [q2.resolve_left c0]; rfl)]
        exact nx
  obtain ⟨c1, e1, a, b⟩ := key
  exact ⟨c1, e1, a, b⟩
theorem M_isLetter {v : Nat} (hv : v < 256) (m : mB) : FX12_isLetter (i3 v) m = some (b2 (isL v)) := by
  unfold FX12_isLetter isL
  by_cases c1 : v < 97
  · rw [if_pos (by show _ < i3 97; rw [i3_lt (by omega) (by omega)]; exact c1), decide_eq_false (by omega)]; rfl
  · rw [if_neg (by show ¬ _ < i3 97; rw [i3_lt (by omega) (by omega)]; exact c1), decide_eq_true (by omega)]
    by_cases c2 : 122 < v
    · rw [if_pos (by show i3 122 < _; rw [i3_lt (by omega) (by omega)]; exact c2), decide_eq_false (by omega)]; rfl
    · rw [if_neg (by show ¬ i3 122 < _; rw [i3_lt (by omega) (by omega)]; exact c2), decide_eq_true (by omega)]; rfl
theorem M_isDigit {v : Nat} (hv : v < 256) (m : mB) : FX12_isDigit (i3 v) m = some (b2 (isD v)) := by
  unfold FX12_isDigit isD
  by_cases c1 : v < 48
  · rw [if_pos (by show _ < i3 48; rw [i3_lt (by omega) (by omega)]; exact c1), decide_eq_false (by omega)]; rfl
  · rw [if_neg (by show ¬ _ < i3 48; rw [i3_lt (by omega) (by omega)]; exact c1), decide_eq_true (by omega)]
    by_cases c2 : 57 < v
    · rw [if_pos (by show i3 57 < _; rw [i3_lt (by omega) (by omega)]; exact c2), decide_eq_false (by omega)]; rfl
    · rw [if_neg (by show ¬ i3 57 < _; rw [i3_lt (by omega) (by omega)]; exact c2), decide_eq_true (by omega)]; rfl
/-- letters alone, or digits alone -/
def gdb (t : Nat → Nat) (p : Nat) : Nat → Bool
  | 0 => true
  | k + 1 => gdb t p k && (isL (t (p + k)) == isL (t p))
theorem gdb_iff (t : Nat → Nat) (p : Nat) : ∀ k, gdb t p k = true ↔ (isL (t p) = true → nd t p k = 0) ∧ (isL (t p) = false → nl t p k = 0) := by
  intro k
  induction k with
  | zero => exact ⟨fun _ => ⟨fun _ => rfl, fun _ => rfl⟩, fun _ => rfl⟩
  | succ k ih =>
    rw [gdb, Bool.and_eq_true, ih]
    unfold nd nl
    rw [cnt_succ, cnt_succ]
    cases isL (t p) <;> cases isL (t (p + k)) <;> simp
theorem M_tapeAt {s : mB} {q : Nat} (h3 : s.1 222 3 = i3 n) (hn : n ≤ 940) (h5 : ∀ j, j < n → t j < 256 ∧ s.1 223 j = i3 (t j)) (hq : q < n) : FX12_tapeAt 222 (i3 q) s = some (i3 (t q)) := by
  unfold FX12_tapeAt
  rw [h3, if_neg (by rw [i3_le (by omega) (by omega)]; omega), mx_inb_i3 (by omega) (by omega), mx_chkT, i3_toNat (by omega)]
  show some (s.1 223 q) = _
  rw [(h5 q hq).2]
theorem M_tapeAt_e {s : mB} {q : Nat} (h3 : s.1 222 3 = i3 n) (hn : n ≤ 940) (hq : n ≤ q) (hq2 : q ≤ 2000) : FX12_tapeAt 222 (i3 q) s = some (i3 0) := by
  unfold FX12_tapeAt
  rw [h3, if_pos (by rw [i3_le (by omega) (by omega)]; omega)]
  rfl
theorem M_go_L215 (h : Ty d n lim t) (hp : p < n) (h5 : d.1 222 5 = i3 p) (h6 : d.1 222 6 = i3 p) (h8 : d.1 222 8 = 0) (h12 : d.2 222 12 = 0) : ∃ d', FX12_go_L215 222 (b2 (isL (t p))) mx_FU 1 d = some (b2 (gdb t p (chn n t p)), d') ∧ d'.1 222 5 = i3 (p + chn n t p) ∧ d'.1 222 8 = fM t p (chn n t p) ∧ d'.2 222 12 = f27 t p (chn n t p) ∧ mx_out (fun b j => b = 222 ∧ (j = 5 ∨ j = 8 ∨ j = 12)) d d' := by
  obtain ⟨x1, x2, x3, x4, x6⟩ := h
  obtain ⟨s0, s1, s2⟩ := chn_ok (t := t) (Nat.le_of_lt hp)
  have key : hw (FX12_go_L215 222 (b2 (isL (t p))) mx_FU 1 d) (fun r => r.1 = b2 (gdb t p (chn n t p)) ∧ r.2.1 222 5 = i3 (p + chn n t p) ∧ r.2.1 222 8 = fM t p (chn n t p) ∧ r.2.2 222 12 = f27 t p (chn n t p) ∧ mx_out (fun b j => b = 222 ∧ (j = 5 ∨ j = 8 ∨ j = 12)) d r.2) := by
    refine lp_ig (fun _ => (0 : Int32)) (S := Int32 × mB) (L := fun fu _ s => FX12_go_L215 222 (b2 (isL (t p))) fu s.1 s.2) (n := chn n t p) (fun k s => s.1 = b2 (gdb t p k) ∧ s.2.1 222 5 = i3 (p + k) ∧ s.2.1 222 8 = fM t p k ∧ s.2.2 222 12 = f27 t p k ∧ mx_out (fun b j => b = 222 ∧ (j = 5 ∨ j = 8 ∨ j = 12)) d s.2) ?_ ?_ 0 mx_FU (1, d) (by omega) (FU_lt (by omega)) ⟨rfl, h5, h8, h12, mx_out.rf⟩
    · rintro fu ⟨y3, s⟩ hI
      show hw (FX12_go_L215 222 (b2 (isL (t p))) (fu + 1) y3 s) _
      obtain ⟨i1, i2, i3', i4, i5⟩ := hI
      dsimp only at i1 i2 i3' i4 i5
      have e3 : s.1 222 3 = i3 n := by rw [i5.fld 222 3 (by omega)]; exact x3
      have e5 : ∀ j, j < n → t j < 256 ∧ s.1 223 j = i3 (t j) := fun j hj => by rw [i5.fld 223 j (by omega)]; exact x6 j hj
      obtain ⟨v, hv, ev, hna⟩ : ∃ v, v < 256 ∧ FX12_tapeAt 222 (i3 (p + chn n t p)) s = some (i3 v) ∧ isA v = false := by
        by_cases c0 : n ≤ p + chn n t p
        · exact ⟨0, by omega, M_tapeAt_e e3 x1 c0 (by omega), rfl⟩
        · exact ⟨t (p + chn n t p), (x6 _ (by omega)).1, M_tapeAt e3 x1 e5 (by omega), s2.resolve_left c0⟩
      have hL : isL v = false ∧ isD v = false := by
        unfold isA at hna
        exact Bool.or_eq_false_iff.mp hna
      rw [FX12_go_L215, i2, ev, ob_some, M_isLetter hv, ob_some, hL.1]
      refine hw_letK (fun K hK => ?_)
      rw [if_pos (show b2 false = 0 from rfl), ob_some, M_isDigit hv, ob_some, hL.2, if_pos (show b2 false = 0 from rfl)]
      exact hw_some ⟨i1, i2, i3', i4, i5⟩
    · rintro fu k ⟨y3, s⟩ hk hI hs
      show hw (FX12_go_L215 222 (b2 (isL (t p))) (fu + 1) y3 s) _
      obtain ⟨i1, i2, i3', i4, i5⟩ := hI
      dsimp only at i1 i2 i3' i4 i5
      obtain ⟨q1, q2⟩ := s1 k hk
      have e3 : s.1 222 3 = i3 n := by rw [i5.fld 222 3 (by omega)]; exact x3
      have e6 : s.1 222 6 = i3 p := by rw [i5.fld 222 6 (by omega)]; exact h6
      have e5 : ∀ j, j < n → t j < 256 ∧ s.1 223 j = i3 (t j) := fun j hj => by rw [i5.fld 223 j (by omega)]; exact x6 j hj
      have hv := (x6 (p + k) (by omega)).1
      rw [FX12_go_L215, i2, M_tapeAt e3 x1 e5 q1, ob_some, M_isLetter hv, ob_some]
      refine hw_letK (fun K hK => ?_)
      have kk : hw K (fun r => r.1 = b2 (gdb t p (chn n t p)) ∧ r.2.1 222 5 = i3 (p + chn n t p) ∧ r.2.1 222 8 = fM t p (chn n t p) ∧ r.2.2 222 12 = f27 t p (chn n t p) ∧ mx_out (fun b j => b = 222 ∧ (j = 5 ∨ j = 8 ∨ j = 12)) d r.2) := by
        rw [hK, mx_inb_i3 (by omega) (by omega), mx_chkT, i3_toNat (by omega)]
        have ht : s.1 (222 + 1) (p + k) = i3 (t (p + k)) := (e5 _ q1).2
        rw [ht, mx_letI]
        have ek : i3 (p + k) - i3 p = i3 k := by
          rw [i3_sub (by omega)]
          congr 1
          omega
        have tail : ∀ g : Bool, g = gdb t p (k + 1) → ∀ x : Int32, x = b2 g → hw (mx_let (fun (m31 : mB) => (if 3 ≤ ((m31.1 222 5) - (m31.1 222 6)) then mx_let (mx_up m31.1 222 5 ((m31.1 222 5) + 1), m31.2) (fun m34 => (FX12_go_L215 222 (b2 (isL (t p))) fu x m34)) else mx_let (mx_up m31.1 222 8 (((10 * (m31.1 222 8)) + i3 (t (p + k))) - 48), m31.2) (fun m35 => mx_let (mx_up m35.1 222 5 ((m35.1 222 5) + 1), m35.2) (fun m36 => (FX12_go_L215 222 (b2 (isL (t p))) fu x m36))))) (fun k32 => (if 7 ≤ (i3 (p + k) - (s.1 222 6)) then (k32 s) else mx_let (s.1, mx_ul s.2 222 12 (((27 * (s.2 222 12)) + (Int32.toInt64 (i3 (t (p + k))))) - 96)) (fun m37 => (k32 m37))))) (fun r => r.1 = b2 (gdb t p (chn n t p)) ∧ r.2.1 222 5 = i3 (p + chn n t p) ∧ r.2.1 222 8 = fM t p (chn n t p) ∧ r.2.2 222 12 = f27 t p (chn n t p) ∧ mx_out (fun b j => b = 222 ∧ (j = 5 ∨ j = 8 ∨ j = 12)) d r.2) := by
          intro g hg x hx
          refine hw_letK (fun J hJ => ?_)
          have jj : ∀ m1 : mB, m1.1 = s.1 → m1.2 222 12 = f27 t p (k + 1) → mx_out (fun b j => b = 222 ∧ (j = 5 ∨ j = 8 ∨ j = 12)) d m1 → hw (J m1) (fun r => r.1 = b2 (gdb t p (chn n t p)) ∧ r.2.1 222 5 = i3 (p + chn n t p) ∧ r.2.1 222 8 = fM t p (chn n t p) ∧ r.2.2 222 12 = f27 t p (chn n t p) ∧ mx_out (fun b j => b = 222 ∧ (j = 5 ∨ j = 8 ∨ j = 12)) d r.2) := by
            intro m1 em e12 zm
            rw [hJ]
            dsimp only
            rw [em, i2, e6, ek]
            by_cases c3 : 3 ≤ k
            · rw [if_pos (by show i3 3 ≤ _; rw [i3_le (by omega) (by omega)]; exact c3), mx_letI]
              refine hs (x, (mx_up s.1 222 5 (i3 (p + k) + 1), m1.2)) ⟨by rw [hx, hg], ?_, ?_, e12, mx_out_up zm (by rw [em]) ⟨rfl, Or.inl rfl⟩⟩
              · refine (mx_up_self s.1 222 5 _).trans ?_
                rw [i3_succ]
                rfl
              · show mx_up s.1 222 5 (i3 (p + k) + 1) 222 8 = _
                rw [up_at, if_neg (by omega), i3', fM, if_neg (by omega)]
            · rw [if_neg (by show ¬ i3 3 ≤ _; rw [i3_le (by omega) (by omega)]; exact c3), mx_letI, mx_letI]
              have e58 : (mx_up s.1 222 8 (10 * s.1 222 8 + i3 (t (p + k)) - 48)) 222 5 = i3 (p + k) := by
                rw [up_at, if_neg (by omega)]; exact i2
              refine hs (x, (mx_up (mx_up s.1 222 8 (10 * s.1 222 8 + i3 (t (p + k)) - 48)) 222 5 ((mx_up s.1 222 8 (10 * s.1 222 8 + i3 (t (p + k)) - 48)) 222 5 + 1), m1.2)) ⟨by rw [hx, hg], ?_, ?_, e12, mx_out_up (mx_out_up (m2 := (mx_up s.1 222 8 (10 * s.1 222 8 + i3 (t (p + k)) - 48), m1.2)) zm (by rw [em]) ⟨rfl, Or.inr (Or.inl rfl)⟩) rfl ⟨rfl, Or.inl rfl⟩⟩
              · refine (mx_up_self (mx_up s.1 222 8 (10 * s.1 222 8 + i3 (t (p + k)) - 48)) 222 5 ((mx_up s.1 222 8 (10 * s.1 222 8 + i3 (t (p + k)) - 48)) 222 5 + 1)).trans ?_
                rw [e58, i3_succ]
                rfl
              · show mx_up (mx_up s.1 222 8 (10 * s.1 222 8 + i3 (t (p + k)) - 48)) 222 5 ((mx_up s.1 222 8 (10 * s.1 222 8 + i3 (t (p + k)) - 48)) 222 5 + 1) 222 8 = _
                rw [up_at, if_neg (by omega), up_at, if_pos rfl, i3', fM, if_pos (by omega)]
          rw [e6, ek]
          by_cases c7 : 7 ≤ k
          · rw [if_pos (by show i3 7 ≤ _; rw [i3_le (by omega) (by omega)]; exact c7)]
            exact jj s rfl (by rw [i4, f27, if_neg (by omega)]) i5
          · rw [if_neg (by show ¬ i3 7 ≤ _; rw [i3_le (by omega) (by omega)]; exact c7), mx_letI]
            refine jj _ rfl ?_ (mx_out_ul i5 rfl ⟨rfl, Or.inr (Or.inr rfl)⟩)
            show mx_ul s.2 222 12 _ 222 12 = _
            rw [f27, if_pos (by omega), i4, i32_64 (by omega)]
            simp [mx_ul]
        refine hw_letK (fun K29 hK29 => ?_)
        by_cases cg : gdb t p k = true
        · rw [i1, cg, if_neg (show ¬ b2 true = 0 by decide), M_isLetter hv, ob_some]
          by_cases ce : isL (t (p + k)) = isL (t p)
          · rw [if_pos (by rw [ce])]
            exact tail true (by rw [gdb, cg, ce]; simp) 1 rfl
          · rw [if_neg (by rw [b2_eq]; exact ce), hK29]
            exact tail false (by rw [gdb, cg]; simp [ce]) 0 rfl
        · have cg' : gdb t p k = false := by revert cg; cases gdb t p k <;> simp
          rw [i1, cg', if_pos (show b2 false = 0 from rfl), hK29]
          exact tail false (by rw [gdb, cg']; rfl) 0 rfl
      by_cases cl : isL (t (p + k)) = true
      · rw [cl, if_neg (show ¬ b2 true = 0 by decide)]
        exact kk
      · have cl' : isL (t (p + k)) = false := by revert cl; cases isL (t (p + k)) <;> simp
        have cd : isD (t (p + k)) = true := by
          unfold isA at q2
          rw [cl'] at q2
          exact q2
        rw [cl', if_pos (show b2 false = 0 from rfl), ob_some, M_isDigit hv, ob_some, cd, if_neg (show ¬ b2 true = 0 by decide)]
        exact kk
  obtain ⟨⟨r1, d1⟩, e1, h1, h2, h3, h4', h5'⟩ := key
  dsimp only at h1 h2 h3 h4' h5'
  exact ⟨d1, by rw [e1, h1], h2, h3, h4', h5'⟩
end GOM
