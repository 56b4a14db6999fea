/-! ===== the class goes on to the next token ===== -/
section ADV
variable {c c' : mB} {n lim p : Nat} {t : Nat → Nat}
/-- the text that the class reads -/
def Tx (c : mB) (n lim : Nat) (t : Nat → Nat) : Prop := n ≤ 940 ∧ lim ≤ 900 ∧ c.1 1 2 = i3 n ∧ c.1 1 3 = i3 (min n lim) ∧ c.1 1 5 = b2 (decide (lim < n)) ∧ (∀ j, j < n → t j < 256 ∧ c.1 2 j = i3 (t j)) ∧ ∀ i, i < 22 → c.2 3 i = Int64.ofNat (p32 (wd i))
def W1 : Nat → Nat → Prop := fun b j => b = 1 ∧ (j = 4 ∨ j = 6 ∨ j = 7 ∨ j = 8 ∨ j = 9)
theorem Tx_mv {S : Nat → Nat → Prop} (h : Tx c n lim t) (z : mx_out S c c') (hS : ∀ b j, S b j → ¬ ((b = 1 ∧ (j = 2 ∨ j = 3 ∨ j = 5)) ∨ b = 2 ∨ b = 3)) : Tx c' n lim t := by
  obtain ⟨h1, h2, h3, h4, h5, h6, h7⟩ := h
  refine ⟨h1, h2, ?_, ?_, ?_, fun j hj => ?_, fun i hi => ?_⟩
  · rw [z.fld 1 2 (fun q => by have := hS 1 2 q; omega)]; exact h3
  · rw [z.fld 1 3 (fun q => by have := hS 1 3 q; omega)]; exact h4
  · rw [z.fld 1 5 (fun q => by have := hS 1 5 q; omega)]; exact h5
  · rw [z.fld 2 j (fun q => by have := hS 2 j q; omega)]; exact h6 j hj
  · rw [(z 3 i (fun q => by have := hS 3 i q; omega)).2]; exact h7 i hi
def ckt (n : Nat) (t : Nat → Nat) (e : Nat) : Nat × List Nat × Nat := if nd t e (chn n t e) = 0 ∧ chn n t e ≤ 7 then (3, wrd t e (chn n t e), 0) else if nl t e (chn n t e) = 0 ∧ chn n t e ≤ 3 then (4, [], (fN t e (chn n t e)).toNatClampNeg) else (2, [], 0)
/-- the token that is next at p: its kind, its word, its number or sign; where it begins; where it ends -/
def tkp (n lim : Nat) (t : Nat → Nat) (p : Nat) : Nat := p + skp (min n lim) t p
def tkn (n lim : Nat) (t : Nat → Nat) (p : Nat) : Nat × List Nat × Nat := if min n lim ≤ tkp n lim t p then (if lim < n then (1, [], 0) else (0, [], 0)) else if isA (t (tkp n lim t p)) = true then ckt n t (tkp n lim t p) else if isG (t (tkp n lim t p)) = true then (5, [], t (tkp n lim t p)) else (2, [], 0)
def tst (n lim : Nat) (t : Nat → Nat) (p : Nat) : Nat := if min n lim ≤ tkp n lim t p then min n lim else tkp n lim t p
def tnx (n lim : Nat) (t : Nat → Nat) (p : Nat) : Nat := if min n lim ≤ tkp n lim t p then tkp n lim t p else if isA (t (tkp n lim t p)) = true then tkp n lim t p + chn n t (tkp n lim t p) else tkp n lim t p + 1
def TC (c : mB) (τ : Nat × List Nat × Nat) : Prop := (τ.1 = 0 ∧ c.1 1 6 = 0 ∧ c.1 1 5 = 0) ∨ (τ.1 = 1 ∧ c.1 1 6 = 0 ∧ c.1 1 5 = 1) ∨ (τ.1 = 2 ∧ c.1 1 6 = 1) ∨ (τ.1 = 3 ∧ wok τ.2.1 ∧ c.2 1 9 = Int64.ofNat (p32 τ.2.1) ∧ c.1 1 6 = kdw τ.2.1) ∨ (τ.1 = 4 ∧ c.1 1 6 = 3 ∧ c.1 1 8 = i3 τ.2.2 ∧ τ.2.2 < 1000) ∨ (τ.1 = 5 ∧ c.1 1 6 = i3 τ.2.2 ∧ isG τ.2.2 = true)
theorem C_skip (h : Tx c n lim t) (hp : p ≤ 2000) (h4 : c.1 1 4 = i3 p) : ∃ c', FX10_advance_L0 1 mx_FU c = some c' ∧ c'.1 1 4 = i3 (tkp n lim t p) ∧ mx_out (fun b j => b = 1 ∧ j = 4) c c' := by
  obtain ⟨x1, x2, x3, x4, x5, x6, x7⟩ := h
  obtain ⟨s1, s2⟩ := skp_ok (min n lim) t p
  have key : hw (FX10_advance_L0 1 mx_FU c) (fun c' => c'.1 1 4 = i3 (tkp n lim t p) ∧ mx_out (fun b j => b = 1 ∧ j = 4) c c') := by
    refine lp_ig (fun _ => (0 : Int32)) (S := mB) (L := fun fu _ s => FX10_advance_L0 1 fu s) (n := skp (min n lim) t p) (fun k s => s.1 1 4 = i3 (p + k) ∧ mx_out (fun b j => b = 1 ∧ j = 4) c s) ?_ ?_ 0 mx_FU c (by omega) (FU_lt ?_) ⟨h4, mx_out.rf⟩
    · intro fu s hI
      show hw (FX10_advance_L0 1 (fu + 1) s) _
      have e3 : s.1 1 3 = i3 (min n lim) := by rw [hI.2.fld 1 3 (by omega)]; exact x4
      have hk : skp (min n lim) t p ≤ 900 := by
        by_cases c0 : skp (min n lim) t p = 0
        · omega
        · have := (s1 (skp (min n lim) t p - 1) (by omega)).1; omega
      rw [FX10_advance_L0, hI.1, e3, if_neg (i3_ge0 (by omega))]
      rcases s2 with q | q
      · rw [if_pos (by rw [i3_le (by omega) (by omega)]; exact q)]
        exact hw_some hI
      · by_cases c0 : min n lim ≤ p + skp (min n lim) t p
        · rw [if_pos (by rw [i3_le (by omega) (by omega)]; exact c0)]
          exact hw_some hI
        · have ht : s.1 (1 + 1) (p + skp (min n lim) t p) = i3 (t (p + skp (min n lim) t p)) := by
            show s.1 2 _ = _
            rw [hI.2.fld 2 _ (by omega)]; exact (x6 _ (by omega)).2
          have hv := (x6 (p + skp (min n lim) t p) (by omega)).1
          unfold isW at q
          rw [Bool.or_eq_false_iff, decide_eq_false_iff_not, decide_eq_false_iff_not] at q
          rw [if_neg (by rw [i3_le (by omega) (by omega)]; exact c0), if_neg (by show ¬ i3 940 ≤ _; rw [i3_le (by omega) (by omega)]; omega), mx_inb_i3 (by omega) (by omega), mx_chkT, i3_toNat (by omega), ht, if_neg (by show ¬ _ = i3 32; rw [i3_eq (by omega) (by omega)]; exact q.1), if_neg (by show ¬ _ = i3 10; rw [i3_eq (by omega) (by omega)]; exact q.2)]
          exact hw_some hI
    · intro fu k s hk hI hs
      show hw (FX10_advance_L0 1 (fu + 1) s) _
      obtain ⟨q1, q2⟩ := s1 k hk
      have e3 : s.1 1 3 = i3 (min n lim) := by rw [hI.2.fld 1 3 (by omega)]; exact x4
      have ht : s.1 (1 + 1) (p + k) = i3 (t (p + k)) := by
        show s.1 2 _ = _
        rw [hI.2.fld 2 _ (by omega)]; exact (x6 _ (by omega)).2
      have hv := (x6 (p + k) (by omega)).1
      have nx : hw (FX10_advance_L0 1 fu (mx_up s.1 1 4 (i3 (p + (k + 1))), s.2)) (fun c' => c'.1 1 4 = i3 (tkp n lim t p) ∧ mx_out (fun b j => b = 1 ∧ j = 4) c c') := hs _ ⟨mx_up_self s.1 1 4 _, mx_out_up hI.2 rfl ⟨rfl, rfl⟩⟩
      rw [FX10_advance_L0, hI.1, e3, if_neg (i3_ge0 (by omega)), if_neg (by rw [i3_le (by omega) (by omega)]; omega), if_neg (by show ¬ i3 940 ≤ _; rw [i3_le (by omega) (by omega)]; omega), mx_inb_i3 (by omega) (by omega), mx_chkT, i3_toNat (by omega), ht, mx_letI, i3_succ]
      unfold isW at q2
      rw [Bool.or_eq_true, decide_eq_true_eq, decide_eq_true_eq] at q2
      by_cases c0 : t (p + k) = 32
      · rw [if_pos (by rw [c0]; rfl)]
        exact nx
      · rw [if_neg (by show ¬ _ = i3 32; rw [i3_eq (by omega) (by omega)]; exact c0), if_pos (by rw [q2.resolve_left c0]; rfl)]
        exact nx
    · by_cases c0 : skp (min n lim) t p = 0
      · omega
      · have := (s1 (skp (min n lim) t p - 1) (by omega)).1; omega
  obtain ⟨c1, e1, a, b⟩ := key
  exact ⟨c1, e1, a, b⟩
theorem C_chunk_L9 (h : Tx c n lim t) (hp : p ≤ n) (h4 : c.1 1 4 = i3 p) : ∃ c', FX10_readChunk_L9 1 mx_FU 0 0 0 0 c = some (i3 (nl t p (chn n t p)), i3 (nd t p (chn n t p)), f32 t p (chn n t p), fN t p (chn n t p), c') ∧ c'.1 1 4 = i3 (p + chn n t p) ∧ mx_out (fun b j => b = 1 ∧ j = 4) c c' := by
  obtain ⟨x1, x2, x3, x4, x5, x6, x7⟩ := h
  obtain ⟨s0, s1, s2⟩ := chn_ok (t := t) hp
  have key : hw (FX10_readChunk_L9 1 mx_FU 0 0 0 0 c) (fun r => r.1 = i3 (nl t p (chn n t p)) ∧ r.2.1 = i3 (nd t p (chn n t p)) ∧ r.2.2.1 = f32 t p (chn n t p) ∧ r.2.2.2.1 = fN t p (chn n t p) ∧ r.2.2.2.2.1 1 4 = i3 (p + chn n t p) ∧ mx_out (fun b j => b = 1 ∧ j = 4) c r.2.2.2.2) := by
    refine lp_ig (fun _ => (0 : Int32)) (S := Int32 × Int32 × Int64 × Int32 × mB) (L := fun fu _ s => FX10_readChunk_L9 1 fu s.1 s.2.1 s.2.2.1 s.2.2.2.1 s.2.2.2.2) (n := chn n t p) (fun k s => s.1 = i3 (nl t p k) ∧ s.2.1 = i3 (nd t p k) ∧ s.2.2.1 = f32 t p k ∧ s.2.2.2.1 = fN t p k ∧ s.2.2.2.2.1 1 4 = i3 (p + k) ∧ mx_out (fun b j => b = 1 ∧ j = 4) c s.2.2.2.2) ?_ ?_ 0 mx_FU (0, 0, 0, 0, c) (by omega) (FU_lt (by omega)) ⟨rfl, rfl, rfl, rfl, h4, mx_out.rf⟩
    · rintro fu ⟨y1, y2, y3, y5, s⟩ hI
      show hw (FX10_readChunk_L9 1 (fu + 1) y1 y2 y3 y5 s) _
      obtain ⟨i1, i2, i3', i4, i5, i6⟩ := hI
      dsimp only at i1 i2 i3' i4 i5 i6
      have e2 : s.1 1 2 = i3 n := by rw [i6.fld 1 2 (by omega)]; exact x3
      rw [FX10_readChunk_L9, i5, e2, if_neg (i3_ge0 (by omega))]
      by_cases c0 : n ≤ p + chn n t p
      · rw [if_pos (by rw [i3_le (by omega) (by omega)]; exact c0)]
        exact hw_some ⟨i1, i2, i3', i4, i5, i6⟩
      · have ht : s.1 (1 + 1) (p + chn n t p) = i3 (t (p + chn n t p)) := by
          show s.1 2 _ = _
          rw [i6.fld 2 _ (by omega)]; exact (x6 _ (by omega)).2
        have hv := (x6 (p + chn n t p) (by omega)).1
        have q := s2.resolve_left c0
        have hna : ¬ ((97 ≤ t (p + chn n t p) ∧ t (p + chn n t p) ≤ 122) ∨ (48 ≤ t (p + chn n t p) ∧ t (p + chn n t p) ≤ 57)) := fun w => by rw [isA_iff.mpr w] at q; cases q
        rw [if_neg (by rw [i3_le (by omega) (by omega)]; exact c0), if_neg (by show ¬ i3 940 ≤ _; rw [i3_le (by omega) (by omega)]; omega), mx_inb_i3 (by omega) (by omega), mx_chkT, i3_toNat (by omega), ht, mx_letI]
        refine hw_letK (fun K hK => ?_)
        have kk : hw (K y1 y3) (fun r => r.1 = i3 (nl t p (chn n t p)) ∧ r.2.1 = i3 (nd t p (chn n t p)) ∧ r.2.2.1 = f32 t p (chn n t p) ∧ r.2.2.2.1 = fN t p (chn n t p) ∧ r.2.2.2.2.1 1 4 = i3 (p + chn n t p) ∧ mx_out (fun b j => b = 1 ∧ j = 4) c r.2.2.2.2) := by
          rw [hK]
          dsimp only
          by_cases c1 : t (p + chn n t p) < 48
          · rw [if_pos (by show _ < i3 48; rw [i3_lt (by omega) (by omega)]; exact c1)]
            exact hw_some ⟨i1, i2, i3', i4, i5, i6⟩
          · rw [if_neg (by show ¬ _ < i3 48; rw [i3_lt (by omega) (by omega)]; exact c1), if_pos (by show i3 57 < _; rw [i3_lt (by omega) (by omega)]; omega)]
            exact hw_some ⟨i1, i2, i3', i4, i5, i6⟩
        by_cases c1 : t (p + chn n t p) < 97
        · rw [if_pos (by show _ < i3 97; rw [i3_lt (by omega) (by omega)]; exact c1)]
          exact kk
        · rw [if_neg (by show ¬ _ < i3 97; rw [i3_lt (by omega) (by omega)]; exact c1), if_pos (by show i3 122 < _; rw [i3_lt (by omega) (by omega)]; omega)]
          exact kk
    · rintro fu k ⟨y1, y2, y3, y5, s⟩ hk hI hs
      show hw (FX10_readChunk_L9 1 (fu + 1) y1 y2 y3 y5 s) _
      obtain ⟨i1, i2, i3', i4, i5, i6⟩ := hI
      dsimp only at i1 i2 i3' i4 i5 i6
      obtain ⟨q1, q2⟩ := s1 k hk
      have e2 : s.1 1 2 = i3 n := by rw [i6.fld 1 2 (by omega)]; exact x3
      have ht : s.1 (1 + 1) (p + k) = i3 (t (p + k)) := by
        show s.1 2 _ = _
        rw [i6.fld 2 _ (by omega)]; exact (x6 _ (by omega)).2
      have hv := (x6 (p + k) (by omega)).1
      have ha := isA_iff.mp q2
      rw [FX10_readChunk_L9, i5, e2, if_neg (i3_ge0 (by omega)), if_neg (by rw [i3_le (by omega) (by omega)]; omega), if_neg (by show ¬ i3 940 ≤ _; rw [i3_le (by omega) (by omega)]; omega), mx_inb_i3 (by omega) (by omega), mx_chkT, i3_toNat (by omega), ht, mx_letI]
      refine hw_letK (fun K hK => ?_)
      have z4 : mx_out (fun b j => b = 1 ∧ j = 4) c (mx_up s.1 1 4 (i3 (p + k) + 1), s.2) := mx_out_up i6 rfl ⟨rfl, rfl⟩
      have e4 : (mx_up s.1 1 4 (i3 (p + k) + 1), s.2).1 1 4 = i3 (p + (k + 1)) := by
        refine (mx_up_self s.1 1 4 _).trans ?_
        rw [i3_succ]
        rfl
      by_cases cl : 97 ≤ t (p + k)
      · have hl : isL (t (p + k)) = true := isL_iff.mpr (by omega)
        rw [if_neg (by show ¬ _ < i3 97; rw [i3_lt (by omega) (by omega)]; omega), if_neg (by show ¬ i3 122 < _; rw [i3_lt (by omega) (by omega)]; omega), mx_letI, mx_letI, mx_letI]
        refine hs (y1 + 1, y2, y3 * 32 + Int32.toInt64 (i3 (t (p + k)) - 97 + 1), y5, (mx_up s.1 1 4 (i3 (p + k) + 1), s.2)) ⟨?_, ?_, ?_, ?_, e4, z4⟩
        · show y1 + 1 = _
          rw [i1, i3_succ]
          congr 1
          unfold nl
          rw [cnt_succ, hl]
          rfl
        · show y2 = _
          rw [i2]
          congr 1
          unfold nd
          rw [cnt_succ, hl]
          rfl
        · show y3 * 32 + Int32.toInt64 (i3 (t (p + k)) - 97 + 1) = _
          rw [f32, if_pos hl, i3', i3_subL (by omega), i3_succ, i32_64 (by omega)]
          congr 2
          omega
        · show y5 = _
          rw [fN, if_pos hl, i4]
      · have hl : isL (t (p + k)) = false := by
          cases hb : isL (t (p + k)) with
          | false => rfl
          | true => exact absurd (isL_iff.mp hb).1 cl
        rw [if_pos (by show _ < i3 97; rw [i3_lt (by omega) (by omega)]; omega), hK]
        dsimp only
        rw [if_neg (by show ¬ _ < i3 48; rw [i3_lt (by omega) (by omega)]; omega), if_neg (by show ¬ i3 57 < _; rw [i3_lt (by omega) (by omega)]; omega), mx_letI, mx_letI, mx_letI]
        refine hs (y1, y2 + 1, y3, y5 * 10 + (i3 (t (p + k)) - 48), (mx_up s.1 1 4 (i3 (p + k) + 1), s.2)) ⟨?_, ?_, ?_, ?_, e4, z4⟩
        · show y1 = _
          rw [i1]
          congr 1
          unfold nl
          rw [cnt_succ, hl]
          rfl
        · show y2 + 1 = _
          rw [i2, i3_succ]
          congr 1
          unfold nd
          rw [cnt_succ, hl]
          rfl
        · show y3 = _
          rw [f32, hl, if_neg (by decide), i3']
        · show y5 * 10 + (i3 (t (p + k)) - 48) = _
          rw [fN, hl, if_neg (by decide), i4, i3_subL (by omega)]
  obtain ⟨⟨r1, r2, r3, r4, c1⟩, e1, h1, h2, h3, h4', h5, h6⟩ := key
  dsimp only at h1 h2 h3 h4' h5 h6
  refine ⟨c1, ?_, h5, h6⟩
  rw [e1, h1, h2, h3, h4']
theorem C_told {w : List Nat} (hw7 : wok w) (h7 : ∀ i, i < 22 → c.2 3 i = Int64.ofNat (p32 (wd i))) (h6 : c.1 1 6 = 2) : ∃ c', FX10_readChunk_L154 1 (Int64.ofNat (p32 w)) mx_FU (i3 0) c = some c' ∧ c'.1 1 6 = kdw w ∧ mx_out (fun b j => b = 1 ∧ j = 6) c c' := by
  have key : hw (FX10_readChunk_L154 1 (Int64.ofNat (p32 w)) mx_FU (i3 0) c) (fun c' => c'.1 1 6 = kdw w ∧ mx_out (fun b j => b = 1 ∧ j = 6) c c') := by
    refine lp_inv (L := fun fu y s => FX10_readChunk_L154 1 (Int64.ofNat (p32 w)) fu y s) (n := 22) (fun k s => (s.1 1 6 = match ff (fun i => decide (wd i = w)) k with
      | some i => i3 (100 + i)
      | none => 2) ∧ mx_out (fun b j => b = 1 ∧ j = 6) c s) ?_ ?_ 0 mx_FU c (by omega) (FU_lt (by omega)) ⟨h6, mx_out.rf⟩
    · intro fu s hI
      show hw (FX10_readChunk_L154 1 (Int64.ofNat (p32 w)) (fu + 1) (i3 22) s) _
      rw [FX10_readChunk_L154]
      exact hw_some ⟨hI.1, hI.2⟩
    · intro fu k s hk hI hs
      show hw (FX10_readChunk_L154 1 (Int64.ofNat (p32 w)) (fu + 1) (i3 k) s) _
      have e3 : s.2 (1 + 2) k = Int64.ofNat (p32 (wd k)) := by
        show s.2 3 k = _
        rw [(hI.2 3 k (by omega)).2]; exact h7 k hk
      rw [FX10_readChunk_L154, if_neg (by show ¬ i3 22 ≤ i3 k; rw [i3_le (by omega) (by omega)]; omega), mx_inb_i3 (by omega) (by omega), mx_chkT, i3_toNat (by omega), e3, mx_letI, mx_letI, mx_letI, i3_succ]
      by_cases c0 : wd k = w
      · rw [if_pos ((lgz _ _).mpr (by rw [c0]))]
        have hn : ff (fun i => decide (wd i = w)) (k + 1) = some k := by
          refine ff_some.mpr ⟨by omega, decide_eq_true c0, fun j hj => ?_⟩
          refine decide_eq_false (fun q => ?_)
          have := wd_inj j (by omega) k hk (q.trans c0.symm)
          omega
        refine hs _ ⟨?_, mx_out_up hI.2 rfl ⟨rfl, rfl⟩⟩
        rw [hn]
        refine (mx_up_self s.1 1 6 _).trans ?_
        exact i3_Ladd k 100
      · rw [if_neg (fun q => c0 ((w32_eq (wd_ok k hk) hw7).mp ((lgz _ _).mp q)))]
        refine hs s ⟨?_, hI.2⟩
        rw [hI.1]
        cases e : ff (fun i => decide (wd i = w)) k with
        | none =>
          have : ff (fun i => decide (wd i = w)) (k + 1) = none := ff_none.mpr (fun i hi => by
            by_cases q : i = k
            · rw [q]; exact decide_eq_false c0
            · exact ff_none.mp e i (by omega))
          rw [this]
        | some i =>
          obtain ⟨a1, a2, a3⟩ := ff_some.mp e
          have : ff (fun i => decide (wd i = w)) (k + 1) = some i := ff_some.mpr ⟨by omega, a2, a3⟩
          rw [this]
  obtain ⟨c1, e1, a, b⟩ := key
  exact ⟨c1, e1, a, b⟩
end ADV
