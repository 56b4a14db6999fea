/-! ===== sayings: piles and trees ===== -/
section SAIDB
variable {c c' d : mB} {a : Nat} {N : Rw}
/-- a part that stands for itself -/
theorem C_one (g : GI N) (s : SI N) (h : CG c a N) (hs : CS c a N) {u v sg : Nat} (h1 : 13 ≤ u) (h2 : u ≤ 21) (y x : Int32) (hv : u ≤ 14 ∨ (u = 15 ∨ u = 16) ∧ v < nP N ∧ x = i3 v ∨ u = 17 ∧ v ≤ 5 ∧ x = i3 v ∨ 18 ≤ u ∧ v ≤ 999 ∧ (sg = 60 ∨ sg = 61 ∨ sg = 62) ∧ y = i3 sg ∧ x = i3 v) : ∃ X, FX8_pointsOfOne a (i3 (100 + u)) y x c = some X ∧ ∀ p, p < 32 → bt X p = (decide (p < nP N) && lf N u v sg p) := by
  have hn := g.1.2
  have hK := s.1.2
  unfold FX8_pointsOfOne
  rcases (by omega : u = 13 ∨ u = 14 ∨ u = 15 ∨ u = 16 ∨ u = 17 ∨ 18 ≤ u) with e | e | e | e | e | e
  · subst e
    refine ⟨lnp N, ?_, fun p hp => ?_⟩
    · rw [if_pos (show i3 (100 + 13) = 113 from rfl), C_lonePoints g s h hs, ob_some]
    · unfold lnp lf
      rw [bt_fos (by omega) hp, if_pos rfl]
  · subst e
    refine ⟨tgs N, ?_, fun p hp => ?_⟩
    · rw [if_neg (show ¬ i3 (100 + 14) = 113 by decide), if_pos (show i3 (100 + 14) = 114 from rfl), C_tightPoints g s h hs, ob_some]
    · unfold lf
      rw [if_neg (by omega), if_pos rfl]
      by_cases q : p < nP N
      · rw [decide_eq_true q, Bool.true_and]
      · rw [decide_eq_false q, Bool.false_and]
        cases e : bt (tgs N) p with
        | false => rfl
        | true =>
          obtain ⟨l, a1, a2, a3⟩ := (bt_tgs g hp).mp e
          have := g.2.2.1 l a1
          omega
  · subst e
    have hv' : v < nP N ∧ x = i3 v := by
      rcases hv with q | ⟨-, q1, q2⟩ | q | q
      · omega
      · exact ⟨q1, q2⟩
      · omega
      · omega
    obtain ⟨hv1, rfl⟩ := hv'
    rw [if_neg (show ¬ i3 (100 + 15) = 113 by decide), if_neg (show ¬ i3 (100 + 15) = 114 by decide), if_pos (show i3 (100 + 15) = 115 from rfl), C_partnerOf_y g h hs hv1, ob_some]
    rcases prt s hv1 with q | ⟨r, q1, q2, q3, q4⟩
    · refine ⟨0, by rw [if_pos q], fun p hp => ?_⟩
      rw [bt_zero]
      unfold lf
      rw [if_neg (by omega), if_neg (by omega), if_pos rfl]
      by_cases w : p < nP N
      · rw [decide_eq_true w, Bool.true_and]
        cases e : decide (N (158 + p) = i3 v) with
        | false => rfl
        | true =>
          have e' := of_decide_eq_true e
          rcases prt s w with w2 | ⟨r2, w3, w4, w5, w6⟩
          · rw [w2] at e'
            exact absurd e'.symm (fun e => (i3_ne1 (a := v) (by omega)).mp e)
          · rw [w4, i3_eq (by omega) (by omega)] at e'
            subst e'
            rw [q] at w5
            exact absurd w5.symm (fun e => (i3_ne1 (a := p) (by omega)).mp e)
      · rw [decide_eq_false w, Bool.false_and]
    · refine ⟨pw r, by rw [if_neg (by rw [q2]; exact fun e => (i3_ne1 (a := r) (by omega)).mp e), ob_some, q2]; rfl, fun p hp => ?_⟩
      rw [bt_pwk (by omega) hp, Bool.eq_iff_iff, decide_eq_true_eq, Bool.and_eq_true, decide_eq_true_eq]
      unfold lf
      rw [if_neg (by omega), if_neg (by omega), if_pos rfl, decide_eq_true_eq]
      constructor
      · rintro rfl
        exact ⟨q1, q3⟩
      · rintro ⟨w1, w2⟩
        rcases prt s w1 with w3 | ⟨r2, w3, w4, w5, w6⟩
        · rw [w3] at w2
          exact absurd w2.symm (fun e => (i3_ne1 (a := v) (by omega)).mp e)
        · rw [w4, i3_eq (by omega) (by omega)] at w2
          subst w2
          rw [q2, i3_eq (by omega) (by omega)] at w5
          exact w5.symm
  · subst e
    have hv' : v < nP N ∧ x = i3 v := by
      rcases hv with q | ⟨-, q1, q2⟩ | q | q
      · omega
      · exact ⟨q1, q2⟩
      · omega
      · omega
    obtain ⟨hv1, rfl⟩ := hv'
    refine ⟨c.1 (a + 2) v, by rw [if_neg (show ¬ i3 (100 + 16) = 113 by decide), if_neg (show ¬ i3 (100 + 16) = 114 by decide), if_neg (show ¬ i3 (100 + 16) = 115 by decide), if_pos (show i3 (100 + 16) = 116 from rfl), C_nearTo_y g h hv1, ob_some], fun p hp => ?_⟩
    rw [h.2.1 v hv1 p]
    unfold lf
    rw [if_neg (by omega), if_neg (by omega), if_neg (by omega), if_pos rfl, lk_comm]
    by_cases w : p < nP N
    · rw [decide_eq_true w, Bool.true_and]
    · rw [decide_eq_false w, Bool.false_and]
      cases e : lk N p v with
      | false => rfl
      | true => exact absurd (lk_lt g e).1 w
  · subst e
    have hv' : v ≤ 5 ∧ x = i3 v := by
      rcases hv with q | q | ⟨-, q1, q2⟩ | q
      · omega
      · omega
      · exact ⟨q1, q2⟩
      · omega
    obtain ⟨hv1, rfl⟩ := hv'
    rw [if_neg (show ¬ i3 (100 + 17) = 113 by decide), if_neg (show ¬ i3 (100 + 17) = 114 by decide), if_neg (show ¬ i3 (100 + 17) = 115 by decide), if_neg (show ¬ i3 (100 + 17) = 116 by decide), if_pos (show i3 (100 + 17) = 117 from rfl)]
    have el : ∀ p, lf N 17 v sg p = (decide (v < nK N) && bt (N (178 + v)) p) := fun p => by
      unfold lf
      rw [if_neg (by omega), if_neg (by omega), if_neg (by omega), if_neg (by omega), if_pos rfl]
    by_cases q : v < nK N
    · refine ⟨N (178 + v), by rw [C_membersOf_y s hs q, ob_some], fun p hp => ?_⟩
      rw [el, decide_eq_true q, Bool.true_and]
      obtain ⟨-, m, e1, e2, -⟩ := s.2.2.2.2 v q
      by_cases w : p < nP N
      · rw [decide_eq_true w, Bool.true_and]
      · rw [decide_eq_false w, Bool.false_and, e1, bt_i3 hp]
        exact Nat.testBit_lt_two_pow (Nat.lt_of_lt_of_le e2 (Nat.pow_le_pow_right (by omega) (by omega)))
    · refine ⟨0, by rw [C_membersOf_n s hs (fun k hk e => by rw [i3_eq (by omega) (by omega)] at e; omega), ob_some], fun p hp => ?_⟩
      rw [el, decide_eq_false q, Bool.false_and, Bool.and_false, bt_zero]
  · have hv' : (sg = 60 ∨ sg = 61 ∨ sg = 62) ∧ y = i3 sg ∧ x = i3 v := by
      rcases hv with q | q | q | ⟨-, -, q1, q2, q3⟩
      · omega
      · omega
      · omega
      · exact ⟨q1, q2, q3⟩
    obtain ⟨hg, rfl, rfl⟩ := hv'
    refine ⟨fo (fun p s => if cmp sg (msr N u p) (i3 v) = true then s ||| pw p else s) (nP N) 0, ?_, fun p hp => ?_⟩
    · have ne : ∀ k, 100 + u ≠ k → k < 1000 → ¬ i3 (100 + u) = i3 k := fun k h1 h2 e => h1 ((i3_eq (by omega) (by omega)).mp e)
      rw [if_neg (show ¬ i3 (100 + u) = 113 from ne 113 (by omega) (by omega)), if_neg (show ¬ i3 (100 + u) = 114 from ne 114 (by omega) (by omega)), if_neg (show ¬ i3 (100 + u) = 115 from ne 115 (by omega) (by omega)), if_neg (show ¬ i3 (100 + u) = 116 from ne 116 (by omega) (by omega)), if_neg (show ¬ i3 (100 + u) = 117 from ne 117 (by omega) (by omega)), C_compared g s h hs e h2 hg, ob_some]
    · rw [bt_fos (by omega) hp]
      unfold lf
      rw [if_neg (by omega), if_neg (by omega), if_neg (by omega), if_neg (by omega), if_neg (by omega)]
/-- the same, by the reference -/
theorem M_one (g : GI N) (s : SI N) (hd : d.1 224 = N) {u v sg i p : Nat} (h1 : 13 ≤ u) (h2 : u ≤ 21) (hp : p < nP N) (hi : i < 40) (hR : N (192 + 4 * i) = i3 (50 + u)) (hv : u ≤ 14 ∨ (u = 15 ∨ u = 16) ∧ v < nP N ∧ N (193 + 4 * i) = i3 v ∨ u = 17 ∧ v ≤ 5 ∧ N (193 + 4 * i) = i3 v ∨ 18 ≤ u ∧ v ≤ 999 ∧ (sg = 60 ∨ sg = 61 ∨ sg = 62) ∧ N (195 + 4 * i) = i3 sg ∧ N (194 + 4 * i) = i3 v) (rec : Nat → Int32 → Int32 → mB → Option Int32) : FX12_holds_B rec 222 (i3 i) (i3 p) d = some (b2 (lf N u v sg p)) := by
  have hn := g.1.2
  have hK := s.1.2
  unfold FX12_holds_B
  have eN : ∀ x, d.1 (222 + 2) x = N x := fun x => by rw [← hd]
  rw [mx_letI, i3_Lmul, i3_Ladd, i3_succ, mx_inb_i3 (by omega) (by omega), mx_chkT, mx_letI, i3_addL, mx_inb_i3 (by omega) (by omega), mx_chkT, mx_letI, mx_inb_i3 (by omega) (by omega), mx_chkT, i3_addL, mx_inb_i3 (by omega) (by omega), i3_toNat (by omega), i3_toNat (by omega), i3_toNat (by omega), i3_toNat (by omega), eN (192 + 4 * i), eN (192 + 4 * i + 1), eN (192 + 4 * i + 2), eN (192 + 4 * i + 3), show 192 + 4 * i + 1 = 193 + 4 * i by omega, show 192 + 4 * i + 2 = 194 + 4 * i by omega, show 192 + 4 * i + 3 = 195 + 4 * i by omega, hR]
  have ne : ∀ k, 50 + u ≠ k → k < 1000 → ¬ i3 (50 + u) = i3 k := fun k h1 h2 e => h1 ((i3_eq (by omega) (by omega)).mp e)
  rw [if_neg (show ¬ i3 (50 + u) = 1 from ne 1 (by omega) (by omega)), if_neg (show ¬ i3 (50 + u) = 2 from ne 2 (by omega) (by omega)), if_neg (show ¬ i3 (50 + u) = 3 from ne 3 (by omega) (by omega))]
  have bb : ∀ b : Bool, mx_chk (mx_b01 (b2 b)) (some (b2 b)) = some (b2 b) := fun b => by rw [b2_01, mx_chkT]
  rcases (by omega : u = 13 ∨ u = 14 ∨ u = 15 ∨ u = 16 ∨ u = 17 ∨ 18 ≤ u) with e | e | e | e | e | e
  · subst e
    rw [if_pos (show i3 (50 + 13) = 63 from rfl), M_isLone_y g hd hp, ob_some, bb]
    rfl
  · subst e
    rw [if_neg (show ¬ i3 (50 + 14) = 63 from ne 63 (by omega) (by omega)), if_pos (show i3 (50 + 14) = 64 from rfl)]
    show Option.bind (FX12_partners 222 (i3 p) (b2 true) d) _ = _
    rw [M_partners g s hd hp true, ob_some]
    have tp := tight_ptn g hp
    unfold lf
    rw [if_neg (show ¬ 14 = 13 by omega), if_pos (show 14 = 14 from rfl)]
    by_cases q : ptn N p true = 0
    · rw [if_pos q, tp.mp q]; rfl
    · rw [if_neg q]
      cases e : bt (tgs N) p with
      | false => exact absurd (tp.mpr e) q
      | true => rfl
  · subst e
    have hv' : v < nP N ∧ N (193 + 4 * i) = i3 v := by
      rcases hv with q | ⟨-, q1, q2⟩ | q | q
      · omega
      · exact ⟨q1, q2⟩
      · omega
      · omega
    rw [if_neg (show ¬ i3 (50 + 15) = 63 from ne 63 (by omega) (by omega)), if_neg (show ¬ i3 (50 + 15) = 64 from ne 64 (by omega) (by omega)), if_pos (show i3 (50 + 15) = 65 from rfl), hv'.2, M_arePaired_y g hd hp, ob_some, bb]
    rfl
  · subst e
    have hv' : v < nP N ∧ N (193 + 4 * i) = i3 v := by
      rcases hv with q | ⟨-, q1, q2⟩ | q | q
      · omega
      · exact ⟨q1, q2⟩
      · omega
      · omega
    rw [if_neg (show ¬ i3 (50 + 16) = 63 from ne 63 (by omega) (by omega)), if_neg (show ¬ i3 (50 + 16) = 64 from ne 64 (by omega) (by omega)), if_neg (show ¬ i3 (50 + 16) = 65 from ne 65 (by omega) (by omega)), if_pos (show i3 (50 + 16) = 66 from rfl), hv'.2, M_areLinked g hd (by omega) (by omega), ob_some, bb]
    rfl
  · subst e
    have hv' : v ≤ 5 ∧ N (193 + 4 * i) = i3 v := by
      rcases hv with q | q | ⟨-, q1, q2⟩ | q
      · omega
      · omega
      · exact ⟨q1, q2⟩
      · omega
    have el : lf N 17 v sg p = (decide (v < nK N) && bt (N (178 + v)) p) := by
      unfold lf
      rw [if_neg (by omega), if_neg (by omega), if_neg (by omega), if_neg (by omega), if_pos rfl]
    rw [if_neg (show ¬ i3 (50 + 17) = 63 from ne 63 (by omega) (by omega)), if_neg (show ¬ i3 (50 + 17) = 64 from ne 64 (by omega) (by omega)), if_neg (show ¬ i3 (50 + 17) = 65 from ne 65 (by omega) (by omega)), if_neg (show ¬ i3 (50 + 17) = 66 from ne 66 (by omega) (by omega)), if_pos (show i3 (50 + 17) = 67 from rfl), hv'.2, el]
    by_cases q : v < nK N
    · rw [M_isOdd_y s hd q, ob_some, if_neg (show ¬ (1 : Int32) = 0 by decide), i3_Ladd, mx_inb_i3 (by omega) (by omega), mx_chkT, i3_toNat (by omega), eN, M_has _ (by omega), ob_some, decide_eq_true q, Bool.true_and]
      cases bt (N (178 + v)) p <;> rfl
    · rw [M_isOdd_n s hd (fun k hk e => by rw [i3_eq (by omega) (by omega)] at e; omega), ob_some, if_pos rfl, decide_eq_false q]
      rfl
  · have hv' : (sg = 60 ∨ sg = 61 ∨ sg = 62) ∧ N (195 + 4 * i) = i3 sg ∧ N (194 + 4 * i) = i3 v := by
      rcases hv with q | q | q | ⟨-, -, q1, q2, q3⟩
      · omega
      · omega
      · omega
      · exact ⟨q1, q2, q3⟩
    obtain ⟨hg, hy, hx⟩ := hv'
    rw [if_neg (show ¬ i3 (50 + u) = 63 from ne 63 (by omega) (by omega)), if_neg (show ¬ i3 (50 + u) = 64 from ne 64 (by omega) (by omega)), if_neg (show ¬ i3 (50 + u) = 65 from ne 65 (by omega) (by omega)), if_neg (show ¬ i3 (50 + u) = 66 from ne 66 (by omega) (by omega)), if_neg (show ¬ i3 (50 + u) = 67 from ne 67 (by omega) (by omega)), mx_letI, i3_subL (by omega), hy, hx]
    have nl : ∀ x y : Int32, (¬ y ≤ x) ↔ x < y := fun x y => by
      rw [Int32.le_iff_toInt_le, Int32.lt_iff_toInt_lt]; omega
    have tail : ∀ X : Int32, (if i3 sg = 60 then (if i3 v ≤ X then (some (0 : Int32)) else (some 1)) else (if i3 sg = 61 then (if X = i3 v then (some 1) else (some 0)) else (if X ≤ i3 v then (some 0) else (some 1)))) = some (b2 (cmp sg X (i3 v))) := fun X => by
      unfold cmp
      rcases hg with e | e | e <;> subst e
      · rw [if_pos (show i3 60 = 60 from rfl), if_pos (show 60 = 60 from rfl)]
        by_cases q : i3 v ≤ X
        · rw [if_pos q, decide_eq_false (fun w => (nl _ _).mpr w q)]; rfl
        · rw [if_neg q, decide_eq_true ((nl _ _).mp q)]; rfl
      · rw [if_neg (show ¬ i3 61 = 60 by decide), if_pos (show i3 61 = 61 from rfl), if_neg (show ¬ 61 = 60 by decide), if_pos (show 61 = 61 from rfl)]
        by_cases q : X = i3 v
        · rw [if_pos q, decide_eq_true q]; rfl
        · rw [if_neg q, decide_eq_false q]; rfl
      · rw [if_neg (show ¬ i3 62 = 60 by decide), if_neg (show ¬ i3 62 = 61 by decide), if_neg (show ¬ 62 = 60 by decide), if_neg (show ¬ 62 = 61 by decide)]
        by_cases q : X ≤ i3 v
        · rw [if_pos q, decide_eq_false (fun w => (nl _ _).mpr w q)]; rfl
        · rw [if_neg q, decide_eq_true ((nl _ _).mp q)]; rfl
    have el : lf N u v sg p = cmp sg (msr N u p) (i3 v) := by
      unfold lf
      rw [if_neg (by omega), if_neg (by omega), if_neg (by omega), if_neg (by omega), if_neg (by omega)]
    rw [el]
    rcases (by omega : u = 18 ∨ u = 19 ∨ u = 20 ∨ u = 21) with e | e | e | e <;> subst e
    · show (if i3 18 = 18 then _ else _) = _
      rw [if_pos (show i3 18 = 18 from rfl), i3_Ladd, mx_inb_i3 (by omega) (by omega), mx_chkT, mx_letI, i3_toNat (by omega), mx_chkT, eN, tail]
      rfl
    · show (if i3 19 = 18 then _ else if i3 19 = 19 then Option.bind (FX12_partners 222 (i3 p) (b2 false) d) _ else _) = _
      rw [if_neg (show ¬ i3 19 = 18 by decide), if_pos (show i3 19 = 19 from rfl), M_partners g s hd hp false, ob_some]
      obtain ⟨t, t1, t2, t3⟩ := i3_bits (x := ptn N p false) (fun k h1 h2 => ptn_hi g hp (by omega) h2)
      have em : msr N 19 p = i3 (pc t) := by
        unfold msr
        rw [if_neg (by omega), if_pos rfl, t2]
        show i3 (pc (BitVec.ofNat 32 t).toNat) = _
        rw [BitVec.toNat_ofNat, Nat.mod_eq_of_lt (by omega)]
      rw [em, t2, M_bits d t1, ob_some, mx_chkT, tail]
    · show (if i3 20 = 18 then _ else if i3 20 = 19 then _ else if i3 20 = 20 then Option.bind (FX12_weightOf 222 (i3 p) d) _ else _) = _
      rw [if_neg (show ¬ i3 20 = 18 by decide), if_neg (show ¬ i3 20 = 19 by decide), if_pos (show i3 20 = 20 from rfl)]
      have ew : FX12_weightOf 222 (i3 p) d = some (msr N 20 p) := by
        unfold FX12_weightOf msr wgt
        rw [M_isLone_y g hd hp, ob_some, if_neg (show ¬ 20 = 18 by omega), if_neg (show ¬ 20 = 19 by omega), if_pos (show 20 = 20 from rfl)]
        rcases prt s hp with q | ⟨r, q1, q2, q3, q4⟩
        · have hl : lone N p = true := decide_eq_true q
          rw [hl, if_neg (show ¬ b2 true = 0 by decide), if_pos rfl]
        · have hl : lone N p = false := decide_eq_false (by rw [q2]; exact fun e => (i3_ne1 (a := r) (by omega)).mp e)
          have er : ptq N p = r := by unfold ptq; rw [q2, i3_toNat (by omega)]
          rw [hl, if_pos (show b2 false = 0 from rfl), if_neg (show ¬ false = true by decide), i3_Ladd, mx_inb_i3 (by omega) (by omega), mx_chkT, i3_toNat (by omega), eN, q2, M_between g hd (by omega) (by omega), ob_some, er]
          unfold lk at q4
          cases el : li N p r with
          | none => rw [el] at q4; cases q4
          | some l =>
            have := (li_some el).1
            have hL := g.2.1.2
            show mx_chk (mx_inb (128 + i3 l) 432) (some (d.1 (222 + 2) (Int32.toNatClampNeg (128 + i3 l)))) = some (N (128 + l))
            rw [i3_Ladd, mx_inb_i3 (by omega) (by omega), mx_chkT, i3_toNat (by omega), eN]
      rw [ew, ob_some, mx_chkT, tail]
    · show (if i3 21 = 18 then _ else if i3 21 = 19 then _ else if i3 21 = 20 then _ else _) = _
      rw [if_neg (show ¬ i3 21 = 18 by decide), if_neg (show ¬ i3 21 = 19 by decide), if_neg (show ¬ i3 21 = 20 by decide), mx_chkT, tail]
      rfl
end SAIDB
