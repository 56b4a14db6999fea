/-! ===== operations: drawn, odds ===== -/
section DRAWC
variable {c c' d d' : mB} {N : Rw}
theorem cb_of {N N' : Rw} {S : Nat → Int32} (hS : ∀ k, k < 65 → S k = N' (125 + k)) (hN : ∀ k, k < 125 ∨ 190 ≤ k → N' k = N k) : cb N S = N' := by
  funext x
  unfold cb
  by_cases q : 125 ≤ x ∧ x < 190
  · rw [if_pos q, hS _ (by omega), show 125 + (x - 125) = x by omega]
  · rw [if_neg q, hN x (by omega)]
theorem M_savea (q : Nat) (hq : q ≠ 224) : ∃ d', FX12_save 222 q 65 0 d = some d' ∧ (∀ k, k < 65 → d'.1 q k = d.1 224 (125 + k)) ∧ mx_out (fun b _ => b = q) d d' := by
  refine ⟨seg d q 0, M_save (fr := 0) hq (by omega) (by omega), fun k hk => ?_, fun b j w => ?_⟩
  · simp [seg, hk]
  · refine ⟨?_, rfl⟩
    simp [seg, w]
theorem sr_out1 (d : mB) (N' : Rw) : mx_out (fun b _ => b = 224) d (sr d N') := fun b j q => ⟨by rw [sr_ne _ _ q], rfl⟩
theorem M_stay (x : Int32) {N' : Rw} (hN : ∀ k, k < 125 ∨ 190 ≤ k → N' k = N k) (h : d.1 224 = N') (ht : ∀ k, k < 65 → d.1 229 k = N (125 + k)) : ∃ d2, mx_out (fun b _ => b = 224 ∨ b = 228) d d2 ∧ d2.1 224 = N ∧ FX12_stay 222 x d = (if x = 0 then some d2 else Option.bind (FX12_snap 222 d2) (fun r4 => Option.bind (FX12_comeBack 222 228 65 0 r4) (fun r5 => some r5))) ∧ (∀ k, k < 65 → d2.1 228 k = N' (125 + k)) := by
  obtain ⟨d1, e1, v1, z1⟩ := M_savea (d := d) 228 (by omega)
  have h1 : d1.1 224 = N' := by rw [z1.cell 224 (fun j => by omega)]; exact h
  have e2 := M_comeBack h1 (q := 229) (w := 65) (fr := 0) (by omega) (by omega) (by omega)
  rw [cb_of (N' := N) (fun k hk => by rw [Nat.zero_add, z1.cell 229 (fun j => by omega)]; exact ht k hk) (fun k hk => (hN k hk).symm)] at e2
  refine ⟨sr d1 N, mx_out.tr (z1.sub (fun b j q => Or.inr q)) ((sr_out1 d1 N).sub (fun b j q => Or.inl q)), sr_row _ _, ?_, fun k hk => by rw [sr_ne _ _ (by omega), v1 k hk, h]⟩
  · unfold FX12_stay
    show Option.bind (FX12_save 222 228 65 0 d) _ = _
    rw [e1, ob_some]
    show Option.bind (FX12_comeBack 222 229 65 (i3 0) d1) _ = _
    rw [e2, ob_some]
def WCf : Nat → Nat → Prop := fun b j => WCe b j ∨ (15 ≤ b ∧ b ≤ 25)
theorem RR_same (h : RR c d) (zc : mx_out WCf c c') (zd : mx_out WDe d d') (hn : Nt c' 4 (d.1 224)) (e224 : d'.1 224 = d.1 224) (hB : BK c' d') : RR c' d' := by
  have hcA : ag (fun b j => SC b j ∧ ¬ (b = 169 ∨ (4 ≤ b ∧ b ≤ 14))) c c' := ag_of zc (fun b j q => by unfold SC at q; unfold WCf WCe WN SW; omega)
  refine RR_bs h (ag_sub hcA (fun b j q => ⟨q.1, by omega⟩)) (ag_of zd (fun b j q => by unfold SD at q; unfold WDe; omega)) ?_ ?_ hB ?_
  · unfold NE
    rw [e224, zd.cellL 230 (fun j => by unfold WDe; omega)]
    refine ⟨hn, fun p hp => ?_⟩
    rw [zc.cellL (4 + 1) (fun j => by unfold WCf WCe WN SW; omega)]
    exact h.2.2.1.2 p hp
  · obtain ⟨a, k, h1, h2⟩ := h.2.2.2.1
    refine ⟨a, k, HK_mv h1 (fun b q1 q2 => ⟨zc.cell b (fun j => by unfold WCf WCe WN SW; omega), zc.cellL b (fun j => by unfold WCf WCe WN SW; omega)⟩) (fun x _ => by rw [e224]) (zd.cell 227 (fun j => by unfold WDe; omega)) (zd.cellL 230 (fun j => by unfold WDe; omega)), ?_⟩
    rw [zd.fld 222 25 (by unfold WDe; omega)]; exact h2
  · refine SYa_mv h.2.2.2.2.2.2.2.2.2.2.2.1 (ag_sub hcA (fun b j q => by unfold SC; omega)) ?_ (fun x h1 h2 => ?_)
    · rw [e224]
    · rw [e224]
theorem WCd_e {c c' : mB} (z : mx_out (WCd 4) c c') : mx_out WCe c c' := z.sub (fun b j q => by unfold WCd WC0 at q; unfold WCe WN; rcases q with ((q | q) | q) | q <;> first | omega | exact Or.inr (Or.inl q))
theorem WDd_e {d d' : mB} (z : mx_out WDd d d') : mx_out WDe d d' := z.sub (fun b j q => by unfold WDd WD0 at q; unfold WDe; omega)
theorem O_drawn (h : RR c d) (x y : Int32) : Sm (FX11_drawn 0 x y c) (FX12_drawn 222 x y d) := by
  have h0 := th0 h 0
  unfold FX12_drawn
  rw [mx_letI]
  generalize (mx_up d.1 222 0 0, d.2) = d0 at h0 ⊢
  unfold FX11_drawn
  show Sm _ (Option.bind (FX12_isIn x (i3 1) (i3 60) d0) _)
  rcases M_in (x := x) (lo := 1) (hi := 60) (by omega) (by omega) d0 with ⟨w, rfl, w1, w2, e⟩ | ⟨w1, e⟩
  · rw [e, ob_some, if_neg (show ¬ (1 : Int32) = 0 by decide), if_neg (by show ¬ i3 w < i3 1; rw [i3_lt (by omega) (by omega)]; omega), if_pos (by show i3 w ≤ i3 60; rw [i3_le (by omega) (by omega)]; omega)]
    obtain ⟨a, k, hH, hk⟩ := h0.2.2.2.1
    obtain ⟨c1, e1, H1, M1, N1', z1⟩ := C_mark hH h0.2.2.1
    obtain ⟨d1, f1, v1, y1⟩ := M_savea (d := d0) 229 (by omega)
    have g1 : d1.1 224 = d0.1 224 := y1.cell 224 (fun j => by omega)
    obtain ⟨⟨r2, c2⟩, ⟨s2, d2⟩, e2, f2, u, N', hu, q1, q2, q3, q4, q5, q6, q7, q8⟩ := D_run (Or.inl rfl) N1'.1 g1 w2 y
    dsimp only at q1 q2 q5 q6 q7 q8
    subst q1 q2
    show Sm (Option.bind (FX3_mark 68 4 c) _) (Option.bind (FX12_save 222 229 65 0 d0) _)
    rw [e1, f1, ob_some, ob_some]
    show Sm (Option.bind (FX1_run 185 4 38 (i3 w) y c1) _) _
    rw [e2, f2, ob_some, ob_some]
    dsimp only
    have zc2 := WCd_e q7
    have zd2 : mx_out WDe d0 d2 := mx_out.tr (y1.sub (fun b j q => by unfold WDe; omega)) (WDd_e q8)
    have t2 : ∀ k, k < 65 → d2.1 229 k = d0.1 224 (125 + k) := fun k hk => by rw [q8.fld 229 k (by unfold WDd WD0; omega)]; exact v1 k hk
    have B2 : ∀ {d3 : mB}, mx_out (fun b _ => b = 224 ∨ b = 228) d2 d3 → BK c2 d3 := fun z => BK_mv h0.2.2.2.2.2.2.2.2.2.2.1 (ag_tr (ag_of z1 (fun b j q => by omega)) (ag_of q7 (fun b j q => by unfold WCd WC0 SW; omega))) (ag_tr (ag_tr (ag_of y1 (fun b j q => by omega)) (ag_of q8 (fun b j q => by unfold WDd WD0; omega))) (ag_of z (fun b j q => by omega)))
    by_cases c0 : u = 0
    · obtain ⟨d3, z3, n3, e3, -⟩ := M_stay (d := d2) 0 q4 q6 t2
      rw [if_pos (show (0 : Int32) = 0 from rfl)] at e3
      have hN' := q3 c0
      subst c0
      rw [if_pos (show i3 0 ≤ 0 by decide), if_pos (show i3 0 ≤ 0 by decide), e3, ob_some]
      refine hb_some ⟨rfl, RR_same (RR_ref h0 H1 hk N1' z1) (zc2.sub (fun b j q => Or.inl q)) (mx_out.tr zd2 (z3.sub (fun b j q => by unfold WDe; omega))) (by rw [← hN']; exact q5) n3 (B2 z3)⟩
    · obtain ⟨d3, z3, n3, e3, v3⟩ := M_stay (d := d2) 1 q4 q6 t2
      rw [if_neg (show ¬ (1 : Int32) = 0 by decide)] at e3
      obtain ⟨c4, d4, k1, k2, k3, k4, R⟩ := RR_done2 h0 hk H1 M1 z1 q5 zc2 q4 (mx_out.tr zd2 (z3.sub (fun b j q => by unfold WDe; omega))) n3 (B2 z3)
      have ng : ¬ i3 u ≤ 0 := by show ¬ i3 u ≤ i3 0; rw [i3_le (by omega) (by omega)]; omega
      have cm := M_comeBack k3 (q := 228) (w := 65) (fr := 0) (by omega) (by omega) (by omega)
      rw [cb_of (N' := N') (fun k hk => by rw [Nat.zero_add, k4]; exact v3 k hk) q4] at cm
      rw [if_neg ng, if_neg ng, e3, k2, ob_some]
      show Sm (Option.bind (FX3_keep 68 c2) _) (Option.bind (Option.bind (FX12_comeBack 222 228 65 (i3 0) d4) _) _)
      rw [k1, cm, ob_some, ob_some, ob_some]
      exact hb_some ⟨rfl, R⟩
  · rw [e, ob_some, if_pos rfl]
    rcases w1 with w1 | w1
    · have w1' : x < 1 := w1
      rw [if_pos w1']
      exact hb_some ⟨rfl, h0⟩
    · have w1' : ¬ x ≤ 60 := by
        intro q
        have w2 : (60 : Int32) < x := w1
        rw [Int32.lt_iff_toInt_lt] at w2
        rw [Int32.le_iff_toInt_le] at q
        omega
      rw [if_neg w1']
      by_cases q : x < 1
      · rw [if_pos q]; exact hb_some ⟨rfl, h0⟩
      · rw [if_neg q]; exact hb_some ⟨rfl, h0⟩
theorem O_odds (h : RR c d) (x y z : Int32) : Sm (FX11_odds 0 x y z c) (FX12_odds 222 x y z d) := by
  have h0 := th0 h 0
  unfold FX12_odds
  rw [mx_letI]
  generalize (mx_up d.1 222 0 0, d.2) = d0 at h0 ⊢
  unfold FX11_odds
  obtain ⟨g, si, hg, hs⟩ := h0.2.2.1.1
  have hn := g.1.2
  show Sm (Option.bind (FX4_hasPoint 4 x c) _) _
  rcases i3_cases x (nP (d0.1 224)) (by omega) with ⟨p, hp, rfl⟩ | ⟨-, hx⟩
  · rw [C_hasPoint_y g hg hp, M_isPoint_y g rfl hp, ob_some, ob_some, if_neg (show ¬ (1 : Int32) = 0 by decide), if_neg (show ¬ (1 : Int32) = 0 by decide)]
    show Sm _ (Option.bind (FX12_isIn y (i3 1) (i3 20) d0) _)
    rcases M_in (x := y) (lo := 1) (hi := 20) (by omega) (by omega) d0 with ⟨w, rfl, w1, w2, e⟩ | ⟨w1, e⟩
    · rw [e, ob_some, if_neg (show ¬ (1 : Int32) = 0 by decide), if_neg (by show ¬ i3 w < i3 1; rw [i3_lt (by omega) (by omega)]; omega), if_pos (by show i3 w ≤ i3 20; rw [i3_le (by omega) (by omega)]; omega)]
      obtain ⟨d1, f1, v1, y1⟩ := M_savea (d := d0) 229 (by omega)
      show Sm _ (Option.bind (FX12_save 222 229 65 0 d0) _)
      rw [f1, ob_some]
      refine hb_bind (P := fun r s => r.1 = s.1 ∧ RR r.2 s.2) ?_ (fun r s q => hb_some q)
      refine lp_hb (S := Int32 × mB) (T := Int32 × mB) (L := fun fu v s => FX11_odds_L30 0 (i3 p) (i3 w) z fu s.1 v s.2) (M := fun fu v s => FX12_odds_L40 222 (i3 p) (i3 w) z fu s.1 v s.2) (n := w) (fun k s t => s.1 = t.1 ∧ mx_out (fun b j => (15 ≤ b ∧ b ≤ 25) ∨ SW 39 b j ∨ b = 185) c s.2 ∧ mx_out (fun b j => WDd b j ∨ b = 229) d0 t.2 ∧ t.2.1 224 = d0.1 224 ∧ ∀ k, k < 65 → t.2.1 229 k = d0.1 224 (125 + k)) ?_ ?_ 0 mx_FU mx_FU (0, c) (0, d1) (by omega) (FU_lt (by omega)) (FU_lt (by omega)) ⟨rfl, mx_out.rf, y1.sub (fun b j q => Or.inr q), y1.cell 224 (fun j => by omega), v1⟩
      · intro f f' s t ⟨a1, a2, a3, a4, a5⟩
        show hb (FX11_odds_L30 0 (i3 p) (i3 w) z (f + 1) s.1 (i3 w) s.2) (FX12_odds_L40 222 (i3 p) (i3 w) z (f' + 1) t.1 (i3 w) t.2) _
        rw [FX11_odds_L30, FX12_odds_L40, if_pos (by rw [i3_le (by omega) (by omega)]; omega), if_pos (by rw [i3_le (by omega) (by omega)]; omega)]
        refine hb_some ⟨a1, RR_same h0 (a2.sub (fun b j q => by unfold WCf WCe; rcases q with q | q | q; exact Or.inr q; exact Or.inl (Or.inr (Or.inl q)); exact Or.inl (Or.inr (Or.inr (Or.inl q))))) (a3.sub (fun b j q => by unfold WDd WD0 at q; unfold WDe; omega)) (Nt_mem ⟨g, si, hg, hs⟩ (fun b q1 q2 => a2.cell b (fun j => by unfold SW; omega))) a4 (BK_mv h0.2.2.2.2.2.2.2.2.2.2.1 (ag_of a2 (fun b j q => by unfold SW; omega)) (ag_of a3 (fun b j q => by unfold WDd WD0; omega)))⟩
      · intro f f' k s t hk ⟨a1, a2, a3, a4, a5⟩ hs2
        show hb (FX11_odds_L30 0 (i3 p) (i3 w) z (f + 1) s.1 (i3 k) s.2) (FX12_odds_L40 222 (i3 p) (i3 w) z (f' + 1) t.1 (i3 k) t.2) _
        rw [FX11_odds_L30, FX12_odds_L40, if_neg (by rw [i3_le (by omega) (by omega)]; omega), if_neg (by rw [i3_le (by omega) (by omega)]; omega)]
        have hN4 : Nt s.2 4 (d0.1 224) := Nt_mem ⟨g, si, hg, hs⟩ (fun b q1 q2 => a2.cell b (fun j => by unfold SW; omega))
        obtain ⟨c1, e1, n1, l1⟩ := C_copyFrom (a := 15) hN4 (by omega)
        have z1 := ZX4_copyFrom e1
        obtain ⟨⟨r2, c2⟩, ⟨s2, d2⟩, e2, f2, u, N', hu, q1, q2, q3, q4, q5, q6, q7, q8⟩ := D_run (n := 12) (Or.inr rfl) n1 a4 (by omega) (z + i3 k)
        dsimp only at q1 q2 q5 q6 q7 q8
        have hp' : p < nP N' := by unfold nP; rw [q4 0 (by omega)]; exact hp
        show hb (Option.bind (FX4_copyFrom 15 4 s.2) _) (Option.bind (FX12_drawDeeds 222 (i3 12) (z + i3 k) t.2) _) _
        rw [e1, f2, ob_some, ob_some]
        show hb (Option.bind (FX1_run 185 15 38 (i3 12) (z + i3 k) c1) _) _ _
        rw [e2, ob_some]
        dsimp only
        show hb (Option.bind (FX4_isLone 15 (i3 p) c2) _) _ _
        rw [C_isLone_y q5.1 q5.2.2.1 q5.2.2.2 hp', M_isLone_y q5.1 q6 hp', ob_some, ob_some]
        unfold lone
        have cm := M_comeBack q6 (q := 229) (w := 65) (fr := 0) (by omega) (by omega) (by omega)
        rw [cb_of (N' := d0.1 224) (fun k hk => by rw [Nat.zero_add, q8.fld 229 k (by unfold WDd WD0; omega)]; exact a5 k hk) (fun k hk => (q4 k hk).symm)] at cm
        have zs := sr_out1 d2 (d0.1 224)
        have b1 : mx_out (fun b j => (15 ≤ b ∧ b ≤ 25) ∨ SW 39 b j ∨ b = 185) c c2 := mx_out.tr a2 (mx_out.tr (z1.sub (fun b j q => by unfold WSX4_copyFrom at q; omega)) (q7.sub (fun b j q => by unfold WCd WC0 at q; rcases q with (q | q) | q; exact Or.inl (by omega); exact Or.inr (Or.inl q); exact Or.inr (Or.inr q))))
        have b2' : mx_out (fun b j => WDd b j ∨ b = 229) d0 (sr d2 (d0.1 224)) := mx_out.tr a3 (mx_out.tr (q8.sub (fun b j q => Or.inl q)) (zs.sub (fun b j q => by unfold WDd WD0; omega)))
        have b5 : ∀ k, k < 65 → (sr d2 (d0.1 224)).1 229 k = d0.1 224 (125 + k) := fun k hk => by rw [sr_ne _ _ (by omega), q8.fld 229 k (by unfold WDd WD0; omega)]; exact a5 k hk
        have cm' : FX12_comeBack 222 (222 + 7) 65 0 d2 = some (sr d2 (d0.1 224)) := cm
        by_cases q : N' (158 + p) = -1
        · rw [decide_eq_true q, if_neg (show ¬ b2 true = 0 by decide), if_neg (show ¬ b2 true = 0 by decide), cm', ob_some, mx_letI, mx_letI, i3_succ]
          exact hs2 (s.1, c2) (t.1, sr d2 (d0.1 224)) ⟨a1, b1, b2', sr_row _ _, b5⟩
        · rw [decide_eq_false q, if_pos (show b2 false = 0 from rfl), if_pos (show b2 false = 0 from rfl), mx_letI, mx_letI, mx_letI, cm', ob_some, mx_letI, i3_succ]
          exact hs2 (s.1 + 1, c2) (t.1 + 1, sr d2 (d0.1 224)) ⟨by dsimp only; rw [a1], b1, b2', sr_row _ _, b5⟩
    · rw [e, ob_some, if_pos rfl]
      rcases w1 with w1 | w1
      · have w1' : y < 1 := w1
        rw [if_pos w1']
        exact hb_some ⟨rfl, h0⟩
      · have w1' : ¬ y ≤ 20 := by
          intro q
          have w2 : (20 : Int32) < y := w1
          rw [Int32.lt_iff_toInt_lt] at w2
          rw [Int32.le_iff_toInt_le] at q
          omega
        rw [if_neg w1']
        by_cases q : y < 1
        · rw [if_pos q]; exact hb_some ⟨rfl, h0⟩
        · rw [if_neg q]; exact hb_some ⟨rfl, h0⟩
  · rw [C_hasPoint_n g hg hx, M_isPoint_n g rfl hx, ob_some, ob_some, if_pos rfl, if_pos rfl]
    exact hb_some ⟨rfl, h0⟩
end DRAWC
