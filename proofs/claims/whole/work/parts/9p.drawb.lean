/-! ===== operations: drawn, odds ===== -/
section DRAWB
variable {c c' d d' : mB} {a : Nat} {N : Rw}
theorem D_run (ha : a = 4 ∨ a = 15) (h : Nt c a N) (hd : d.1 224 = N) {n : Nat} (hn : n ≤ 60) (x : Int32) : hb (FX1_run 185 a 38 (i3 n) x c) (FX12_drawDeeds 222 (i3 n) x d) (fun r s => ∃ u N', u ≤ n ∧ r.1 = i3 u ∧ s.1 = i3 u ∧ (u = 0 → N' = N) ∧ (∀ k, k < 125 ∨ 190 ≤ k → N' k = N k) ∧ Nt r.2 a N' ∧ s.2.1 224 = N' ∧ mx_out (WCd a) c r.2 ∧ mx_out WDd d s.2) := by
  have hh := h
  obtain ⟨g, s, hg, hs⟩ := hh
  have h10 := g.1.2
  unfold FX1_run FX12_drawDeeds
  rw [mx_letI]
  have ep : FX4_points a c = some (i3 (nP N)) := by
    unfold FX4_points
    rw [hg.1.1, g.1.1]
  rw [ep, ob_some]
  have zd : mx_out (fun b j => b = 222 ∧ j = 52) d (mx_up d.1 222 52 x, d.2) := mx_out_up mx_out.rf rfl ⟨rfl, rfl⟩
  have v2 : (mx_up d.1 222 52 x, d.2).1 222 52 = x := mx_up_self d.1 222 52 _
  generalize (mx_up d.1 222 52 x, d.2) = d1 at zd v2 ⊢
  have hd1 : d1.1 224 = N := by rw [zd.cell 224 (fun j => by omega)]; exact hd
  have zdD : mx_out WDd d d1 := zd.sub (fun b j q => Or.inr q)
  by_cases c1 : 1 ≤ nP N
  · rw [if_pos (by show i3 1 ≤ i3 _; rw [i3_le (by omega) (by omega)]; exact c1), mx_letI]
    have zc : mx_out (fun b j => b = 185 ∧ j = 0) c (mx_up c.1 185 0 x, c.2) := mx_out_up mx_out.rf rfl ⟨rfl, rfl⟩
    have v1 : (mx_up c.1 185 0 x, c.2).1 185 0 = x := mx_up_self c.1 185 0 _
    generalize (mx_up c.1 185 0 x, c.2) = c1 at zc v1 ⊢
    have D0 : DS a N c1 d1 := ⟨Nt_mem h (fun b w1 w2 => zc.cell b (fun j => by omega)), hd1, by rw [v1, v2]⟩
    refine hb_bind (P := fun r s => ∃ u N', u ≤ n ∧ r.1 = i3 u ∧ s.1 = i3 u ∧ (u = 0 → N' = N) ∧ (∀ k, k < 125 ∨ 190 ≤ k → N' k = N k) ∧ Nt r.2 a N' ∧ s.2.1 224 = N' ∧ mx_out (WCd a) c r.2 ∧ mx_out WDd d s.2) ?_ (fun r s q => hb_some q)
    refine lp_hb (S := Int32 × mB) (T := Int32 × mB) (L := fun fu y s => FX1_run_L22 185 a 38 (i3 n) fu s.1 y s.2) (M := fun fu y s => FX12_drawDeeds_L10 222 (i3 n) fu s.1 y s.2) (n := n) (fun k s t => ∃ u N', u ≤ k ∧ s.1 = i3 u ∧ t.1 = i3 u ∧ (u = 0 → N' = N) ∧ (∀ k, k < 125 ∨ 190 ≤ k → N' k = N k) ∧ DS a N' s.2 t.2 ∧ mx_out (WCd a) c s.2 ∧ mx_out WDd d t.2) ?_ ?_ 0 mx_FU mx_FU (0, c1) (0, d1) (by omega) (FU_lt (by omega)) (FU_lt (by omega)) ⟨0, N, by omega, rfl, rfl, fun _ => rfl, fun _ _ => rfl, D0, zc.sub (fun b j q => Or.inr q.1), zdD⟩
    · intro f f' s t ⟨u, N', h1, h2, h3, h4, h5, h6, h7, h8⟩
      show hb (FX1_run_L22 185 a 38 (i3 n) (f + 1) s.1 (i3 n) s.2) (FX12_drawDeeds_L10 222 (i3 n) (f' + 1) t.1 (i3 n) t.2) _
      rw [FX1_run_L22, FX12_drawDeeds_L10, if_pos (by rw [i3_le (by omega) (by omega)]; omega), if_pos (by rw [i3_le (by omega) (by omega)]; omega)]
      exact hb_some ⟨u, N', h1, h2, h3, h4, h5, h6.1, h6.2.1, h7, h8⟩
    · intro f f' k s t hk ⟨u, N', h1, h2, h3, h4, h5, h6, h7, h8⟩ hs2
      show hb (FX1_run_L22 185 a 38 (i3 n) (f + 1) s.1 (i3 k) s.2) (FX12_drawDeeds_L10 222 (i3 n) (f' + 1) t.1 (i3 k) t.2) _
      have hP' : nP N' = nP N := by unfold nP; rw [h5 0 (by omega)]
      have e0 : t.2.1 (222 + 2) 0 = i3 (nP N) := by show t.2.1 224 0 = _; rw [h6.2.1, h5 0 (by omega)]; exact g.1.1
      rw [FX1_run_L22, FX12_drawDeeds_L10, if_neg (by rw [i3_le (by omega) (by omega)]; omega), if_neg (by rw [i3_le (by omega) (by omega)]; omega), e0, if_neg (by show ¬ i3 _ ≤ i3 0; rw [i3_le (by omega) (by omega)]; omega)]
      refine hb_bind (D_done ha h6 (by omega)) (fun r5 s5 ⟨N2, k1, k2, k3, k4, k5⟩ => ?_)
      rw [h2, h3]
      have off : ∀ k, k < 125 ∨ 190 ≤ k → N2 k = N k := fun k hk => by rw [k1 k hk]; exact h5 k hk
      rcases k5 with ⟨k5, k6, k7⟩ | ⟨k5, k6⟩
      · rw [if_pos k5, if_pos k6, mx_letI, mx_letI, i3_succ]
        exact hs2 (i3 u, r5.2) (i3 u, s5.2) ⟨u, N2, by omega, rfl, rfl, fun q => by rw [k7]; exact h4 q, off, k2, mx_out.tr h7 k3, mx_out.tr h8 k4⟩
      · rw [if_neg (by rw [k5]; decide), if_neg (by rw [k6]; decide), mx_letI, mx_letI, mx_letI, mx_letI, i3_succ, i3_succ]
        exact hs2 (i3 (u + 1), r5.2) (i3 (u + 1), s5.2) ⟨u + 1, N2, by omega, rfl, rfl, fun q => by omega, off, k2, mx_out.tr h7 k3, mx_out.tr h8 k4⟩
  · have hP0 : nP N = 0 := by omega
    rw [if_neg (by show ¬ i3 1 ≤ i3 _; rw [i3_le (by omega) (by omega)]; exact c1)]
    have e0 : d1.1 (222 + 2) 0 = i3 0 := by show d1.1 224 0 = _; rw [hd1, g.1.1, hP0]
    have eL : FX12_drawDeeds_L10 222 (i3 n) mx_FU 0 0 d1 = some (0, d1) := by
      rw [mx_FU_eq, FX12_drawDeeds_L10, e0]
      by_cases q : i3 n ≤ 0
      · rw [if_pos q]
      · rw [if_neg q, if_pos (show i3 0 ≤ 0 by decide)]
    rw [mx_letI, eL, ob_some]
    exact hb_some ⟨0, N, by omega, rfl, rfl, fun _ => rfl, fun _ _ => rfl, h, hd1, mx_out.rf, zdD⟩
theorem RR_bs (h : RR c d) (hc : ag (fun b j => SC b j ∧ ¬ (b = 169 ∨ (4 ≤ b ∧ b ≤ 14) ∨ (68 ≤ b ∧ b ≤ 168))) c c') (hd : ag (fun b j => SD b j ∧ ¬ ((b = 222 ∧ (j = 25 ∨ j = 56)) ∨ b = 247 ∨ b = 224 ∨ b = 227)) d d') (hn : NE c' d') (hh : HI c' d') (hb2 : BK c' d') (hs : SY c' d') : RR c' d' := by
  obtain ⟨h1, h2, h3, h4, h5, h6, h7, h8, h9, h10, h11, h12, h13, h14⟩ := h
  exact ⟨TP_mv h1 (ag_sub hc (fun b j q => by unfold SC; omega)) (ag_sub hd (fun b j q => by unfold SD; omega)), FA_mv h2 (ag_sub hc (fun b j q => by unfold SC; omega)) (ag_sub hd (fun b j q => by unfold SD; omega)), hn, hh, RW_mv h5 (ag_sub hc (fun b j q => by unfold SC; omega)) (ag_sub hd (fun b j q => by unfold SD; omega)), RW_mv h6 (ag_sub hc (fun b j q => by unfold SC; omega)) (ag_sub hd (fun b j q => by unfold SD; omega)), PF_mv h7 (ag_sub hc (fun b j q => by unfold SC; omega)) (ag_sub hd (fun b j q => by unfold SD; omega)), AD_mv h8 (ag_sub hc (fun b j q => by unfold SC; omega)) (ag_sub hd (fun b j q => by unfold SD; omega)), RN_mv h9 (ag_sub hc (fun b j q => by unfold SC; omega)) (ag_sub hd (fun b j q => by unfold SD; omega)), HV_mv h10 (fun b q1 q2 => (ag_cell hc b (fun j => by unfold SC; omega)).1), hb2, hs, PI_mv h13 (ag_sub hc (fun b j q => by unfold SC; omega)) (ag_sub hd (fun b j q => by unfold SD; omega)), RN_mv h14 (ag_sub hc (fun b j q => by unfold SC; omega)) (ag_sub hd (fun b j q => by unfold SD; omega))⟩
/-- what the deeds of a book or of draws may change -/
def WCe : Nat → Nat → Prop := fun b j => WN b j ∨ SW 39 b j ∨ b = 185 ∨ b = 169
def WDe : Nat → Nat → Prop := fun b j => b = 224 ∨ b = 228 ∨ b = 229 ∨ b = 235 ∨ b = 247 ∨ (b = 222 ∧ (j = 52 ∨ j = 56))
theorem RR_done2 (h : RR c d) {a k : Nat} (hk : d.1 222 25 = i3 k) {c1 c2 : mB} (h1 : HK c1 d a k) (hm : NR c1 (70 + 11 * a) (d.1 224) (d.2 230)) (z1 : mx_out (fun b _ => 70 ≤ b ∧ b ≤ 168) c c1) {N' : Rw} (hN2 : Nt c2 4 N') (z2 : mx_out WCe c1 c2) (hN : ∀ k, k < 125 ∨ 190 ≤ k → N' k = d.1 224 k)
    {d2 : mB} (zd : mx_out WDe d d2) (e224 : d2.1 224 = d.1 224) (hB : BK c2 d2) :
    ∃ c3 d1, FX3_keep 68 c2 = some c3 ∧ FX12_snap 222 d2 = some d1 ∧ d1.1 224 = d.1 224 ∧ d1.1 228 = d2.1 228 ∧ RR c3 (sr d1 N') := by
  have h8 := h1.2.1
  have hk2 : d2.1 222 25 = i3 k := by rw [zd.fld 222 25 (by unfold WDe; omega)]; exact hk
  obtain ⟨d1, e1, s1, s2, s3⟩ := M_snap hk2 h8
  have zs := ZX12_snap e1
  have f224 : d1.1 224 = d.1 224 := by rw [zs.cell 224 (fun j => by unfold WSX12_snap; omega)]; exact e224
  have f230 : d1.2 230 = d.2 230 := by rw [zs.cellL 230 (fun j => by unfold WSX12_snap; omega), zd.cellL 230 (fun j => by unfold WDe; omega)]
  have f227 : d2.1 227 = d.1 227 := zd.cell 227 (fun j => by unfold WDe; omega)
  have hN1 : ∀ k, k < 125 ∨ 190 ≤ k → N' k = d1.1 224 k := fun k q => by rw [f224]; exact hN k q
  have zr := sr_ag d1 hN1
  have H2 : HK c2 d a k := HK_mv h1 (fun b q1 q2 => ⟨z2.cell b (fun j => by unfold WCe WN SW; omega), z2.cellL b (fun j => by unfold WCe WN SW; omega)⟩) (fun _ _ => rfl) rfl rfl
  have hm2 : NR c2 (70 + 11 * a) (d.1 224) (d.2 230) := NR_mem hm (fun b q1 q2 => z2.cell b (fun j => by have := h1.1; unfold WCe WN SW; omega)) (z2.cellL _ (fun j => by have := h1.1; unfold WCe WN SW; omega))
  obtain ⟨c3, e3, H3, z3'⟩ := C_keep (d' := sr d1 N') H2 hm2 (fun x _ => rfl) (fun j q1 q2 x hx => by rw [sr_ne _ _ (by omega), s2 j q1 q2 x hx, f227]) (fun x hx => by rw [sr_ne _ _ (by omega), s3 x hx, e224]) (fun x hx => by rw [sr_row]; exact hN x (Or.inl hx)) (by rw [sr_2, f230])
  have hcA : ag (fun b j => SC b j ∧ ¬ (b = 169 ∨ (4 ≤ b ∧ b ≤ 14) ∨ (68 ≤ b ∧ b ≤ 168))) c c3 := ag_tr (ag_of z1 (fun b j q => by omega)) (ag_tr (ag_of z2 (fun b j q => by unfold SC at q; unfold WCe WN SW; omega)) (ag_of z3' (fun b j q => by omega)))
  refine ⟨c3, d1, e3, e1, f224, zs.cell 228 (fun j => by unfold WSX12_snap; omega), RR_bs h hcA (ag_tr (ag_tr (ag_of zd (fun b j q => by unfold SD at q; unfold WDe; omega)) (ag_of zs (fun b j q => by unfold SD at q; unfold WSX12_snap; omega))) (ag_sub zr (fun b j q => by omega))) ?_ ⟨_, _, H3, ?_⟩ ?_ ?_⟩
  · unfold NE
    rw [sr_row, sr_2, f230]
    refine ⟨Nt_mem hN2 (fun b q1 q2 => z3'.cell b (fun j => by omega)), fun p hp => ?_⟩
    have e5 : c3.2 (4 + 1) = c.2 (4 + 1) := by rw [z3'.cellL _ (fun j => by omega), z2.cellL _ (fun j => by unfold WCe WN SW; omega), z1.cellL _ (fun j => by omega)]
    rw [e5]
    refine h.2.2.1.2 p ?_
    have : nP N' = nP (d.1 224) := by unfold nP; rw [hN 0 (by omega)]
    rw [← this]; exact hp
  · rw [sr_ne _ _ (by omega), s1]
  · exact BK_mv hB (ag_of z3' (fun b j q => by omega)) (ag_tr (ag_of zs (fun b j q => by unfold WSX12_snap; omega)) (ag_sub zr (fun b j q => by omega)))
  · refine SYa_mv h.2.2.2.2.2.2.2.2.2.2.2.1 (ag_sub hcA (fun b j q => by unfold SC; omega)) ?_ (fun x h1 h2 => ?_)
    · rw [sr_row]; exact hN 0 (by omega)
    · rw [sr_row]; exact hN x (by omega)
end DRAWB
