/-! ===== operation: book ===== -/
section BOOKF
variable {c c' d d' : mB} {a n lim p l P : Nat} {t : Nat → Nat} {N : Rw}
def WJ (a : Nat) : Nat → Nat → Prop := fun b j => WC0 a b j ∨ (b = 169 ∧ 5 ≤ j)
def WK (a : Nat) : Nat → Nat → Prop := fun b j => WC0 a b j ∨ (b = 169 ∧ (j = 6 ∨ j = 7))
theorem B_jl (ha : a = 4 ∨ a = 15) (x : Int32) : ∀ (f f' k : Nat) {c d : mB} {N : Rw}, k ≤ l → l - k + 1 < f → l - k + 1 < f' → BI P l c d → Nt c a N → d.1 224 = N → nP N = P → c.1 169 6 = 0 → c.1 169 7 = i3 k →
    hb (FX0_judge_L17 169 a 38 f (i3 k) c) (FX12_book_L78 222 x f' (i3 k) 0 d) (fun c' s => ∃ k' N', k ≤ k' ∧ k' ≤ l ∧ s.1 = i3 k' ∧ c'.1 169 7 = i3 k' ∧ c'.1 169 6 = s.2.1 ∧ Nt c' a N' ∧ s.2.2.1 224 = N' ∧ (∀ k, k < 125 ∨ 190 ≤ k → N' k = N k) ∧ (k' = k → N' = N) ∧ mx_out (WK a) c c' ∧ mx_out WD0 d s.2.2) := by
  intro f
  induction f with
  | zero => intro f' k c d N _ hf; omega
  | succ f ih =>
    intro f' k c d N hk hf hf' hB hc hd hP h6 h7
    obtain ⟨f', rfl⟩ : ∃ g, f' = g + 1 := ⟨f' - 1, by omega⟩
    have hB' := hB
    obtain ⟨b1, b2', b3, b4⟩ := hB'
    rw [FX0_judge_L17, FX12_book_L78, b1, b2']
    by_cases q : l ≤ k
    · have qq : i3 l ≤ i3 k := by rw [i3_le (by omega) (by omega)]; exact q
      rw [if_pos qq, if_pos qq]
      exact hb_some ⟨k, N, by omega, hk, rfl, h7, h6, hc, hd, fun _ _ => rfl, fun _ => rfl, mx_out.rf, mx_out.rf⟩
    · have qq : ¬ i3 l ≤ i3 k := by rw [i3_le (by omega) (by omega)]; exact q
      rw [if_neg qq, if_neg qq, h6, if_pos (show (0 : Int32) = 0 from rfl), if_pos (show (0 : Int32) = 0 from rfl), i3_Lmul]
      have BL1 := b4 k (by omega)
      rw [← hP] at BL1
      refine hb_bind (B_live ha (i := k) (by omega) BL1 hc hd) (fun r s ⟨e0, N', o1, o2, o3, z1, z2, o4⟩ => ?_)
      obtain ⟨r1, c1⟩ := r
      obtain ⟨s1, d1⟩ := s
      dsimp only at e0 o1 o2 o3 z1 z2 o4 ⊢
      subst e0
      rw [mx_letI]
      have zc : mx_out (fun b j => b = 169 ∧ j = 6) c1 (mx_up c1.1 169 6 r1, c1.2) := mx_out_up mx_out.rf rfl ⟨rfl, rfl⟩
      have vc : (mx_up c1.1 169 6 r1, c1.2).1 169 6 = r1 := mx_up_self c1.1 169 6 _
      generalize (mx_up c1.1 169 6 r1, c1.2) = c2 at zc vc ⊢
      have v7 : c2.1 169 7 = i3 k := by rw [zc.fld 169 7 (by omega), z1.fld 169 7 (by unfold WC0 SW; omega)]; exact h7
      have zA : mx_out (WK a) c c2 := mx_out.tr (z1.sub (fun b j q => Or.inl q)) (zc.sub (fun b j q => Or.inr (by omega)))
      have o2' : Nt c2 a N' := Nt_mem o2 (fun b w1 w2 => zc.cell b (fun j => by omega))
      have hP' : nP N' = P := by unfold nP; rw [o1 0 (by omega)]; exact hP
      rw [vc, v7, i3_succ]
      by_cases q0 : r1 = 0
      · subst q0
        rw [if_pos rfl, if_pos rfl, mx_letI, mx_letI, mx_letI]
        have zc3 : mx_out (fun b j => b = 169 ∧ j = 7) c2 (mx_up c2.1 169 7 (i3 (k + 1)), c2.2) := mx_out_up mx_out.rf rfl ⟨rfl, rfl⟩
        have vc3 : (mx_up c2.1 169 7 (i3 (k + 1)), c2.2).1 169 7 = i3 (k + 1) := mx_up_self c2.1 169 7 _
        generalize (mx_up c2.1 169 7 (i3 (k + 1)), c2.2) = c3 at zc3 vc3 ⊢
        have zB : mx_out (WK a) c c3 := mx_out.tr zA (zc3.sub (fun b j q => Or.inr (by omega)))
        refine hb_mono (ih f' (k + 1) (by omega) (by omega) (by omega) ⟨by rw [zB.fld 169 4 (by unfold WK WC0 SW; omega)]; exact b1, by rw [z2.fld 222 55 (by unfold WD0; omega)]; exact b2', b3, fun i hi => BL_mv (b4 i hi) zB z2 (fun b j q => by unfold WK WC0 SW at q; omega) (fun b j q => by unfold WD0 at q; omega)⟩ (Nt_mem o2' (fun b w1 w2 => zc3.cell b (fun j => by omega))) o3 hP' (by rw [zc3.fld 169 6 (by omega)]; exact vc) vc3) (fun r s ⟨k', N2, p1, p2, p3, p4, p5, p6, p7, p8, p9, p10, p11⟩ => ⟨k', N2, by omega, p2, p3, p4, p5, p6, p7, fun k hk => by rw [p8 k hk]; exact o1 k hk, fun q => by omega, mx_out.tr zB p10, mx_out.tr z2 p11⟩)
      · rw [if_neg q0, if_neg q0, mx_letI]
        obtain ⟨f, rfl⟩ : ∃ g, f = g + 1 := ⟨f - 1, by omega⟩
        obtain ⟨f', rfl⟩ : ∃ g, f' = g + 1 := ⟨f' - 1, by omega⟩
        have hN' : N' = N := by
          rcases o4 with o4 | o4
          · exact absurd o4 q0
          · exact o4.2
        have eC : FX0_judge_L17 169 a 38 (f + 1) (i3 (k + 1)) c2 = some c2 := by
          rw [FX0_judge_L17, vc]
          by_cases w : c2.1 169 4 ≤ i3 (k + 1)
          · rw [if_pos w]
          · rw [if_neg w, if_neg q0]
        have eM : FX12_book_L78 222 x (f' + 1) (i3 k) r1 d1 = some (i3 k, r1, d1) := by
          rw [FX12_book_L78]
          by_cases w : d1.1 222 55 ≤ i3 k
          · rw [if_pos w]
          · rw [if_neg w, if_neg q0]
        rw [eC, eM]
        exact hb_some ⟨k, N', by omega, hk, rfl, v7, vc, o2', o3, o1, fun _ => hN', zA, z2⟩
theorem B_read (h : Txt c d n t) (hN : NmB P c d) (x : Int32) : hb (FX0_read 169 1 4 c) (Option.bind (FX12_begin 222 400 d) (fun r4 => mx_let (mx_up r4.1 222 55 0, r4.2) (fun m5 => FX12_book_L30 222 x mx_FU m5))) (fun r s => ((∃ d' l, r.1 = 1 ∧ s = .inr d' ∧ BI P l r.2 d' ∧ r.2.1 1 10 = d'.1 222 10 ∧ mx_out (fun b j => (b = 1 ∧ 3 ≤ j) ∨ (170 ≤ b ∧ b ≤ 173) ∨ (b = 169 ∧ j = 4)) c r.2 ∧ mx_out (fun b j => (b = 222 ∧ (j ≤ 13 ∨ j = 55)) ∨ b = 246) d d' ∧ d'.1 222 2 = 0)) ∨ (∃ d', r.1 = 0 ∧ s = .inl ((-2) - d'.1 222 11, d') ∧ FL r.2 d' ∧ mx_out (fun b j => (b = 1 ∧ 3 ≤ j) ∨ (170 ≤ b ∧ b ≤ 173) ∨ (b = 169 ∧ j = 4)) c r.2 ∧ mx_out (fun b j => (b = 222 ∧ (j ≤ 13 ∨ j = 55)) ∨ b = 246) d d' ∧ d'.1 222 2 = 0)) := by
  unfold FX0_read
  rw [mx_letI]
  have zc : mx_out (fun b j => b = 169 ∧ j = 4) c (mx_up c.1 169 4 0, c.2) := mx_out_up mx_out.rf rfl ⟨rfl, rfl⟩
  have vc : (mx_up c.1 169 4 0, c.2).1 169 4 = 0 := mx_up_self c.1 169 4 _
  generalize (mx_up c.1 169 4 0, c.2) = c1 at zc vc ⊢
  have h1 : Txt c1 d n t := by
    obtain ⟨a1, a2, a3, a4, a5⟩ := h
    exact ⟨a1, by rw [zc.fld 1 2 (by omega)]; exact a2, a3, fun j hj => by rw [zc.fld 2 j (by omega)]; exact a4 j hj, fun i hi => by rw [zc.cellL 3 (fun j => by omega)]; exact a5 i hi⟩
  refine hb_bind (PR_begin (lim := 400) h1 (by omega)) (fun c2 d2 ⟨p1, p2, p3, p4⟩ => ?_)
  rw [mx_letI]
  have zd : mx_out (fun b j => b = 222 ∧ j = 55) d2 (mx_up d2.1 222 55 0, d2.2) := mx_out_up mx_out.rf rfl ⟨rfl, rfl⟩
  have vd : (mx_up d2.1 222 55 0, d2.2).1 222 55 = 0 := mx_up_self d2.1 222 55 _
  generalize (mx_up d2.1 222 55 0, d2.2) = d3 at zd vd ⊢
  have N3 : NmB P c2 d3 := NmB_mv (NmB_mv (NmB_mv hN zc (T := fun _ _ => False) mx_out.rf (fun b j q => by omega) (fun b j q => q.elim)) p2 p3 (fun b j q => by unfold V1 at q; omega) (fun b j q => by unfold V2 at q; omega)) (S := fun _ _ => False) mx_out.rf zd (fun b j q => q.elim) (fun b j q => by omega)
  obtain ⟨r, s, e1, e2, q⟩ := B_loop (P := P) x mx_FU mx_FU (l := 0) (PR_mv p1 (S := fun _ _ => False) mx_out.rf zd (fun b j q => q.elim) (fun b j q => by omega)) N3 ⟨by rw [p2.fld 169 4 (by unfold V1; omega)]; exact vc, vd, by omega, fun i hi => by omega⟩ (FU_lt (by omega)) (FU_lt (by omega))
  show hb (Option.bind (FX0_read_L14 169 1 4 mx_FU (i3 0) c2) _) _ _
  rw [e1, e2, ob_some]
  have fc : ∀ {c' : mB}, mx_out WB1 c2 c' → mx_out (fun b j => (b = 1 ∧ 3 ≤ j) ∨ (170 ≤ b ∧ b ≤ 173) ∨ (b = 169 ∧ j = 4)) c c' := fun z => mx_out.tr (zc.sub (fun b j q => Or.inr (Or.inr q))) (mx_out.tr (p2.sub (fun b j q => Or.inl q)) (z.sub (fun b j q => by unfold WB1 U1 at q; omega)))
  have fd : ∀ {d' : mB}, mx_out WB2 d3 d' → mx_out (fun b j => (b = 222 ∧ (j ≤ 13 ∨ j = 55)) ∨ b = 246) d d' ∧ d'.1 222 2 = 0 := fun z => ⟨mx_out.tr (p3.sub (fun b j q => by unfold V2 at q; omega)) (mx_out.tr (zd.sub (fun b j q => by omega)) (z.sub (fun b j q => by unfold WB2 U2 at q; omega))), by rw [z.fld 222 2 (by unfold WB2 U2; omega), zd.fld 222 2 (by omega)]; exact p4⟩
  rcases q with ⟨c', d', l', w1, w2, w3, w4, w5, w6, w7, w8⟩ | ⟨c', d', w1, w2, w3, w4, w5⟩ | ⟨c', d', c2', w1, w2, w3, w4, w5, w6⟩
  · rw [w1, w2, se_inr, w4, ob_some]
    exact hb_some (Or.inl ⟨d', l', rfl, rfl, w3, by rw [w5, w6], fc w7, (fd w8).1, (fd w8).2⟩)
  · rw [w1, w2, se_inl]
    exact hb_some (Or.inr ⟨d', rfl, rfl, w3, fc w4, (fd w5).1, (fd w5).2⟩)
  · rw [w1, w2, se_inr, w3, ob_some]
    exact hb_some (Or.inr ⟨d', rfl, rfl, w4, fc w5, (fd w6).1, (fd w6).2⟩)
theorem B_judge (ha : a = 4 ∨ a = 15) (x : Int32) (hB : BI P l c d) (hc : Nt c a N) (hd : d.1 224 = N) (hP : nP N = P) :
    hb (FX0_judge 169 a 38 c) (FX12_book_L78 222 x mx_FU 0 0 d) (fun r s => ∃ k' N', k' ≤ 40 ∧ s.1 = i3 k' ∧ r.1 = (if s.2.1 = 0 then -1 else i3 k') ∧ r.2.1 169 5 = 1 ∧ r.2.1 169 7 = i3 k' ∧ r.2.1 169 6 = s.2.1 ∧ r.2.1 169 8 = tot N' ∧ r.2.1 169 9 = bnd N' ∧ Nt r.2 a N' ∧ s.2.2.1 224 = N' ∧ (∀ k, k < 125 ∨ 190 ≤ k → N' k = N k) ∧ (k' = 0 → N' = N) ∧ mx_out (WJ a) c r.2 ∧ mx_out WD0 d s.2.2) := by
  unfold FX0_judge
  rw [mx_letI, mx_letI, mx_letI]
  have zc : mx_out (fun b j => b = 169 ∧ 5 ≤ j) c (mx_up (mx_up (mx_up c.1 169 5 1) 169 6 0) 169 7 0, c.2) := mx_out_up (mx_out_up (mx_out_up mx_out.rf rfl ⟨rfl, by omega⟩) rfl ⟨rfl, by omega⟩) rfl ⟨rfl, by omega⟩
  have v5 : (mx_up (mx_up (mx_up c.1 169 5 1) 169 6 0) 169 7 0, c.2).1 169 5 = 1 := by
    show mx_up (mx_up (mx_up c.1 169 5 1) 169 6 0) 169 7 0 169 5 = 1
    rw [up_at, if_neg (by omega), up_at, if_neg (by omega), up_at, if_pos rfl]
  have v6 : (mx_up (mx_up (mx_up c.1 169 5 1) 169 6 0) 169 7 0, c.2).1 169 6 = 0 := by
    show mx_up (mx_up (mx_up c.1 169 5 1) 169 6 0) 169 7 0 169 6 = 0
    rw [up_at, if_neg (by omega), up_at, if_pos rfl]
  have v7 : (mx_up (mx_up (mx_up c.1 169 5 1) 169 6 0) 169 7 0, c.2).1 169 7 = 0 := mx_up_self (mx_up (mx_up c.1 169 5 1) 169 6 0) 169 7 0
  show hb (Option.bind (FX0_judge_L17 169 a 38 mx_FU 0 (mx_up (mx_up (mx_up c.1 169 5 1) 169 6 0) 169 7 0, c.2)) _) _ _
  generalize (mx_up (mx_up (mx_up c.1 169 5 1) 169 6 0) 169 7 0, c.2) = c1 at zc v5 v6 v7 ⊢
  have b1 : BI P l c1 d := ⟨by rw [zc.fld 169 4 (by omega)]; exact hB.1, hB.2.1, hB.2.2.1, fun i hi => BL_mv (hB.2.2.2 i hi) zc (T := fun _ _ => False) mx_out.rf (fun b j q => by omega) (fun b j q => q.elim)⟩
  have hl40 := hB.2.2.1
  have hc1 : Nt c1 a N := Nt_mem hc (fun b w1 w2 => zc.cell b (fun j => by omega))
  obtain ⟨c2, ⟨s1, s2, d2⟩, e1, e2, k', N', p1, p2, p3, p4, p5, p6, p7, p8, p9, p10, p11⟩ := B_jl ha x mx_FU mx_FU 0 (by omega) (FU_lt (by omega)) (FU_lt (by omega)) b1 hc1 hd hP v6 v7
  dsimp only at p3 p5 p7 p11
  subst p3
  have e1' : FX0_judge_L17 169 a 38 mx_FU 0 c1 = some c2 := e1
  have e2' : FX12_book_L78 222 x mx_FU 0 0 d = some (i3 k', s2, d2) := e2
  have p6' := p6
  obtain ⟨g, s, hg, hs⟩ := p6'
  rw [e1', e2', ob_some, C_total g s hg hs, ob_some, mx_letI]
  have z8 : mx_out (fun b j => b = 169 ∧ j = 8) c2 (mx_up c2.1 169 8 (tot N'), c2.2) := mx_out_up mx_out.rf rfl ⟨rfl, rfl⟩
  have v8 : (mx_up c2.1 169 8 (tot N'), c2.2).1 169 8 = tot N' := mx_up_self c2.1 169 8 _
  generalize (mx_up c2.1 169 8 (tot N'), c2.2) = c3 at z8 v8 ⊢
  have n3 : Nt c3 a N' := Nt_mem p6 (fun b w1 w2 => z8.cell b (fun j => by omega))
  rw [C_bound g s n3.2.2.1 n3.2.2.2, ob_some, mx_letI]
  have z9 : mx_out (fun b j => b = 169 ∧ j = 9) c3 (mx_up c3.1 169 9 (bnd N'), c3.2) := mx_out_up mx_out.rf rfl ⟨rfl, rfl⟩
  have v9 : (mx_up c3.1 169 9 (bnd N'), c3.2).1 169 9 = bnd N' := mx_up_self c3.1 169 9 _
  generalize (mx_up c3.1 169 9 (bnd N'), c3.2) = c4 at z9 v9 ⊢
  have n4 : Nt c4 a N' := Nt_mem n3 (fun b w1 w2 => z9.cell b (fun j => by omega))
  have w6 : c4.1 169 6 = s2 := by rw [z9.fld 169 6 (by omega), z8.fld 169 6 (by omega)]; exact p5
  have w7 : c4.1 169 7 = i3 k' := by rw [z9.fld 169 7 (by omega), z8.fld 169 7 (by omega)]; exact p4
  have w8 : c4.1 169 8 = tot N' := by rw [z9.fld 169 8 (by omega)]; exact v8
  have w5 : c4.1 169 5 = 1 := by
    rw [z9.fld 169 5 (by omega), z8.fld 169 5 (by omega)]
    rw [p10.fld 169 5 (by unfold WK WC0 SW; omega)]; exact v5
  have zA : mx_out (WJ a) c c4 := mx_out.tr (zc.sub (fun b j q => Or.inr q)) (mx_out.tr (p10.sub (fun b j q => by
    rcases q with q | q
    · exact Or.inl q
    · exact Or.inr (by omega))) (mx_out.tr (z8.sub (fun b j q => Or.inr (by omega))) (z9.sub (fun b j q => Or.inr (by omega)))))
  rw [w6, w7]
  by_cases q : s2 = 0
  · rw [if_pos q]
    exact hb_some ⟨k', N', by omega, rfl, by dsimp only; rw [if_pos q], w5, w7, w6, w8, v9, n4, p7, p8, fun q => p9 q, zA, p11⟩
  · rw [if_neg q]
    exact hb_some ⟨k', N', by omega, rfl, by dsimp only; rw [if_neg q], w5, w7, w6, w8, v9, n4, p7, p8, fun q => p9 q, zA, p11⟩
end BOOKF
