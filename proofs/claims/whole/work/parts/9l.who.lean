/-! ===== operation: who ===== -/
section WHO
variable {c c' d d' : mB} {n : Nat} {t : Nat → Nat}
theorem RR_ta (h : RR c d) (hc : ag (fun b j => SC b j ∧ ¬ ((b = 1 ∧ j = 2) ∨ (b = 0 ∧ j = 18))) c c') (hd : ag (fun b j => SD b j ∧ ¬ (b = 222 ∧ (j = 2 ∨ j = 48))) d d') (ht : TP c' d') (ha : AD c' d') : RR c' d' := by
  obtain ⟨h1, h2, h3, h4, h5, h6, h7, h8, h9, h10, h11, h12, h13, h14⟩ := h
  exact ⟨ht, FA_mv h2 (ag_sub hc (fun b j q => by unfold SC; omega)) (ag_sub hd (fun b j q => by unfold SD; omega)), NE_mv h3 (ag_sub hc (fun b j q => by unfold SC; omega)) (ag_sub hd (fun b j q => by unfold SD; omega)), HI_mv h4 (ag_sub hc (fun b j q => by unfold SC; omega)) (ag_sub hd (fun b j q => by unfold SD; omega)), RW_mv h5 (ag_sub hc (fun b j q => by unfold SC; omega)) (ag_sub hd (fun b j q => by unfold SD; omega)), RW_mv h6 (ag_sub hc (fun b j q => by unfold SC; omega)) (ag_sub hd (fun b j q => by unfold SD; omega)), PF_mv h7 (ag_sub hc (fun b j q => by unfold SC; omega)) (ag_sub hd (fun b j q => by unfold SD; omega)), ha, RN_mv h9 (ag_sub hc (fun b j q => by unfold SC; omega)) (ag_sub hd (fun b j q => by unfold SD; omega)), HV_mv h10 (fun b q1 q2 => (ag_cell hc b (fun j => by unfold SC; omega)).1), BK_mv h11 (ag_sub hc (fun b j q => by unfold SC; omega)) (ag_sub hd (fun b j q => by unfold SD; omega)), SY_mv h12 (ag_sub hc (fun b j q => by unfold SC; omega)) (ag_sub hd (fun b j q => by unfold SD; omega)), PI_mv h13 (ag_sub hc (fun b j q => by unfold SC; omega)) (ag_sub hd (fun b j q => by unfold SD; omega)), RN_mv h14 (ag_sub hc (fun b j q => by unfold SC; omega)) (ag_sub hd (fun b j q => by unfold SD; omega))⟩
theorem C_sign (h : Txt c d n t) {j : Nat} (hj : j < n) : FX10_signAt 1 (i3 j) c = some (i3 (t j)) := by
  have h9 := h.1
  unfold FX10_signAt
  rw [if_neg (i3_ge0 (by omega)), h.2.1, if_neg (by rw [i3_le (by omega) (by omega)]; omega), if_neg (by show ¬ i3 940 ≤ _; rw [i3_le (by omega) (by omega)]; omega), mx_inb_i3 (by omega) (by omega), mx_chkT, i3_toNat (by omega)]
  show some (c.1 2 j) = _
  rw [(h.2.2.2.1 j hj).2.1]
/-- a question is well formed -/
def wf (N : Rw) (t : Nat → Nat) (k : Nat) : Prop := t (2 * k) < nP N ∧ (t (2 * k + 1) < nP N ∨ t (2 * k + 1) = 255)
theorem ask_c (h : Txt c d n t) {N : Rw} (g : GI N) (hg : CG c 4 N) {nq : Nat} (hn : n = 2 * nq) : (FX11_isAsking_L29 0 (i3 n) c mx_FU (i3 (2 * 0)) = some (.inr ()) ∧ ∀ k, k < nq → wf N t k) ∨ (FX11_isAsking_L29 0 (i3 n) c mx_FU (i3 (2 * 0)) = some (.inl 0) ∧ ¬ ∀ k, k < nq → wf N t k) := by
  have h9 := h.1
  have hP := g.1.2
  refine lp_all (L := fun fu y => FX11_isAsking_L29 0 (i3 n) c fu y) (fun k => i3 (2 * k)) (n := nq) (wf N t) (0 : Int32) (fun fu => ?_) (fun fu k hk _ => ?_) mx_FU (FU_lt (by omega))
  · show FX11_isAsking_L29 0 (i3 n) c (fu + 1) (i3 (2 * nq)) = _
    rw [FX11_isAsking_L29, if_pos (by rw [i3_le (by omega) (by omega)]; omega)]
  · show (_ ∧ FX11_isAsking_L29 0 (i3 n) c (fu + 1) (i3 (2 * k)) = FX11_isAsking_L29 0 (i3 n) c fu (i3 (2 * (k + 1)))) ∨ (_ ∧ FX11_isAsking_L29 0 (i3 n) c (fu + 1) (i3 (2 * k)) = some (.inl 0))
    have e4 : i3 (2 * k) + 2 = i3 (2 * (k + 1)) := i3_add (2 * k) 2
    have b1 := (h.2.2.2.1 (2 * k) (by omega)).1
    have b3 := (h.2.2.2.1 (2 * k + 1) (by omega)).1
    rw [FX11_isAsking_L29, if_neg (by rw [i3_le (by omega) (by omega)]; omega), i3_succ]
    show (_ ∧ Option.bind (FX10_signAt 1 (i3 (2 * k + 1)) c) _ = _) ∨ (_ ∧ Option.bind (FX10_signAt 1 (i3 (2 * k + 1)) c) _ = _)
    rw [C_sign h (by omega), ob_some]
    show (_ ∧ Option.bind (FX10_signAt 1 (i3 (2 * k)) c) _ = _) ∨ (_ ∧ Option.bind (FX10_signAt 1 (i3 (2 * k)) c) _ = _)
    rw [C_sign h (by omega), ob_some]
    show (_ ∧ Option.bind (FX4_hasPoint 4 (i3 (t (2 * k))) c) _ = _) ∨ (_ ∧ Option.bind (FX4_hasPoint 4 (i3 (t (2 * k))) c) _ = _)
    by_cases q1 : t (2 * k) < nP N
    · rw [C_hasPoint_y g hg q1, ob_some, if_neg (show ¬ (1 : Int32) = 0 by decide)]
      by_cases q2 : t (2 * k + 1) = 255
      · rw [if_pos (by rw [q2]; rfl), mx_letI, e4]
        exact Or.inl ⟨⟨q1, Or.inr q2⟩, rfl⟩
      · rw [if_neg (by show ¬ _ = i3 255; rw [i3_eq (by omega) (by omega)]; exact q2)]
        show (_ ∧ Option.bind (FX4_hasPoint 4 (i3 (t (2 * k + 1))) c) _ = _) ∨ (_ ∧ Option.bind (FX4_hasPoint 4 (i3 (t (2 * k + 1))) c) _ = _)
        by_cases q3 : t (2 * k + 1) < nP N
        · rw [C_hasPoint_y g hg q3, ob_some, if_neg (show ¬ (1 : Int32) = 0 by decide), mx_letI, e4]
          exact Or.inl ⟨⟨q1, Or.inl q3⟩, rfl⟩
        · rw [C_hasPoint_n g hg (fun j hj q => by rw [i3_eq (by omega) (by omega)] at q; omega), ob_some, if_pos rfl]
          exact Or.inr ⟨fun w => w.2.elim q3 q2, rfl⟩
    · rw [C_hasPoint_n g hg (fun j hj q => by rw [i3_eq (by omega) (by omega)] at q; omega), ob_some, if_pos rfl]
      exact Or.inr ⟨fun w => q1 w.1, rfl⟩
theorem ask_m {N : Rw} (g : GI N) (h9 : n ≤ 940) (hN : d.1 224 = N) (ht : ∀ j, j < n → t j < 256 ∧ d.1 223 j = i3 (t j)) {nq : Nat} (hn : n = 2 * nq) : (FX12_who_L32 222 (i3 n) d mx_FU (i3 (2 * 0)) = some (.inr ()) ∧ ∀ k, k < nq → wf N t k) ∨ (FX12_who_L32 222 (i3 n) d mx_FU (i3 (2 * 0)) = some (.inl (-1, d)) ∧ ¬ ∀ k, k < nq → wf N t k) := by
  have hP := g.1.2
  refine lp_all (L := fun fu y => FX12_who_L32 222 (i3 n) d fu y) (fun k => i3 (2 * k)) (n := nq) (wf N t) ((-1 : Int32), d) (fun fu => ?_) (fun fu k hk _ => ?_) mx_FU (FU_lt (by omega))
  · show FX12_who_L32 222 (i3 n) d (fu + 1) (i3 (2 * nq)) = _
    rw [FX12_who_L32, if_pos (by rw [i3_le (by omega) (by omega)]; omega)]
  · show (_ ∧ FX12_who_L32 222 (i3 n) d (fu + 1) (i3 (2 * k)) = FX12_who_L32 222 (i3 n) d fu (i3 (2 * (k + 1)))) ∨ (_ ∧ FX12_who_L32 222 (i3 n) d (fu + 1) (i3 (2 * k)) = some (.inl (-1, d)))
    have e4 : i3 (2 * k) + 2 = i3 (2 * (k + 1)) := i3_add (2 * k) 2
    obtain ⟨b1, a1⟩ := ht (2 * k) (by omega)
    obtain ⟨b3, a3⟩ := ht (2 * k + 1) (by omega)
    have a1' : d.1 (222 + 1) (2 * k) = i3 (t (2 * k)) := a1
    have a3' : d.1 (222 + 1) (2 * k + 1) = i3 (t (2 * k + 1)) := a3
    rw [FX12_who_L32, if_neg (by rw [i3_le (by omega) (by omega)]; omega), mx_inb_i3 (by omega) (by omega), mx_chkT, i3_toNat (by omega), a1', i3_succ, mx_inb_i3 (by omega) (by omega), mx_chkT, i3_toNat (by omega), a3', e4]
    by_cases q1 : t (2 * k) < nP N
    · rw [M_isPoint_y g hN q1, ob_some, if_neg (show ¬ (1 : Int32) = 0 by decide)]
      by_cases q3 : t (2 * k + 1) < nP N
      · rw [M_isPoint_y g hN q3, ob_some, if_neg (show ¬ (1 : Int32) = 0 by decide), mx_letI]
        exact Or.inl ⟨⟨q1, Or.inl q3⟩, rfl⟩
      · rw [M_isPoint_n g hN (fun j hj q => by rw [i3_eq (by omega) (by omega)] at q; omega), ob_some, if_pos rfl]
        by_cases q2 : t (2 * k + 1) = 255
        · rw [if_pos (by rw [q2]; rfl), mx_letI]
          exact Or.inl ⟨⟨q1, Or.inr q2⟩, rfl⟩
        · rw [if_neg (by show ¬ _ = i3 255; rw [i3_eq (by omega) (by omega)]; exact q2)]
          exact Or.inr ⟨fun w => w.2.elim q3 q2, rfl⟩
    · rw [M_isPoint_n g hN (fun j hj q => by rw [i3_eq (by omega) (by omega)] at q; omega), ob_some, if_pos rfl]
      exact Or.inr ⟨fun w => q1 w.1, rfl⟩
theorem want_c (h9 : n ≤ 940) {N : Rw} (hP : nP N ≤ 10) {nq : Nat} (hn : n = 2 * nq) (hwf : ∀ k, k < nq → wf N t k) {m : mB} (hT : m.1 1 2 = i3 n ∧ ∀ j, j < n → t j < 256 ∧ m.1 2 j = i3 (t j)) (hQ : QW [] m) : ∃ m', FX11_who_L29 0 mx_FU (i3 (2 * 0)) m = some m' ∧ QW (qsn nq (fun k => t (2 * k)) (fun k => t (2 * k + 1))) m' ∧ mx_out (fun b j => (b = 45 ∧ j = 11) ∨ b = 62) m m' := by
  have key : hw (FX11_who_L29 0 mx_FU (i3 (2 * 0)) m) (fun m' => QW (qsn nq (fun k => t (2 * k)) (fun k => t (2 * k + 1))) m' ∧ mx_out (fun b j => (b = 45 ∧ j = 11) ∨ b = 62) m m') := by
    refine lp_ig (fun k => i3 (2 * k)) (S := mB) (L := fun fu y s => FX11_who_L29 0 fu y s) (n := nq) (fun k s => QW (qsn k (fun k => t (2 * k)) (fun k => t (2 * k + 1))) s ∧ mx_out (fun b j => (b = 45 ∧ j = 11) ∨ b = 62) m s) ?_ ?_ 0 mx_FU m (by omega) (FU_lt (by omega)) ⟨hQ, mx_out.rf⟩
    · intro fu s hI
      show hw (FX11_who_L29 0 (fu + 1) (i3 (2 * nq)) s) _
      have e2 : s.1 (0 + 1) 2 = i3 n := by show s.1 1 2 = _; rw [hI.2.fld 1 2 (by omega)]; exact hT.1
      rw [FX11_who_L29]
      unfold FX10_length
      rw [ob_some, e2, i3_succ, if_pos (by rw [i3_le (by omega) (by omega)]; omega)]
      exact hw_some hI
    · intro fu k s hk hI hs
      show hw (FX11_who_L29 0 (fu + 1) (i3 (2 * k)) s) _
      have e2 : s.1 1 2 = i3 n := by rw [hI.2.fld 1 2 (by omega)]; exact hT.1
      have hTs : ∀ j, j < n → FX10_signAt 1 (i3 j) s = some (i3 (t j)) := fun j hj => by
        unfold FX10_signAt
        rw [if_neg (i3_ge0 (by omega)), e2, if_neg (by rw [i3_le (by omega) (by omega)]; omega), if_neg (by show ¬ i3 940 ≤ _; rw [i3_le (by omega) (by omega)]; omega), mx_inb_i3 (by omega) (by omega), mx_chkT, i3_toNat (by omega)]
        show some (s.1 2 j) = _
        rw [hI.2.fld 2 j (by omega), (hT.2 j hj).2]
      have e4 : i3 (2 * k) + 2 = i3 (2 * (k + 1)) := i3_add (2 * k) 2
      have e2' : s.1 (0 + 1) 2 = i3 n := e2
      rw [FX11_who_L29]
      unfold FX10_length
      rw [ob_some, e2', i3_succ, if_neg (by rw [i3_le (by omega) (by omega)]; omega)]
      show hw (Option.bind (FX10_signAt 1 (i3 (2 * k)) s) _) _
      rw [hTs _ (by omega), ob_some]
      show hw (Option.bind (FX10_signAt 1 (i3 (2 * k + 1)) s) _) _
      rw [hTs _ (by omega), ob_some]
      obtain ⟨w1, w2⟩ := hwf k hk
      obtain ⟨s2, a1, a2, a3⟩ := C_want (m := s) hI.1 (x := t (2 * k)) (v := t (2 * k + 1)) (by omega) (by omega)
      show hw (Option.bind (FX2_want 45 (i3 (t (2 * k))) (i3 (t (2 * k + 1))) s) _) _
      rw [a1, ob_some, mx_letI, e4]
      exact hs s2 ⟨by rw [qsn_succ]; exact a2, mx_out.tr hI.2 a3⟩
  obtain ⟨m1, e, a, b⟩ := key
  exact ⟨m1, e, a, b⟩
end WHO
