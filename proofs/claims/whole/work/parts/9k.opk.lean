/-! ===== operations: restore, who ===== -/
section OPK
variable {c c' d d' : mB}
theorem M_back {x : Nat} (hx : x < 2) (d : mB) : ∃ d1 d2, FX12_restore_L27 222 (i3 x) mx_FU (i3 0) d = some d1 ∧ FX12_restore_L60 222 (i3 x) mx_FU (i3 0) d1 = some d2 ∧ (∀ j, j < 432 → d2.1 224 j = d.1 226 (432 * x + j)) ∧ (∀ j, j < 10 → d2.2 230 j = d.2 232 (10 * x + j)) ∧ mx_out (fun b _ => b = 224 ∨ b = 230) d d2 := by
  have k1 : hw (FX12_restore_L27 222 (i3 x) mx_FU (i3 0) d) (fun m => mx_out (fun b _ => b = 224) d m ∧ ∀ j, j < 432 → m.1 224 j = d.1 226 (432 * x + j)) := by
    refine lp_inv (L := fun fu y m => FX12_restore_L27 222 (i3 x) fu y m) (n := 432) (fun k m => mx_out (fun b _ => b = 224) d m ∧ ∀ j, j < k → m.1 224 j = d.1 226 (432 * x + j)) ?_ ?_ 0 mx_FU _ (by omega) (FU_lt (by omega)) ⟨mx_out.rf, fun j hj => by omega⟩
    · intro fu m hI
      show hw (FX12_restore_L27 222 (i3 x) (fu + 1) (i3 432) m) _
      rw [FX12_restore_L27]
      exact hw_some hI
    · intro fu k m hk hI hs
      show hw (FX12_restore_L27 222 (i3 x) (fu + 1) (i3 k) m) _
      rw [FX12_restore_L27]
      simp (disch := omega) only [Nat.reduceAdd, ob_some, mx_letI, mx_chkT, mx_inb_i3, mx_inb_lit, lit_toNat, i3_toNat, i3_le, i3_lt, i3_leL, i3_Lle, i3_ltL, i3_Llt, i3_neg, i3_eq, i3_eqL, i3_ne1, i3_add, i3_addL, i3_Ladd, i3_mul, i3_mulL, i3_Lmul, mx_b01_0, mx_b01_1, b2_01, b2_0, b2_1, se_inl, se_inr, if_true, if_false, e10, e01, e00, e11, em1, em1lt, Nat.not_lt_zero, if_pos, if_neg]
      refine hs _ ⟨mx_out_up hI.1 rfl rfl, fun j hj => ?_⟩
      show mx_up m.1 224 k (m.1 226 (432 * x + k)) 224 j = _
      rw [up_at, hI.1.cell 226 (fun j => by omega)]
      by_cases q : j = k
      · rw [if_pos q, q]
      · rw [if_neg q]; exact hI.2 j (by omega)
  obtain ⟨d1, e1, z1, v1⟩ := k1
  have k2 : hw (FX12_restore_L60 222 (i3 x) mx_FU (i3 0) d1) (fun m => mx_out (fun b _ => b = 230) d1 m ∧ ∀ j, j < 10 → m.2 230 j = d1.2 232 (10 * x + j)) := by
    refine lp_inv (L := fun fu y m => FX12_restore_L60 222 (i3 x) fu y m) (n := 10) (fun k m => mx_out (fun b _ => b = 230) d1 m ∧ ∀ j, j < k → m.2 230 j = d1.2 232 (10 * x + j)) ?_ ?_ 0 mx_FU _ (by omega) (FU_lt (by omega)) ⟨mx_out.rf, fun j hj => by omega⟩
    · intro fu m hI
      show hw (FX12_restore_L60 222 (i3 x) (fu + 1) (i3 10) m) _
      rw [FX12_restore_L60]
      exact hw_some hI
    · intro fu k m hk hI hs
      show hw (FX12_restore_L60 222 (i3 x) (fu + 1) (i3 k) m) _
      rw [FX12_restore_L60]
      simp (disch := omega) only [Nat.reduceAdd, ob_some, mx_letI, mx_chkT, mx_inb_i3, mx_inb_lit, lit_toNat, i3_toNat, i3_le, i3_lt, i3_leL, i3_Lle, i3_ltL, i3_Llt, i3_neg, i3_eq, i3_eqL, i3_ne1, i3_add, i3_addL, i3_Ladd, i3_mul, i3_mulL, i3_Lmul, mx_b01_0, mx_b01_1, b2_01, b2_0, b2_1, se_inl, se_inr, if_true, if_false, e10, e01, e00, e11, em1, em1lt, Nat.not_lt_zero, if_pos, if_neg]
      refine hs _ ⟨mx_out_ul hI.1 rfl rfl, fun j hj => ?_⟩
      show mx_ul m.2 230 k (m.2 232 (10 * x + k)) 230 j = _
      rw [ul_at, hI.1.cellL 232 (fun j => by omega)]
      by_cases q : j = k
      · rw [if_pos q, q]
      · rw [if_neg q]; exact hI.2 j (by omega)
  obtain ⟨d2, e2, z2, v2⟩ := k2
  refine ⟨d1, d2, e1, e2, fun j hj => ?_, fun j hj => ?_, mx_out.tr (z1.sub (fun b j q => Or.inl q)) (z2.sub (fun b j q => Or.inr q))⟩
  · rw [z2.cell 224 (fun j => by omega)]; exact v1 j hj
  · rw [v2 j hj, z1.cellL 232 (fun j => by omega)]
theorem O_restore (h : RR c d) (x : Int32) : Sm (FX11_restore 0 x c) (FX12_restore 222 x d) := by
  have h0 := th0 h 0
  unfold FX12_restore
  rw [mx_letI]
  generalize (mx_up d.1 222 0 0, d.2) = d0 at h0 ⊢
  unfold FX11_restore FX6_giveBack
  show Sm _ (Option.bind (FX12_isIn x (i3 0) (i3 1) d0) _)
  rcases M_in (x := x) (lo := 0) (hi := 1) (by omega) (by omega) d0 with ⟨w, rfl, w1, w2, e⟩ | ⟨w1, e⟩
  · rw [e, ob_some, if_neg (show ¬ (1 : Int32) = 0 by decide), if_neg (i3_ge0 (by omega)), if_neg (by show ¬ i3 2 ≤ i3 w; rw [i3_le (by omega) (by omega)]; omega), mx_inb_i3 (by omega) (by omega), mx_chkT, i3_toNat (by omega), mx_chkT]
    obtain ⟨o1, o2, o3⟩ := h0.2.2.2.2.2.2.2.2.2.2.2.2.1 w (by omega)
    have o1' : c.1 (0 + 188 + 17 * w) 2 = d0.1 233 w := by rw [show 0 + 188 + 17 * w = 188 + 17 * w by omega]; exact o1
    show Sm _ (if d0.1 233 w = 0 then _ else _)
    rw [o1']
    by_cases q : d0.1 233 w = 0
    · rw [if_pos q, if_pos q, q]
      exact hb_some ⟨rfl, h0⟩
    · have q1 := o2.resolve_left q
      obtain ⟨hNR, hSA⟩ := o3 q1
      rw [if_neg q, if_neg q]
      obtain ⟨c1, e1, n1, l1⟩ := C_copyFrom (a := 4) hNR.1 (by omega)
      have z1 := ZX4_copyFrom e1
      have hSA1 : SYa c1 (200 + 17 * w) (pix d0 w) := SYa_mv hSA (ag_of z1 (fun b j q => by unfold WSX4_copyFrom; omega)) rfl (fun _ _ _ => rfl)
      obtain ⟨c2, e2, s6, s4, s1, s2, s3, z2⟩ := C_sayCopy (c := c1) (a := 174) (p0 := 200 + 17 * w) (by omega) (SYa_b hSA1)
      obtain ⟨d1, d2, f1, f2, v1, v2, zd⟩ := M_back (x := w) (by omega) d0
      have f188 : c2.1 (188 + 17 * w) 2 = 1 := by
        rw [z2.fld _ _ (by omega), z1.fld _ _ (by unfold WSX4_copyFrom; omega), o1, q1]
      show Sm (Option.bind (Option.bind (FX4_copyFrom 4 (0 + 188 + 17 * w + 1) c) _) _) _
      rw [show 0 + 188 + 17 * w + 1 = 189 + 17 * w by omega, e1, ob_some]
      show Sm (Option.bind (Option.bind (FX8_copyFrom 174 (0 + 188 + 17 * w + 12) c1) _) _) _
      rw [show 0 + 188 + 17 * w + 12 = 200 + 17 * w by omega, e2, ob_some, show 0 + 188 + 17 * w = 188 + 17 * w by omega, f188, mx_b01_1, mx_chkT, ob_some]
      dsimp only
      unfold FX3_forget
      rw [if_neg (show ¬ (1 : Int32) = 0 by decide), mx_letI, ob_some]
      show Sm _ (Option.bind (FX12_restore_L27 222 (i3 w) mx_FU (i3 0) d0) _)
      rw [f1, ob_some]
      show Sm _ (Option.bind (FX12_restore_L60 222 (i3 w) mx_FU (i3 0) d1) _)
      rw [f2, ob_some, mx_letI]
      have z3' : mx_out (fun b j => b = 68 ∧ j = 2) c2 (mx_up c2.1 68 2 0, c2.2) := mx_out_up mx_out.rf rfl ⟨rfl, rfl⟩
      have zd3 : mx_out (fun b j => b = 222 ∧ j = 25) d2 (mx_up d2.1 222 25 0, d2.2) := mx_out_up mx_out.rf rfl ⟨rfl, rfl⟩
      have zc : mx_out (fun b j => (4 ≤ b ∧ b ≤ 14) ∨ (174 ≤ b ∧ b ≤ 177) ∨ (b = 68 ∧ j = 2)) c (mx_up c2.1 68 2 0, c2.2) := mx_out.tr (z1.sub (fun b j q => by unfold WSX4_copyFrom at q; omega)) (mx_out.tr (z2.sub (fun b j q => by omega)) (z3'.sub (fun b j q => by omega)))
      have zdA : mx_out (fun b j => b = 224 ∨ b = 230 ∨ (b = 222 ∧ j = 25)) d0 (mx_up d2.1 222 25 0, d2.2) := mx_out.tr (zd.sub (fun b j q => by omega)) (zd3.sub (fun b j q => by omega))
      have e224 : ∀ x, x < 432 → (mx_up d2.1 222 25 0, d2.2).1 224 x = pix d0 w x := fun x hx => by
        rw [zd3.cell 224 (fun j => by omega)]; exact v1 x hx
      refine hb_some ⟨rfl, RR_nw h0 (ag_of zc (fun b j q => by omega)) (ag_of zdA (fun b j q => by omega)) (TP_mv h0.1 (ag_of zc (fun b j q => by omega)) (ag_of zdA (fun b j q => by omega))) (FA_mv h0.2.1 (ag_of zc (fun b j q => by omega)) (ag_of zdA (fun b j q => by omega))) ⟨Nt_congr (Nt_mem n1 (fun b h1 h2 => ?_)) (fun x hx => e224 x (by omega)) (fun x h1 h2 => e224 x (by omega)), fun p hp => ?_⟩ ?_ (SYa_cp hSA1 ?_ ?_ (fun j hj => ?_) (fun j hj => ?_) (fun j hj => ?_) (e224 0 (by omega)) (fun x h1 h2 => e224 x h2))⟩
      · rw [z3'.cell b (fun j => by omega), z2.cell b (fun j => by omega)]
      · have hP : nP ((mx_up d2.1 222 25 0, d2.2).1 224) = nP (pix d0 w) := by unfold nP; rw [e224 0 (by omega)]
        rw [hP] at hp
        have hp10 : p < 10 := by have := hNR.1.1.1.2; omega
        have e230 : (mx_up d2.1 222 25 0, d2.2).2 230 p = d0.2 232 (10 * w + p) := by rw [zd3.cellL 230 (fun j => by omega)]; exact v2 p hp10
        rw [e230]
        show nr (c2.2 (4 + 1) p) _
        rw [z2.cellL (4 + 1) (fun j => by omega), l1 p hp10]
        exact hNR.2 p hp
      · obtain ⟨a, k, hH, hk⟩ := h0.2.2.2.1
        refine ⟨a, 0, ⟨hH.1, by omega, ?_, mx_up_self c2.1 68 2 0, fun j hj => by omega⟩, mx_up_self d2.1 222 25 0⟩
        rw [zc.fld 68 1 (by omega)]; exact hH.2.2.1
      · rw [z3'.fld _ _ (by omega)]; exact s6
      · rw [z3'.fld _ _ (by omega)]; exact s4
      · rw [z3'.fld _ _ (by omega)]; exact s1 j hj
      · rw [z3'.fld _ _ (by omega)]; exact s2 j hj
      · rw [z3'.fld _ _ (by omega)]; exact s3 j hj
  · rw [e, ob_some, if_pos rfl]
    rcases w1 with q | q
    · have q' : x < 0 := q
      rw [if_pos q']; exact hb_some ⟨rfl, h0⟩
    · by_cases q0 : x < 0
      · rw [if_pos q0]; exact hb_some ⟨rfl, h0⟩
      · obtain ⟨k, rfl, hk⟩ := i3_of q0
        rw [i3_lt (by omega) hk] at q
        rw [if_neg q0, if_pos (by show i3 2 ≤ i3 k; rw [i3_le (by omega) hk]; omega)]
        exact hb_some ⟨rfl, h0⟩
end OPK
