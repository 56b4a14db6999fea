def FX11_point (a : Nat) (x0 : Int32) (x1 : Int32) (m : mB) : Option Int32 := Option.bind (FX4_hasPoint (a + 4) x0 m) (fun r1 => (if r1 = 0 then none else (if x1 < 0 then none else (if x1 ≤ 4 then (if x1 = 0 then Option.bind (FX4_partnerOf (a + 4) x0 m) (fun r6 => (some r6)) else if x1 = 1 then Option.bind (FX4_priceOf (a + 4) x0 m) (fun r8 => (some r8)) else if x1 = 2 then Option.bind (FX4_nearTo (a + 4) x0 m) (fun r10 => (some r10)) else if x1 = 3 then Option.bind (FX4_tightTo (a + 4) x0 m) (fun r12 => (some r12)) else Option.bind (FX4_setsWith (a + 4) x0 m) (fun r13 => (some r13))) else none))))
set_option maxRecDepth 20000 in
theorem CX11_point {G : mG} {l : Launch} {e : mE} {a : Nat} {x0 : Int32} {x1 : Int32} {m : mB} {r : Int32} (h0 : ly11 e a) (h : FX11_point a x0 x1 m = some r) : mx_Call G l MX11_point 5 0 0 [.ref a, .int x0, .int x1] (e, m) (fun v z => v = some (.int r) ∧ z = (e, m)) := by
  refine mx_entry (L := [.ref a, .int x0, .int x1]) (by decide +kernel) (Nat.le_of_ble_eq_true rfl) rfl ?_
  unfold FX11_point at h
  refine mx_aload_n (mx_d tX11_point_0 0 rfl) rfl rfl ?_
  refine mx_getR (mx_d tX11_point_0 1 rfl) fX11_19 rfl rfl (ly11_o h0) (ly11_r1 h0) ?_
  refine mx_iload_n (mx_d tX11_point_0 2 rfl) rfl rfl ?_
  obtain ⟨r1, h_r1, h⟩ := Option.bind_eq_some_iff.mp h
  refine mx_cVi (mx_d tX11_point_0 3 rfl) iX11_147 rfl vX4_hasPoint ⟨_, rfl, rfl⟩ (ly4_o (ly11_s1 h0)) (CX4_hasPoint (ly11_s1 h0) h_r1) (by decide) rfl rfl (Nat.le_of_ble_eq_true rfl) ?_
  refine mx_if_eq (tgt := 20) (mx_d tX11_point_0 4 rfl) (by decide) (fun hc2 => ?_) (fun hc2 => ?_)
  · rw [if_pos hc2] at h
    cases h
  · rw [if_neg hc2] at h
    refine mx_iload_n (mx_d tX11_point_0 5 rfl) rfl rfl ?_
    refine mx_if_lt (tgt := 20) (mx_d tX11_point_0 6 rfl) (by decide) (fun hc3 => ?_) (fun hc3 => ?_)
    · rw [if_pos hc3] at h
      cases h
    · rw [if_neg hc3] at h
      refine mx_iload_n (mx_d tX11_point_0 7 rfl) rfl rfl ?_
      refine mx_iconst (4) (mx_d tX11_point_0 8 rfl) (by decide) ?_
      refine mx_icmp_le (tgt := 28) (mx_d tX11_point_0 9 rfl) (by decide) (fun hc4 => ?_) (fun hc4 => ?_)
      · rw [if_pos hc4] at h
        refine mx_iload_n (mx_d tX11_point_0 14 rfl) rfl rfl ?_
        by_cases hc5 : x1 = 0
        · rw [if_pos hc5] at h
          refine mx_tableIn (tgt := 60) (mx_d tX11_point_0 15 rfl) (by rw [hc5]; decide) (by rw [hc5]; decide) (by rw [hc5]; rfl) (by decide) ?_
          refine mx_aload_n (mx_d tX11_point_0 16 rfl) rfl rfl ?_
          refine mx_getR (mx_d tX11_point_0 17 rfl) fX11_19 rfl rfl (ly11_o h0) (ly11_r1 h0) ?_
          refine mx_iload_n (mx_d tX11_point_0 18 rfl) rfl rfl ?_
          obtain ⟨r6, h_r6, h⟩ := Option.bind_eq_some_iff.mp h
          refine mx_cVi (mx_d tX11_point_0 19 rfl) iX11_154 rfl vX4_partnerOf ⟨_, rfl, rfl⟩ (ly4_o (ly11_s1 h0)) (CX4_partnerOf (ly11_s1 h0) h_r6) (by decide) rfl rfl (Nat.le_of_ble_eq_true rfl) ?_
          obtain rfl := Option.some.inj h
          exact mx_ireturn (mx_d tX11_point_0 20 rfl) rfl ⟨rfl, rfl⟩
        · rw [if_neg hc5] at h
          by_cases hc7 : x1 = 1
          · rw [if_pos hc7] at h
            refine mx_tableIn (tgt := 69) (mx_d tX11_point_0 15 rfl) (by rw [hc7]; decide) (by rw [hc7]; decide) (by rw [hc7]; rfl) (by decide) ?_
            refine mx_aload_n (mx_d tX11_point_0 21 rfl) rfl rfl ?_
            refine mx_getR (mx_d tX11_point_0 22 rfl) fX11_19 rfl rfl (ly11_o h0) (ly11_r1 h0) ?_
            refine mx_iload_n (mx_d tX11_point_0 23 rfl) rfl rfl ?_
            obtain ⟨r8, h_r8, h⟩ := Option.bind_eq_some_iff.mp h
            refine mx_cVi (mx_d tX11_point_0 24 rfl) iX11_158 rfl vX4_priceOf ⟨_, rfl, rfl⟩ (ly4_o (ly11_s1 h0)) (CX4_priceOf (ly11_s1 h0) h_r8) (by decide) rfl rfl (Nat.le_of_ble_eq_true rfl) ?_
            obtain rfl := Option.some.inj h
            exact mx_ireturn (mx_d tX11_point_0 25 rfl) rfl ⟨rfl, rfl⟩
          · rw [if_neg hc7] at h
            by_cases hc9 : x1 = 2
            · rw [if_pos hc9] at h
              refine mx_tableIn (tgt := 78) (mx_d tX11_point_0 15 rfl) (by rw [hc9]; decide) (by rw [hc9]; decide) (by rw [hc9]; rfl) (by decide) ?_
              refine mx_aload_n (mx_d tX11_point_0 26 rfl) rfl rfl ?_
              refine mx_getR (mx_d tX11_point_0 27 rfl) fX11_19 rfl rfl (ly11_o h0) (ly11_r1 h0) ?_
              refine mx_iload_n (mx_d tX11_point_0 28 rfl) rfl rfl ?_
              obtain ⟨r10, h_r10, h⟩ := Option.bind_eq_some_iff.mp h
              refine mx_cVi (mx_d tX11_point_0 29 rfl) iX11_161 rfl vX4_nearTo ⟨_, rfl, rfl⟩ (ly4_o (ly11_s1 h0)) (CX4_nearTo (ly11_s1 h0) h_r10) (by decide) rfl rfl (Nat.le_of_ble_eq_true rfl) ?_
              obtain rfl := Option.some.inj h
              exact mx_ireturn (mx_d tX11_point_0 30 rfl) rfl ⟨rfl, rfl⟩
            · rw [if_neg hc9] at h
              by_cases hc11 : x1 = 3
              · rw [if_pos hc11] at h
                refine mx_tableIn (tgt := 87) (mx_d tX11_point_0 15 rfl) (by rw [hc11]; decide) (by rw [hc11]; decide) (by rw [hc11]; rfl) (by decide) ?_
                refine mx_aload_n (mx_d tX11_point_0 31 rfl) rfl rfl ?_
                refine mx_getR (mx_d tX11_point_0 32 rfl) fX11_19 rfl rfl (ly11_o h0) (ly11_r1 h0) ?_
                refine mx_iload_n (mx_d tX11_point_0 33 rfl) rfl rfl ?_
                obtain ⟨r12, h_r12, h⟩ := Option.bind_eq_some_iff.mp h
                refine mx_cVi (mx_d tX11_point_0 34 rfl) iX11_164 rfl vX4_tightTo ⟨_, rfl, rfl⟩ (ly4_o (ly11_s1 h0)) (CX4_tightTo (ly11_s1 h0) h_r12) (by decide) rfl rfl (Nat.le_of_ble_eq_true rfl) ?_
                obtain rfl := Option.some.inj h
                exact mx_ireturn (mx_d tX11_point_0 35 rfl) rfl ⟨rfl, rfl⟩
              · rw [if_neg hc11] at h
                have z_hc5 := lv_neT hc5 (a := 0) (by decide)
                have z_hc7 := lv_neT hc7 (a := 1) (by decide)
                have z_hc9 := lv_neT hc9 (a := 2) (by decide)
                have z_hc11 := lv_neT hc11 (a := 3) (by decide)
                refine mx_tableOut (tgt := 96) (mx_d tX11_point_0 15 rfl) (by omega) (by decide) ?_
                refine mx_aload_n (mx_d tX11_point_0 36 rfl) rfl rfl ?_
                refine mx_getR (mx_d tX11_point_0 37 rfl) fX11_19 rfl rfl (ly11_o h0) (ly11_r1 h0) ?_
                refine mx_iload_n (mx_d tX11_point_0 38 rfl) rfl rfl ?_
                obtain ⟨r13, h_r13, h⟩ := Option.bind_eq_some_iff.mp h
                refine mx_cVi (mx_d tX11_point_0 39 rfl) iX11_167 rfl vX4_setsWith ⟨_, rfl, rfl⟩ (ly4_o (ly11_s1 h0)) (CX4_setsWith (ly11_s1 h0) h_r13) (by decide) rfl rfl (Nat.le_of_ble_eq_true rfl) ?_
                obtain rfl := Option.some.inj h
                exact mx_ireturn (mx_d tX11_point_0 40 rfl) rfl ⟨rfl, rfl⟩
      · rw [if_neg hc4] at h
        cases h
def FX11_slack (a : Nat) (x0 : Int32) (m : mB) : Option Int32 := Option.bind (FX4_hasLink (a + 4) x0 m) (fun r1 => (if r1 = 0 then none else Option.bind (FX4_slackOf (a + 4) x0 m) (fun r3 => (some r3))))
set_option maxRecDepth 20000 in
theorem CX11_slack {G : mG} {l : Launch} {e : mE} {a : Nat} {x0 : Int32} {m : mB} {r : Int32} (h0 : ly11 e a) (h : FX11_slack a x0 m = some r) : mx_Call G l MX11_slack 4 0 0 [.ref a, .int x0] (e, m) (fun v z => v = some (.int r) ∧ z = (e, m)) := by
  refine mx_entry (L := [.ref a, .int x0]) (by decide +kernel) (Nat.le_of_ble_eq_true rfl) rfl ?_
  unfold FX11_slack at h
  refine mx_aload_n (mx_d tX11_slack_0 0 rfl) rfl rfl ?_
  refine mx_getR (mx_d tX11_slack_0 1 rfl) fX11_19 rfl rfl (ly11_o h0) (ly11_r1 h0) ?_
  refine mx_iload_n (mx_d tX11_slack_0 2 rfl) rfl rfl ?_
  obtain ⟨r1, h_r1, h⟩ := Option.bind_eq_some_iff.mp h
  refine mx_cVi (mx_d tX11_slack_0 3 rfl) iX11_170 rfl vX4_hasLink ⟨_, rfl, rfl⟩ (ly4_o (ly11_s1 h0)) (CX4_hasLink (ly11_s1 h0) h_r1) (by decide) rfl rfl (Nat.le_of_ble_eq_true rfl) ?_
  refine mx_if_ne (tgt := 19) (mx_d tX11_slack_0 4 rfl) (by decide) (fun hc2 => ?_) (fun hc2 => ?_)
  · rw [if_neg hc2] at h
    refine mx_aload_n (mx_d tX11_slack_0 9 rfl) rfl rfl ?_
    refine mx_getR (mx_d tX11_slack_0 10 rfl) fX11_19 rfl rfl (ly11_o h0) (ly11_r1 h0) ?_
    refine mx_iload_n (mx_d tX11_slack_0 11 rfl) rfl rfl ?_
    obtain ⟨r3, h_r3, h⟩ := Option.bind_eq_some_iff.mp h
    refine mx_cVi (mx_d tX11_slack_0 12 rfl) iX11_191 rfl vX4_slackOf ⟨_, rfl, rfl⟩ (ly4_o (ly11_s1 h0)) (CX4_slackOf (ly11_s1 h0) h_r3) (by decide) rfl rfl (Nat.le_of_ble_eq_true rfl) ?_
    obtain rfl := Option.some.inj h
    exact mx_ireturn (mx_d tX11_slack_0 13 rfl) rfl ⟨rfl, rfl⟩
  · rw [if_pos hc2] at h
    cases h
def FX11_proofBy (a : Nat) (m : mB) : Option Int32 := (if (m.1 a 16) = (-1) then none else (some (m.1 a 17)))
set_option maxRecDepth 20000 in
theorem CX11_proofBy {G : mG} {l : Launch} {e : mE} {a : Nat} {m : mB} {r : Int32} (h0 : ly11 e a) (h : FX11_proofBy a m = some r) : mx_Call G l MX11_proofBy 1 0 0 [.ref a] (e, m) (fun v z => v = some (.int r) ∧ z = (e, m)) := by
  refine mx_entry (L := [.ref a]) (by decide +kernel) (Nat.le_of_ble_eq_true rfl) rfl ?_
  unfold FX11_proofBy at h
  refine mx_aload_n (mx_d tX11_proofBy_0 0 rfl) rfl rfl ?_
  refine mx_getI (mx_d tX11_proofBy_0 1 rfl) fX11_102 rfl (Or.inl rfl) (ly11_o h0) ?_
  refine mx_iconst ((-1)) (mx_d tX11_proofBy_0 2 rfl) (by decide) ?_
  refine mx_icmp_ne (tgt := 16) (mx_d tX11_proofBy_0 3 rfl) (by decide) (fun hc1 => ?_) (fun hc1 => ?_)
  · rw [if_neg hc1] at h
    refine mx_aload_n (mx_d tX11_proofBy_0 8 rfl) rfl rfl ?_
    refine mx_getI (mx_d tX11_proofBy_0 9 rfl) fX11_306 rfl (Or.inl rfl) (ly11_o h0) ?_
    obtain rfl := Option.some.inj h
    exact mx_ireturn (mx_d tX11_proofBy_0 10 rfl) rfl ⟨rfl, rfl⟩
  · rw [if_pos hc1] at h
    cases h
def FX11_mean (a : Nat) (x0 : Int32) (m : mB) : Option Int32 := Option.bind (FX4_pairs (a + 4) m) (fun r1 => (if r1 < 1 then none else (if x0 < 0 then none else (if x0 ≤ 1 then Option.bind (FX4_total (a + 4) m) (fun r5 => Option.bind (FX11_commonDivisor r5 r1 m) (fun r6 => (if x0 = 0 then Option.bind (FJ9_max_7cf53 1 r6 m) (fun r10 => mx_chk (mx_nz r10) ((some (r5 / r10)))) else Option.bind (FJ9_max_7cf53 1 r6 m) (fun r8 => mx_chk (mx_nz r8) ((some (r1 / r8))))))) else none))))
set_option maxRecDepth 20000 in
theorem CX11_mean {G : mG} {l : Launch} {e : mE} {a : Nat} {x0 : Int32} {m : mB} {r : Int32} (h0 : ly11 e a) (h : FX11_mean a x0 m = some r) : mx_Call G l MX11_mean 5 0 0 [.ref a, .int x0] (e, m) (fun v z => v = some (.int r) ∧ z = (e, m)) := by
  refine mx_entry (L := [.ref a, .int x0, .float 0, .float 0, .float 0]) (by decide +kernel) (Nat.le_of_ble_eq_true rfl) rfl ?_
  unfold FX11_mean at h
  refine mx_aload_n (mx_d tX11_mean_0 0 rfl) rfl rfl ?_
  refine mx_getR (mx_d tX11_mean_0 1 rfl) fX11_19 rfl rfl (ly11_o h0) (ly11_r1 h0) ?_
  obtain ⟨r1, h_r1, h⟩ := Option.bind_eq_some_iff.mp h
  refine mx_cVi (mx_d tX11_mean_0 2 rfl) iX11_209 rfl vX4_pairs ⟨_, rfl, rfl⟩ (ly4_o (ly11_s1 h0)) (CX4_pairs (ly11_s1 h0) h_r1) (by decide) rfl rfl (Nat.le_of_ble_eq_true rfl) ?_
  refine mx_istore_n (L2 := [.ref a, .int x0, .int r1, .float 0, .float 0]) (mx_d tX11_mean_0 3 rfl) rfl (by decide) (by rfl) ?_
  refine mx_iload_n (mx_d tX11_mean_0 4 rfl) rfl rfl ?_
  refine mx_iconst (1) (mx_d tX11_mean_0 5 rfl) (by decide) ?_
  refine mx_icmp_lt (tgt := 22) (mx_d tX11_mean_0 6 rfl) (by decide) (fun hc2 => ?_) (fun hc2 => ?_)
  · rw [if_pos hc2] at h
    cases h
  · rw [if_neg hc2] at h
    refine mx_iload_n (mx_d tX11_mean_0 7 rfl) rfl rfl ?_
    refine mx_if_lt (tgt := 22) (mx_d tX11_mean_0 8 rfl) (by decide) (fun hc3 => ?_) (fun hc3 => ?_)
    · rw [if_pos hc3] at h
      cases h
    · rw [if_neg hc3] at h
      refine mx_iload_n (mx_d tX11_mean_0 9 rfl) rfl rfl ?_
      refine mx_iconst (1) (mx_d tX11_mean_0 10 rfl) (by decide) ?_
      refine mx_icmp_le (tgt := 30) (mx_d tX11_mean_0 11 rfl) (by decide) (fun hc4 => ?_) (fun hc4 => ?_)
      · rw [if_pos hc4] at h
        refine mx_aload_n (mx_d tX11_mean_0 16 rfl) rfl rfl ?_
        refine mx_getR (mx_d tX11_mean_0 17 rfl) fX11_19 rfl rfl (ly11_o h0) (ly11_r1 h0) ?_
        obtain ⟨r5, h_r5, h⟩ := Option.bind_eq_some_iff.mp h
        refine mx_cVi (mx_d tX11_mean_0 18 rfl) iX11_206 rfl vX4_total ⟨_, rfl, rfl⟩ (ly4_o (ly11_s1 h0)) (CX4_total (ly11_s1 h0) h_r5) (by decide) rfl rfl (Nat.le_of_ble_eq_true rfl) ?_
        refine mx_istore_n (L2 := [.ref a, .int x0, .int r1, .int r5, .float 0]) (mx_d tX11_mean_0 19 rfl) rfl (by decide) (by rfl) ?_
        refine mx_iload_n (mx_d tX11_mean_0 20 rfl) rfl rfl ?_
        refine mx_iload_n (mx_d tX11_mean_0 21 rfl) rfl rfl ?_
        obtain ⟨r6, h_r6, h⟩ := Option.bind_eq_some_iff.mp h
        refine mx_cSi (mx_d tX11_mean_0 22 rfl) iX11_350 rfl sX11_commonDivisor (CX11_commonDivisor  h_r6) (by decide) rfl rfl (Nat.le_of_ble_eq_true rfl) ?_
        refine mx_istore (L2 := [.ref a, .int x0, .int r1, .int r5, .int r6]) (mx_d tX11_mean_0 23 rfl) (by decide) (by rfl) ?_
        refine mx_iload_n (mx_d tX11_mean_0 24 rfl) rfl rfl ?_
        refine mx_if_ne (tgt := 53) (mx_d tX11_mean_0 25 rfl) (by decide) (fun hc7 => ?_) (fun hc7 => ?_)
        · rw [if_neg hc7] at h
          refine mx_iload_n (mx_d tX11_mean_0 28 rfl) rfl rfl ?_
          refine mx_iconst (1) (mx_d tX11_mean_0 29 rfl) (by decide) ?_
          refine mx_iload (mx_d tX11_mean_0 30 rfl) rfl ?_
          obtain ⟨r8, h_r8, h⟩ := Option.bind_eq_some_iff.mp h
          refine mx_cSi (mx_d tX11_mean_0 31 rfl) iX11_353 rfl sJ9_max_7cf53 (CJ9_max_7cf53  h_r8) (by decide) rfl rfl (Nat.le_of_ble_eq_true rfl) ?_
          obtain ⟨hz9, h⟩ := mx_chkE h
          refine mx_idiv (mx_d tX11_mean_0 32 rfl) (mx_nzE hz9) ?_
          obtain rfl := Option.some.inj h
          exact mx_ireturn (mx_d tX11_mean_0 33 rfl) rfl ⟨rfl, rfl⟩
        · rw [if_pos hc7] at h
          refine mx_iload_n (mx_d tX11_mean_0 26 rfl) rfl rfl ?_
          refine mx_goto (tgt := 54) (mx_d tX11_mean_0 27 rfl) (by decide) ?_
          refine mx_iconst (1) (mx_d tX11_mean_0 29 rfl) (by decide) ?_
          refine mx_iload (mx_d tX11_mean_0 30 rfl) rfl ?_
          obtain ⟨r10, h_r10, h⟩ := Option.bind_eq_some_iff.mp h
          refine mx_cSi (mx_d tX11_mean_0 31 rfl) iX11_353 rfl sJ9_max_7cf53 (CJ9_max_7cf53  h_r10) (by decide) rfl rfl (Nat.le_of_ble_eq_true rfl) ?_
          obtain ⟨hz11, h⟩ := mx_chkE h
          refine mx_idiv (mx_d tX11_mean_0 32 rfl) (mx_nzE hz11) ?_
          obtain rfl := Option.some.inj h
          exact mx_ireturn (mx_d tX11_mean_0 33 rfl) rfl ⟨rfl, rfl⟩
      · rw [if_neg hc4] at h
        cases h
/-! ===== the four that throw: what they answer ===== -/
section THR
variable {c d : mB}
/-- the class answers A, or throws (TH); the reference B -/
def Th (c : mB) (A : Option Int32) (TH : Prop) (B : Option (Int32 × mB)) : Prop := ∃ s, B = some s ∧ RR c s.2 ∧ ((A = some s.1 ∧ s.2.1 222 0 = 0) ∨ (TH ∧ s.2.1 222 0 = 1))
theorem Th_y {A : Option Int32} {TH : Prop} {x : Int32} {d' : mB} (hR : RR c d') (hA : A = some x) (h0 : d'.1 222 0 = 0) : Th c A TH (some (x, d')) := ⟨_, rfl, hR, Or.inl ⟨hA, h0⟩⟩
theorem Th_n {A : Option Int32} {TH : Prop} {d0 : mB} (hR : RR c d0) (h : TH) : Th c A TH (Option.bind (FX12_refuse 222 d0) (fun r => some (r.1, r.2))) := ⟨(0, (mx_up d0.1 222 0 1, d0.2)), rfl, th0 hR 1, Or.inr ⟨h, mx_up_self d0.1 222 0 1⟩⟩
theorem Th_of {A : Option Int32} {TH : Prop} {B : Option (Int32 × mB)} (h : ∃ s, B = some s ∧ RR c s.2 ∧ A = some s.1 ∧ s.2.1 222 0 = 0) : Th c A TH B := by
  obtain ⟨s, h1, h2, h3⟩ := h
  exact ⟨s, h1, h2, Or.inl h3⟩
theorem T_proofBy (h : RR c d) : Th c (FX11_proofBy 0 c) (c.1 0 16 = -1) (FX12_proofBy 222 d) := by
  have h0 := th0 h 0
  have z0 : (mx_up d.1 222 0 0, d.2).1 222 0 = 0 := mx_up_self d.1 222 0 0
  unfold FX11_proofBy FX12_proofBy
  rw [mx_letI]
  generalize (mx_up d.1 222 0 0, d.2) = d0 at h0 z0 ⊢
  obtain ⟨p1, p2⟩ := h0.2.2.2.2.2.2.1
  by_cases q : d0.1 222 32 = -1
  · rw [if_pos q]; exact Th_n h0 (p1.trans q)
  · rw [if_neg q, if_neg (by rw [p1]; exact q)]
    exact Th_y h0 (by rw [p2 q]) z0
theorem T_slack (h : RR c d) (x : Int32) : Th c (FX11_slack 0 x c) (FX4_hasLink 4 x c = some 0) (FX12_slack 222 x d) := by
  have h0 := th0 h 0
  have z0 : (mx_up d.1 222 0 0, d.2).1 222 0 = 0 := mx_up_self d.1 222 0 0
  unfold FX11_slack FX12_slack
  rw [mx_letI]
  generalize (mx_up d.1 222 0 0, d.2) = d0 at h0 z0 ⊢
  obtain ⟨g, s, hg, hs⟩ := h0.2.2.1.1
  have hn := g.2.1.2
  show Th c (Option.bind (FX4_hasLink 4 x c) _) _ _
  rcases i3_cases x (nL (d0.1 224)) (by omega) with ⟨l, hl, rfl⟩ | ⟨-, hx⟩
  · rw [C_hasLink_y g hg hl, M_isLink_y g rfl hl, ob_some, ob_some, if_neg (show ¬ (1 : Int32) = 0 by decide), if_neg (show ¬ (1 : Int32) = 0 by decide)]
    show Th c (Option.bind (FX4_slackOf 4 (i3 l) c) _) _ _
    rw [C_slackOf_y g s hg hs hl, M_slackOf_y g s rfl hl, ob_some, ob_some]
    exact Th_y h0 rfl z0
  · rw [M_isLink_n g rfl hx, ob_some, if_pos rfl]
    exact Th_n h0 (C_hasLink_n g hg hx)
theorem T_point (h : RR c d) (x y : Int32) : Th c (FX11_point 0 x y c) (∃ b, FX4_hasPoint 4 x c = some b ∧ (b = 0 ∨ y < 0 ∨ ¬ y ≤ 4)) (FX12_point 222 x y d) := by
  have h0 := th0 h 0
  have z0 : (mx_up d.1 222 0 0, d.2).1 222 0 = 0 := mx_up_self d.1 222 0 0
  unfold FX11_point FX12_point
  rw [mx_letI]
  generalize (mx_up d.1 222 0 0, d.2) = d0 at h0 z0 ⊢
  obtain ⟨g, s, hg, hs⟩ := h0.2.2.1.1
  have hn := g.1.2
  show Th c (Option.bind (FX4_hasPoint 4 x c) _) _ _
  rcases i3_cases x (nP (d0.1 224)) (by omega) with ⟨p, hp, rfl⟩ | ⟨-, hx⟩
  · have hP := C_hasPoint_y g hg hp
    rw [M_isPoint_y g rfl hp, ob_some, if_neg (show ¬ (1 : Int32) = 0 by decide)]
    rcases i3_cases y 5 (by omega) with ⟨k, hk, rfl⟩ | ⟨hy, hx⟩
    · refine Th_of ?_
      rw [hP, ob_some, if_neg (show ¬ (1 : Int32) = 0 by decide)]
      rcases (show k = 0 ∨ k = 1 ∨ k = 2 ∨ k = 3 ∨ k = 4 by omega) with rfl | rfl | rfl | rfl | rfl
      · rw [if_neg (show ¬ i3 0 < 0 by decide), if_pos (show i3 0 ≤ 4 by decide), if_pos (show i3 0 = 0 by decide), if_pos (show i3 0 = 0 by decide)]
        show ∃ s, _ = some s ∧ _ ∧ Option.bind (FX4_partnerOf 4 (i3 p) c) _ = _ ∧ _
        rw [C_partnerOf_y g hg hs hp, ob_some, i3_Ladd, mx_inb_i3 (by omega) (by omega), mx_chkT, i3_toNat (by omega)]
        exact ⟨_, rfl, h0, rfl, z0⟩
      · rw [if_neg (show ¬ i3 1 < 0 by decide), if_pos (show i3 1 ≤ 4 by decide), if_neg (show ¬ i3 1 = 0 by decide), if_neg (show ¬ i3 1 = 0 by decide), if_pos (show i3 1 = 1 by decide), if_pos (show i3 1 = 1 by decide)]
        show ∃ s, _ = some s ∧ _ ∧ Option.bind (FX4_priceOf 4 (i3 p) c) _ = _ ∧ _
        rw [C_priceOf_y g hg hs hp, ob_some, i3_Ladd, mx_inb_i3 (by omega) (by omega), mx_chkT, i3_toNat (by omega)]
        exact ⟨_, rfl, h0, rfl, z0⟩
      · rw [if_neg (show ¬ i3 2 < 0 by decide), if_pos (show i3 2 ≤ 4 by decide), if_neg (show ¬ i3 2 = 0 by decide), if_neg (show ¬ i3 2 = 0 by decide), if_neg (show ¬ i3 2 = 1 by decide), if_neg (show ¬ i3 2 = 1 by decide), if_pos (show i3 2 = 2 by decide), if_pos (show i3 2 = 2 by decide), if_neg (show ¬ i3 2 = 3 by decide)]
        show ∃ s, Option.bind (FX12_partners 222 (i3 p) (b2 false) d0) _ = some s ∧ _ ∧ Option.bind (FX4_nearTo 4 (i3 p) c) _ = _ ∧ _
        rw [C_nearTo_y g hg hp, near_ptn g hg hp, ob_some, M_partners g s rfl hp false, ob_some]
        exact ⟨_, rfl, h0, rfl, z0⟩
      · rw [if_neg (show ¬ i3 3 < 0 by decide), if_pos (show i3 3 ≤ 4 by decide), if_neg (show ¬ i3 3 = 0 by decide), if_neg (show ¬ i3 3 = 0 by decide), if_neg (show ¬ i3 3 = 1 by decide), if_neg (show ¬ i3 3 = 1 by decide), if_neg (show ¬ i3 3 = 2 by decide), if_neg (show ¬ i3 3 = 2 by decide), if_pos (show i3 3 = 3 by decide), if_pos (show i3 3 = 3 by decide), if_pos (show i3 3 = 3 by decide)]
        show ∃ s, Option.bind (FX12_partners 222 (i3 p) (b2 true) d0) _ = some s ∧ _ ∧ Option.bind (FX4_tightTo 4 (i3 p) c) _ = _ ∧ _
        rw [C_tightTo g s hg hs hp, ob_some, M_partners g s rfl hp true, ob_some]
        exact ⟨_, rfl, h0, rfl, z0⟩
      · rw [if_neg (show ¬ i3 4 < 0 by decide), if_pos (show i3 4 ≤ 4 by decide), if_neg (show ¬ i3 4 = 0 by decide), if_neg (show ¬ i3 4 = 0 by decide), if_neg (show ¬ i3 4 = 1 by decide), if_neg (show ¬ i3 4 = 1 by decide), if_neg (show ¬ i3 4 = 2 by decide), if_neg (show ¬ i3 4 = 2 by decide), if_neg (show ¬ i3 4 = 3 by decide), if_neg (show ¬ i3 4 = 3 by decide), if_pos (show i3 4 = 4 by decide)]
        show ∃ s, Option.bind (FX12_point_L95 222 (i3 p) d0 mx_FU 0 (i3 0)) _ = some s ∧ _ ∧ Option.bind (FX4_setsWith 4 (i3 p) c) _ = _ ∧ _
        rw [C_setsWith g s hs hp, ob_some, M_point_L g s rfl hp, ob_some]
        exact ⟨_, rfl, h0, rfl, z0⟩
    · simp only [if_neg (show ¬ y = 0 from hx 0 (by omega)), if_neg (show ¬ y = 1 from hx 1 (by omega)), if_neg (show ¬ y = 2 from hx 2 (by omega)), if_neg (show ¬ y = 3 from hx 3 (by omega)), if_neg (show ¬ y = 4 from hx 4 (by omega))]
      refine Th_n h0 ?_
      exact ⟨1, hP, Or.inr (hy.imp id (fun h q => absurd (Int32.le_trans h q) (by decide)))⟩
  · rw [M_isPoint_n g rfl hx, ob_some, if_pos rfl]
    exact Th_n h0 ⟨0, C_hasPoint_n g hg hx, Or.inl rfl⟩
theorem E_mod {a b : Nat} (ha : a < 2147483648) (hb : b < 2147483648) : i3 a - i3 a / i3 b * i3 b = i3 (a % b) := by
  rw [i3_div ha hb, i3_mul, i3_sub (Nat.div_mul_le_self a b)]
  congr 1
  have h := Nat.div_add_mod a b
  rw [Nat.mul_comm] at h
  omega
theorem E_nz {b : Nat} (hb : b < 2147483648) (q : b ≠ 0) : ¬ i3 b = 0 := fun w => q ((i3_eq hb (by omega)).mp (show i3 b = i3 0 from w))
theorem E_L4 {m : mB} : ∀ (b a fu : Nat), a < 2147483648 → b < 2147483648 → b < fu → FX12_common_L4 m fu (i3 a) (i3 b) = some (i3 (Nat.gcd b a)) := by
  intro b
  induction b using Nat.strongRecOn with
  | ind b ih =>
    intro a fu ha hb hf
    cases fu with
    | zero => omega
    | succ fu =>
      rw [FX12_common_L4]
      by_cases q : b = 0
      · subst q; rw [if_pos (show i3 0 = 0 from rfl), Nat.gcd_zero_left]
      · have hm := Nat.mod_lt a (show b > 0 by omega)
        rw [if_neg (E_nz hb q), mx_chkI _ (show mx_nz (i3 b) = true from decide_eq_true (E_nz hb q)), mx_letI, E_mod ha hb, ih (a % b) hm b fu hb (by omega) (by omega), Nat.gcd_rec b a]
theorem E_L7 {m : mB} : ∀ (b a j fu : Nat), a < 2147483648 → b < 2147483648 → b < fu → b + j < 50 → FX11_commonDivisor_L7 m fu (i3 a) (i3 b) (i3 j) = some (i3 (Nat.gcd b a)) := by
  intro b
  induction b using Nat.strongRecOn with
  | ind b ih =>
    intro a j fu ha hb hf hj
    cases fu with
    | zero => omega
    | succ fu =>
      rw [FX11_commonDivisor_L7, if_neg (by rw [i3_Lle (by omega) (by omega)]; omega)]
      by_cases q : b = 0
      · subst q; rw [if_pos (show i3 0 ≤ 0 by decide), Nat.gcd_zero_left]
      · have hm := Nat.mod_lt a (show b > 0 by omega)
        rw [if_neg (by rw [i3_leL (by omega) (by omega)]; omega), mx_chkI _ (show mx_nz (i3 b) = true from decide_eq_true (E_nz hb q)), mx_letI, mx_letI, E_mod ha hb, i3_succ, ih (a % b) hm b (j + 1) fu hb (by omega) (by omega) (by omega), Nat.gcd_rec b a]
theorem prs_i3 {N : Rw} (g : GI N) : ∃ k, prs N = i3 k ∧ k ≤ 30 := by
  have key : ∀ n, ∃ k, fo (fun l s => if prd N l = true then s + 1 else s) n (0 : Int32) = i3 k ∧ k ≤ n := by
    intro n
    induction n with
    | zero => exact ⟨0, rfl, Nat.le_refl _⟩
    | succ n ih =>
      obtain ⟨k, e, hk⟩ := ih
      show ∃ k, (if prd N n = true then fo (fun l s => if prd N l = true then s + 1 else s) n (0 : Int32) + 1 else fo (fun l s => if prd N l = true then s + 1 else s) n (0 : Int32)) = i3 k ∧ k ≤ n + 1
      rw [e]
      by_cases q : prd N n = true
      · rw [if_pos q, i3_succ]; exact ⟨k + 1, rfl, by omega⟩
      · rw [if_neg q]; exact ⟨k, rfl, by omega⟩
  obtain ⟨k, e, hk⟩ := key (nL N)
  have := g.2.1.2
  exact ⟨k, e, by omega⟩
theorem tot_i3 {N : Rw} (g : GI N) (s : SI N) : ∃ k, tot N = i3 k ∧ k ≤ 3000 := by
  have key : ∀ n, n ≤ nL N → ∃ k, fo (fun l s => if prd N l = true then s + N (128 + l) else s) n (0 : Int32) = i3 k ∧ k ≤ 99 * n := by
    intro n
    induction n with
    | zero => exact fun _ => ⟨0, rfl, Nat.le_refl _⟩
    | succ n ih =>
      intro hn
      obtain ⟨k, e, hk⟩ := ih (by omega)
      obtain ⟨w, ew, -, hw⟩ := s.2.1 n (by omega)
      show ∃ k, (if prd N n = true then fo (fun l s => if prd N l = true then s + N (128 + l) else s) n (0 : Int32) + N (128 + n) else fo (fun l s => if prd N l = true then s + N (128 + l) else s) n (0 : Int32)) = i3 k ∧ k ≤ 99 * (n + 1)
      rw [e, ew, i3_add]
      by_cases q : prd N n = true
      · rw [if_pos q]; exact ⟨k + w, rfl, by omega⟩
      · rw [if_neg q]; exact ⟨k, rfl, by omega⟩
  obtain ⟨k, e, hk⟩ := key (nL N) (Nat.le_refl _)
  have := g.2.1.2
  exact ⟨k, e, by omega⟩
theorem T_mean (h : RR c d) (x : Int32) : Th c (FX11_mean 0 x c) (∃ b, FX4_pairs 4 c = some b ∧ (b < 1 ∨ x < 0 ∨ ¬ x ≤ 1)) (FX12_mean 222 x d) := by
  have h0 := th0 h 0
  have z0 : (mx_up d.1 222 0 0, d.2).1 222 0 = 0 := mx_up_self d.1 222 0 0
  unfold FX11_mean FX12_mean
  rw [mx_letI]
  generalize (mx_up d.1 222 0 0, d.2) = d0 at h0 z0 ⊢
  obtain ⟨g, s, hg, hs⟩ := h0.2.2.1.1
  obtain ⟨k, ek, hk⟩ := prs_i3 g
  obtain ⟨t, et, ht⟩ := tot_i3 g s
  have hC := C_pairs g s hg hs
  have hM := M_pairMany g s (d := d0) rfl
  rw [ek] at hC hM
  rw [hM, ob_some]
  by_cases q : k = 0
  · subst q
    rw [if_pos (show i3 0 ≤ 0 by decide)]
    exact Th_n h0 ⟨i3 0, hC, Or.inl (by decide)⟩
  · rw [if_neg (by rw [i3_leL (by omega) (by omega)]; omega)]
    have hg1 : 1 ≤ Nat.gcd k t := Nat.gcd_pos_of_pos_left t (by omega)
    have hg2 : Nat.gcd k t ≤ k := Nat.gcd_le_left t (by omega)
    have e4 : FX12_common (i3 t) (i3 k) d0 = some (i3 (Nat.gcd k t)) := by
      unfold FX12_common
      rw [E_L4 k t mx_FU (by omega) (by omega) (by unfold mx_FU; omega), ob_some]
    have e7 : FX11_commonDivisor (i3 t) (i3 k) c = some (i3 (Nat.gcd k t)) := by
      unfold FX11_commonDivisor
      show Option.bind (FX11_commonDivisor_L7 c mx_FU (i3 t) (i3 k) (i3 0)) _ = _
      rw [E_L7 k t 0 mx_FU (by omega) (by omega) (by unfold mx_FU; omega) (by omega), ob_some]
    have em : FJ9_max_7cf53 1 (i3 (Nat.gcd k t)) c = some (i3 (Nat.gcd k t)) := by
      unfold FJ9_max_7cf53
      by_cases w : Nat.gcd k t = 1
      · rw [w]; rfl
      · rw [if_pos (by rw [i3_Llt (by omega) (by omega)]; omega)]
    have hz := E_nz (b := Nat.gcd k t) (by omega) (by omega)
    have hz2 : mx_nz (i3 (Nat.gcd k t)) = true := decide_eq_true hz
    rcases i3_cases x 2 (by omega) with ⟨y, hy, rfl⟩ | ⟨hy, hx⟩
    · refine Th_of ?_
      show ∃ s, _ = some s ∧ _ ∧ Option.bind (FX4_pairs 4 c) _ = _ ∧ _
      rw [hC, ob_some, if_neg (show ¬ i3 k < 1 by rw [i3_ltL (by omega) (by omega)]; omega)]
      rcases (show y = 0 ∨ y = 1 by omega) with rfl | rfl
      · rw [if_neg (show ¬ i3 0 < 0 by decide), if_pos (show i3 0 ≤ 1 by decide), show FX12_isIn (i3 0) 0 1 d0 = some 1 from rfl, ob_some, if_neg (show ¬ (1 : Int32) = 0 by decide), M_totalNow g s rfl, et, ob_some, ob_some]
        show ∃ s, Option.bind (FX12_fraction 222 (i3 t) (i3 k) (i3 0) d0) _ = some s ∧ _ ∧ Option.bind (FX4_total 4 c) _ = _ ∧ _
        unfold FX12_fraction
        rw [C_total g s hg hs, et, ob_some, e7, ob_some, e4, ob_some, if_pos (show i3 0 = 0 from rfl), if_pos (show i3 0 = 0 from rfl), em, ob_some, mx_chkI _ hz2, ob_some]
        exact ⟨_, rfl, h0, rfl, z0⟩
      · rw [if_neg (show ¬ i3 1 < 0 by decide), if_pos (show i3 1 ≤ 1 by decide), show FX12_isIn (i3 1) 0 1 d0 = some 1 from rfl, ob_some, if_neg (show ¬ (1 : Int32) = 0 by decide), M_totalNow g s rfl, et, ob_some, ob_some]
        show ∃ s, Option.bind (FX12_fraction 222 (i3 t) (i3 k) (i3 1) d0) _ = some s ∧ _ ∧ Option.bind (FX4_total 4 c) _ = _ ∧ _
        unfold FX12_fraction
        rw [C_total g s hg hs, et, ob_some, e7, ob_some, e4, ob_some, if_neg (show ¬ i3 1 = 0 by decide), if_neg (show ¬ i3 1 = 0 by decide), em, ob_some, mx_chkI _ hz2, ob_some]
        exact ⟨_, rfl, h0, rfl, z0⟩
    · have eI : FX12_isIn x 0 1 d0 = some 0 := M_isIn_n (n := 2) (by omega) hx d0
      rw [eI, ob_some, if_pos rfl]
      refine Th_n h0 ?_
      exact ⟨i3 k, hC, Or.inr (hy.imp id (fun h q => absurd (Int32.le_trans h q) (by decide)))⟩
end THR
