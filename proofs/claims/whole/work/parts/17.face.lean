def FX11_feed (a : Nat) (x0 : Int32) (x1 : Int32) (x2 : Int32) (x3 : Int32) (x4 : Int32) (m : mB) : Option (Int32 × mB) := Option.bind (FX10_length (a + 1) m) (fun r1 => (if (r1 + 20) ≤ 940 then Option.bind (FX10_putFour (a + 1) x0 m) (fun r3 => Option.bind (FX10_putFour (a + 1) x1 r3) (fun r4 => Option.bind (FX10_putFour (a + 1) x2 r4) (fun r5 => Option.bind (FX10_putFour (a + 1) x3 r5) (fun r6 => Option.bind (FX10_putFour (a + 1) x4 r6) (fun r7 => Option.bind (FX10_length (a + 1) r7) (fun r8 => (some (r8, r7)))))))) else (some ((-1), m))))
set_option maxRecDepth 20000 in
theorem CX11_feed {G : mG} {l : Launch} {e : mE} {a : Nat} {x0 : Int32} {x1 : Int32} {x2 : Int32} {x3 : Int32} {x4 : Int32} {m : mB} {r : (Int32 × mB)} (h0 : ly11 e a) (h : FX11_feed a x0 x1 x2 x3 x4 m = some r) : mx_Call G l MX11_feed 2 0 0 [.ref a, .int x0, .int x1, .int x2, .int x3, .int x4] (e, m) (fun v z => v = some (.int r.1) ∧ z = (e, r.2)) := by
  refine mx_entry (L := [.ref a, .int x0, .int x1, .int x2, .int x3, .int x4]) (by decide +kernel) (Nat.le_of_ble_eq_true rfl) rfl ?_
  unfold FX11_feed at h
  refine mx_aload_n (mx_d tX11_feed_0 0 rfl) rfl rfl ?_
  refine mx_getR (mx_d tX11_feed_0 1 rfl) fX11_10 rfl rfl (ly11_o h0) (ly11_r0 h0) ?_
  obtain ⟨r1, h_r1, h⟩ := Option.bind_eq_some_iff.mp h
  refine mx_cVi (mx_d tX11_feed_0 2 rfl) iX11_110 rfl vX10_length ⟨_, rfl, rfl⟩ (ly10_o (ly11_s0 h0)) (CX10_length (ly11_s0 h0) h_r1) (by decide) rfl rfl (Nat.le_of_ble_eq_true rfl) ?_
  refine mx_bipush (20) (mx_d tX11_feed_0 3 rfl) (by decide) ?_
  refine mx_iadd (mx_d tX11_feed_0 4 rfl) ?_
  refine mx_sipush (940) (mx_d tX11_feed_0 5 rfl) (by decide) ?_
  refine mx_icmp_le (tgt := 18) (mx_d tX11_feed_0 6 rfl) (by decide) (fun hc2 => ?_) (fun hc2 => ?_)
  · rw [if_pos hc2] at h
    refine mx_aload_n (mx_d tX11_feed_0 9 rfl) rfl rfl ?_
    refine mx_getR (mx_d tX11_feed_0 10 rfl) fX11_10 rfl rfl (ly11_o h0) (ly11_r0 h0) ?_
    refine mx_iload_n (mx_d tX11_feed_0 11 rfl) rfl rfl ?_
    obtain ⟨r3, h_r3, h⟩ := Option.bind_eq_some_iff.mp h
    refine mx_cVv (mx_d tX11_feed_0 12 rfl) iX11_114 rfl vX10_putFour ⟨_, rfl, rfl⟩ (ly10_o (ly11_s0 h0)) (CX10_putFour (ly11_s0 h0) h_r3) (by decide) rfl rfl (Nat.le_of_ble_eq_true rfl) ?_
    refine mx_aload_n (mx_d tX11_feed_0 13 rfl) rfl rfl ?_
    refine mx_getR (mx_d tX11_feed_0 14 rfl) fX11_10 rfl rfl (ly11_o h0) (ly11_r0 h0) ?_
    refine mx_iload_n (mx_d tX11_feed_0 15 rfl) rfl rfl ?_
    obtain ⟨r4, h_r4, h⟩ := Option.bind_eq_some_iff.mp h
    refine mx_cVv (mx_d tX11_feed_0 16 rfl) iX11_114 rfl vX10_putFour ⟨_, rfl, rfl⟩ (ly10_o (ly11_s0 h0)) (CX10_putFour (ly11_s0 h0) h_r4) (by decide) rfl rfl (Nat.le_of_ble_eq_true rfl) ?_
    refine mx_aload_n (mx_d tX11_feed_0 17 rfl) rfl rfl ?_
    refine mx_getR (mx_d tX11_feed_0 18 rfl) fX11_10 rfl rfl (ly11_o h0) (ly11_r0 h0) ?_
    refine mx_iload_n (mx_d tX11_feed_0 19 rfl) rfl rfl ?_
    obtain ⟨r5, h_r5, h⟩ := Option.bind_eq_some_iff.mp h
    refine mx_cVv (mx_d tX11_feed_0 20 rfl) iX11_114 rfl vX10_putFour ⟨_, rfl, rfl⟩ (ly10_o (ly11_s0 h0)) (CX10_putFour (ly11_s0 h0) h_r5) (by decide) rfl rfl (Nat.le_of_ble_eq_true rfl) ?_
    refine mx_aload_n (mx_d tX11_feed_0 21 rfl) rfl rfl ?_
    refine mx_getR (mx_d tX11_feed_0 22 rfl) fX11_10 rfl rfl (ly11_o h0) (ly11_r0 h0) ?_
    refine mx_iload (mx_d tX11_feed_0 23 rfl) rfl ?_
    obtain ⟨r6, h_r6, h⟩ := Option.bind_eq_some_iff.mp h
    refine mx_cVv (mx_d tX11_feed_0 24 rfl) iX11_114 rfl vX10_putFour ⟨_, rfl, rfl⟩ (ly10_o (ly11_s0 h0)) (CX10_putFour (ly11_s0 h0) h_r6) (by decide) rfl rfl (Nat.le_of_ble_eq_true rfl) ?_
    refine mx_aload_n (mx_d tX11_feed_0 25 rfl) rfl rfl ?_
    refine mx_getR (mx_d tX11_feed_0 26 rfl) fX11_10 rfl rfl (ly11_o h0) (ly11_r0 h0) ?_
    refine mx_iload (mx_d tX11_feed_0 27 rfl) rfl ?_
    obtain ⟨r7, h_r7, h⟩ := Option.bind_eq_some_iff.mp h
    refine mx_cVv (mx_d tX11_feed_0 28 rfl) iX11_114 rfl vX10_putFour ⟨_, rfl, rfl⟩ (ly10_o (ly11_s0 h0)) (CX10_putFour (ly11_s0 h0) h_r7) (by decide) rfl rfl (Nat.le_of_ble_eq_true rfl) ?_
    refine mx_aload_n (mx_d tX11_feed_0 29 rfl) rfl rfl ?_
    refine mx_getR (mx_d tX11_feed_0 30 rfl) fX11_10 rfl rfl (ly11_o h0) (ly11_r0 h0) ?_
    obtain ⟨r8, h_r8, h⟩ := Option.bind_eq_some_iff.mp h
    refine mx_cVi (mx_d tX11_feed_0 31 rfl) iX11_110 rfl vX10_length ⟨_, rfl, rfl⟩ (ly10_o (ly11_s0 h0)) (CX10_length (ly11_s0 h0) h_r8) (by decide) rfl rfl (Nat.le_of_ble_eq_true rfl) ?_
    obtain rfl := Option.some.inj h
    exact mx_ireturn (mx_d tX11_feed_0 32 rfl) rfl ⟨rfl, rfl⟩
  · rw [if_neg hc2] at h
    refine mx_iconst ((-1)) (mx_d tX11_feed_0 7 rfl) (by decide) ?_
    obtain rfl := Option.some.inj h
    exact mx_ireturn (mx_d tX11_feed_0 8 rfl) rfl ⟨rfl, rfl⟩
def FX11_end (a : Nat) (x0 : Int32) (m : mB) : Option (Int32 × mB) := (if x0 < 0 then (some (0, m)) else Option.bind (FX10_length (a + 1) m) (fun r2 => (if x0 ≤ r2 then Option.bind (FX10_cut (a + 1) x0 m) (fun r4 => (some (1, r4))) else (some (0, m)))))
set_option maxRecDepth 20000 in
theorem CX11_end {G : mG} {l : Launch} {e : mE} {a : Nat} {x0 : Int32} {m : mB} {r : (Int32 × mB)} (h0 : ly11 e a) (h : FX11_end a x0 m = some r) : mx_Call G l MX11_end 2 0 0 [.ref a, .int x0] (e, m) (fun v z => v = some (.int r.1) ∧ z = (e, r.2)) := by
  refine mx_entry (L := [.ref a, .int x0]) (by decide +kernel) (Nat.le_of_ble_eq_true rfl) rfl ?_
  unfold FX11_end at h
  refine mx_iload_n (mx_d tX11_end_0 0 rfl) rfl rfl ?_
  refine mx_if_lt (tgt := 15) (mx_d tX11_end_0 1 rfl) (by decide) (fun hc1 => ?_) (fun hc1 => ?_)
  · rw [if_pos hc1] at h
    refine mx_iconst (0) (mx_d tX11_end_0 7 rfl) (by decide) ?_
    obtain rfl := Option.some.inj h
    exact mx_zreturn (mx_d tX11_end_0 8 rfl) rfl rfl ⟨rfl, rfl⟩
  · rw [if_neg hc1] at h
    refine mx_iload_n (mx_d tX11_end_0 2 rfl) rfl rfl ?_
    refine mx_aload_n (mx_d tX11_end_0 3 rfl) rfl rfl ?_
    refine mx_getR (mx_d tX11_end_0 4 rfl) fX11_10 rfl rfl (ly11_o h0) (ly11_r0 h0) ?_
    obtain ⟨r2, h_r2, h⟩ := Option.bind_eq_some_iff.mp h
    refine mx_cVi (mx_d tX11_end_0 5 rfl) iX11_110 rfl vX10_length ⟨_, rfl, rfl⟩ (ly10_o (ly11_s0 h0)) (CX10_length (ly11_s0 h0) h_r2) (by decide) rfl rfl (Nat.le_of_ble_eq_true rfl) ?_
    refine mx_icmp_le (tgt := 17) (mx_d tX11_end_0 6 rfl) (by decide) (fun hc3 => ?_) (fun hc3 => ?_)
    · rw [if_pos hc3] at h
      refine mx_aload_n (mx_d tX11_end_0 9 rfl) rfl rfl ?_
      refine mx_getR (mx_d tX11_end_0 10 rfl) fX11_10 rfl rfl (ly11_o h0) (ly11_r0 h0) ?_
      refine mx_iload_n (mx_d tX11_end_0 11 rfl) rfl rfl ?_
      obtain ⟨r4, h_r4, h⟩ := Option.bind_eq_some_iff.mp h
      refine mx_cVv (mx_d tX11_end_0 12 rfl) iX11_117 rfl vX10_cut ⟨_, rfl, rfl⟩ (ly10_o (ly11_s0 h0)) (CX10_cut (ly11_s0 h0) h_r4) (by decide) rfl rfl (Nat.le_of_ble_eq_true rfl) ?_
      refine mx_iconst (1) (mx_d tX11_end_0 13 rfl) (by decide) ?_
      obtain rfl := Option.some.inj h
      exact mx_zreturn (mx_d tX11_end_0 14 rfl) rfl rfl ⟨rfl, rfl⟩
    · rw [if_neg hc3] at h
      refine mx_iconst (0) (mx_d tX11_end_0 7 rfl) (by decide) ?_
      obtain rfl := Option.some.inj h
      exact mx_zreturn (mx_d tX11_end_0 8 rfl) rfl rfl ⟨rfl, rfl⟩
def FX11_network (a : Nat) (m : mB) : Option (Int32 × mB) := Option.bind (FX5_read (a + 26) (a + 1) m) (fun r1 => Option.bind (FX10_cut (a + 1) 0 r1.2) (fun r2 => (if r1.1 = 0 then Option.bind (FX10_faultAt (a + 1) r2) (fun r8 => (some (((-1) - r8), r2))) else Option.bind (FX4_copyFrom (a + 4) ((a + 26) + 1) r2) (fun r4 => Option.bind (FX8_clear (a + 174) r4) (fun r5 => Option.bind (FX3_forget (a + 68) r5) (fun r6 => Option.bind (FX5_lines (a + 26) r6) (fun r7 => (some (r7, r6)))))))))
set_option maxRecDepth 20000 in
theorem CX11_network {G : mG} {l : Launch} {e : mE} {a : Nat} {m : mB} {r : (Int32 × mB)} (h0 : ly11 e a) (h : FX11_network a m = some r) : mx_Call G l MX11_network 7 0 0 [.ref a] (e, m) (fun v z => v = some (.int r.1) ∧ z = (e, r.2)) := by
  refine mx_entry (L := [.ref a, .float 0]) (by decide +kernel) (Nat.le_of_ble_eq_true rfl) rfl ?_
  unfold FX11_network at h
  refine mx_aload_n (mx_d tX11_network_0 0 rfl) rfl rfl ?_
  refine mx_getR (mx_d tX11_network_0 1 rfl) fX11_29 rfl rfl (ly11_o h0) (ly11_r3 h0) ?_
  refine mx_aload_n (mx_d tX11_network_0 2 rfl) rfl rfl ?_
  refine mx_getR (mx_d tX11_network_0 3 rfl) fX11_10 rfl rfl (ly11_o h0) (ly11_r0 h0) ?_
  obtain ⟨r1, h_r1, h⟩ := Option.bind_eq_some_iff.mp h
  refine mx_cVi (mx_d tX11_network_0 4 rfl) iX11_120 rfl vX5_read ⟨_, rfl, rfl⟩ (ly5_o (ly11_s3 h0)) (CX5_read (ly11_s3 h0) (ly11_s0 h0) h_r1) (by decide) rfl rfl (Nat.le_of_ble_eq_true rfl) ?_
  refine mx_istore_n (L2 := [.ref a, .int r1.1]) (mx_d tX11_network_0 5 rfl) rfl (by decide) (by rfl) ?_
  refine mx_aload_n (mx_d tX11_network_0 6 rfl) rfl rfl ?_
  refine mx_getR (mx_d tX11_network_0 7 rfl) fX11_10 rfl rfl (ly11_o h0) (ly11_r0 h0) ?_
  refine mx_iconst (0) (mx_d tX11_network_0 8 rfl) (by decide) ?_
  obtain ⟨r2, h_r2, h⟩ := Option.bind_eq_some_iff.mp h
  refine mx_cVv (mx_d tX11_network_0 9 rfl) iX11_117 rfl vX10_cut ⟨_, rfl, rfl⟩ (ly10_o (ly11_s0 h0)) (CX10_cut (ly11_s0 h0) h_r2) (by decide) rfl rfl (Nat.le_of_ble_eq_true rfl) ?_
  refine mx_iload_n (mx_d tX11_network_0 10 rfl) rfl rfl ?_
  refine mx_if_ne (tgt := 34) (mx_d tX11_network_0 11 rfl) (by decide) (fun hc3 => ?_) (fun hc3 => ?_)
  · rw [if_neg hc3] at h
    refine mx_aload_n (mx_d tX11_network_0 18 rfl) rfl rfl ?_
    refine mx_getR (mx_d tX11_network_0 19 rfl) fX11_19 rfl rfl (ly11_o h0) (ly11_r1 h0) ?_
    refine mx_aload_n (mx_d tX11_network_0 20 rfl) rfl rfl ?_
    refine mx_getR (mx_d tX11_network_0 21 rfl) fX11_29 rfl rfl (ly11_o h0) (ly11_r3 h0) ?_
    refine mx_cVr (mx_d tX11_network_0 22 rfl) iX11_127 rfl vX5_result ⟨_, rfl, rfl⟩ (ly5_o (ly11_s3 h0)) (CX5_result (ly11_s3 h0) rfl) (by decide) rfl rfl (Nat.le_of_ble_eq_true rfl) ?_
    obtain ⟨r4, h_r4, h⟩ := Option.bind_eq_some_iff.mp h
    refine mx_cVv (mx_d tX11_network_0 23 rfl) iX11_131 rfl vX4_copyFrom ⟨_, rfl, rfl⟩ (ly4_o (ly11_s1 h0)) (CX4_copyFrom (ly11_s1 h0) (ly5_s0 (ly11_s3 h0)) h_r4) (by decide) rfl rfl (Nat.le_of_ble_eq_true rfl) ?_
    refine mx_aload_n (mx_d tX11_network_0 24 rfl) rfl rfl ?_
    refine mx_getR (mx_d tX11_network_0 25 rfl) fX11_79 rfl rfl (ly11_o h0) (ly11_r11 h0) ?_
    obtain ⟨r5, h_r5, h⟩ := Option.bind_eq_some_iff.mp h
    refine mx_cVv (mx_d tX11_network_0 26 rfl) iX11_135 rfl vX8_clear ⟨_, rfl, rfl⟩ (ly8_o (ly11_s11 h0)) (CX8_clear (ly11_s11 h0) h_r5) (by decide) rfl rfl (Nat.le_of_ble_eq_true rfl) ?_
    refine mx_aload_n (mx_d tX11_network_0 27 rfl) rfl rfl ?_
    refine mx_getR (mx_d tX11_network_0 28 rfl) fX11_65 rfl rfl (ly11_o h0) (ly11_r9 h0) ?_
    obtain ⟨r6, h_r6, h⟩ := Option.bind_eq_some_iff.mp h
    refine mx_cVv (mx_d tX11_network_0 29 rfl) iX11_138 rfl vX3_forget ⟨_, rfl, rfl⟩ (ly3_o (ly11_s9 h0)) (CX3_forget (ly11_s9 h0) h_r6) (by decide) rfl rfl (Nat.le_of_ble_eq_true rfl) ?_
    refine mx_aload_n (mx_d tX11_network_0 30 rfl) rfl rfl ?_
    refine mx_getR (mx_d tX11_network_0 31 rfl) fX11_29 rfl rfl (ly11_o h0) (ly11_r3 h0) ?_
    obtain ⟨r7, h_r7, h⟩ := Option.bind_eq_some_iff.mp h
    refine mx_cVi (mx_d tX11_network_0 32 rfl) iX11_141 rfl vX5_lines ⟨_, rfl, rfl⟩ (ly5_o (ly11_s3 h0)) (CX5_lines (ly11_s3 h0) h_r7) (by decide) rfl rfl (Nat.le_of_ble_eq_true rfl) ?_
    obtain rfl := Option.some.inj h
    exact mx_ireturn (mx_d tX11_network_0 33 rfl) rfl ⟨rfl, rfl⟩
  · rw [if_pos hc3] at h
    refine mx_iconst ((-1)) (mx_d tX11_network_0 12 rfl) (by decide) ?_
    refine mx_aload_n (mx_d tX11_network_0 13 rfl) rfl rfl ?_
    refine mx_getR (mx_d tX11_network_0 14 rfl) fX11_10 rfl rfl (ly11_o h0) (ly11_r0 h0) ?_
    obtain ⟨r8, h_r8, h⟩ := Option.bind_eq_some_iff.mp h
    refine mx_cVi (mx_d tX11_network_0 15 rfl) iX11_124 rfl vX10_faultAt ⟨_, rfl, rfl⟩ (ly10_o (ly11_s0 h0)) (CX10_faultAt (ly11_s0 h0) h_r8) (by decide) rfl rfl (Nat.le_of_ble_eq_true rfl) ?_
    refine mx_isub (mx_d tX11_network_0 16 rfl) ?_
    obtain rfl := Option.some.inj h
    exact mx_ireturn (mx_d tX11_network_0 17 rfl) rfl ⟨rfl, rfl⟩
def FX11_fault (a : Nat) (m : mB) : Option Int32 := Option.bind (FX10_faultKind (a + 1) m) (fun r1 => (some r1))
set_option maxRecDepth 20000 in
theorem CX11_fault {G : mG} {l : Launch} {e : mE} {a : Nat} {m : mB} {r : Int32} (h0 : ly11 e a) (h : FX11_fault a m = some r) : mx_Call G l MX11_fault 2 0 0 [.ref a] (e, m) (fun v z => v = some (.int r) ∧ z = (e, m)) := by
  refine mx_entry (L := [.ref a]) (by decide +kernel) (Nat.le_of_ble_eq_true rfl) rfl ?_
  unfold FX11_fault at h
  refine mx_aload_n (mx_d tX11_fault_0 0 rfl) rfl rfl ?_
  refine mx_getR (mx_d tX11_fault_0 1 rfl) fX11_10 rfl rfl (ly11_o h0) (ly11_r0 h0) ?_
  obtain ⟨r1, h_r1, h⟩ := Option.bind_eq_some_iff.mp h
  refine mx_cVi (mx_d tX11_fault_0 2 rfl) iX11_144 rfl vX10_faultKind ⟨_, rfl, rfl⟩ (ly10_o (ly11_s0 h0)) (CX10_faultKind (ly11_s0 h0) h_r1) (by decide) rfl rfl (Nat.le_of_ble_eq_true rfl) ?_
  obtain rfl := Option.some.inj h
  exact mx_ireturn (mx_d tX11_fault_0 3 rfl) rfl ⟨rfl, rfl⟩
def FX11_link (a : Nat) (x0 : Int32) (x1 : Int32) (m : mB) : Option (Int32 × mB) := Option.bind (FX4_hasLink (a + 4) x0 m) (fun r1 => (if r1 = 0 then (some ((-1), m)) else (if x1 = 0 then Option.bind (FX4_fromOf (a + 4) x0 m) (fun r4 => (some (r4, m))) else if x1 = 1 then Option.bind (FX4_toOf (a + 4) x0 m) (fun r6 => (some (r6, m))) else if x1 = 2 then Option.bind (FX4_weightAt (a + 4) x0 m) (fun r8 => (some (r8, m))) else if x1 = 3 then Option.bind (FX4_isPair (a + 4) x0 m) (fun r10 => (if r10 = 0 then (some (0, m)) else (some (1, m)))) else if x1 = 4 then Option.bind (FX2_lookAt (a + 45) (a + 4) m) (fun r13 => Option.bind (FX2_fateOf (a + 45) x0 r13) (fun r14 => (some (r14.1, r14.2)))) else (some ((-1), m)))))
set_option maxRecDepth 20000 in
theorem CX11_link {G : mG} {l : Launch} {e : mE} {a : Nat} {x0 : Int32} {x1 : Int32} {m : mB} {r : (Int32 × mB)} (h0 : ly11 e a) (h : FX11_link a x0 x1 m = some r) : mx_Call G l MX11_link 323 0 0 [.ref a, .int x0, .int x1] (e, m) (fun v z => v = some (.int r.1) ∧ z = (e, r.2)) := by
  refine mx_entry (L := [.ref a, .int x0, .int x1]) (by decide +kernel) (Nat.le_of_ble_eq_true rfl) rfl ?_
  unfold FX11_link at h
  refine mx_aload_n (mx_d tX11_link_0 0 rfl) rfl rfl ?_
  refine mx_getR (mx_d tX11_link_0 1 rfl) fX11_19 rfl rfl (ly11_o h0) (ly11_r1 h0) ?_
  refine mx_iload_n (mx_d tX11_link_0 2 rfl) rfl rfl ?_
  obtain ⟨r1, h_r1, h⟩ := Option.bind_eq_some_iff.mp h
  refine mx_cVi (mx_d tX11_link_0 3 rfl) iX11_170 rfl vX4_hasLink ⟨_, rfl, rfl⟩ (ly4_o (ly11_s1 h0)) (CX4_hasLink (ly11_s1 h0) h_r1) (by decide) rfl rfl (Nat.le_of_ble_eq_true rfl) ?_
  refine mx_if_ne (tgt := 13) (mx_d tX11_link_0 4 rfl) (by decide) (fun hc2 => ?_) (fun hc2 => ?_)
  · rw [if_neg hc2] at h
    refine mx_iload_n (mx_d tX11_link_0 7 rfl) rfl rfl ?_
    by_cases hc3 : x1 = 0
    · rw [if_pos hc3] at h
      refine mx_tableIn (tgt := 48) (mx_d tX11_link_0 8 rfl) (by rw [hc3]; decide) (by rw [hc3]; decide) (by rw [hc3]; rfl) (by decide) ?_
      refine mx_aload_n (mx_d tX11_link_0 9 rfl) rfl rfl ?_
      refine mx_getR (mx_d tX11_link_0 10 rfl) fX11_19 rfl rfl (ly11_o h0) (ly11_r1 h0) ?_
      refine mx_iload_n (mx_d tX11_link_0 11 rfl) rfl rfl ?_
      obtain ⟨r4, h_r4, h⟩ := Option.bind_eq_some_iff.mp h
      refine mx_cVi (mx_d tX11_link_0 12 rfl) iX11_173 rfl vX4_fromOf ⟨_, rfl, rfl⟩ (ly4_o (ly11_s1 h0)) (CX4_fromOf (ly11_s1 h0) h_r4) (by decide) rfl rfl (Nat.le_of_ble_eq_true rfl) ?_
      obtain rfl := Option.some.inj h
      exact mx_ireturn (mx_d tX11_link_0 13 rfl) rfl ⟨rfl, rfl⟩
    · rw [if_neg hc3] at h
      by_cases hc5 : x1 = 1
      · rw [if_pos hc5] at h
        refine mx_tableIn (tgt := 57) (mx_d tX11_link_0 8 rfl) (by rw [hc5]; decide) (by rw [hc5]; decide) (by rw [hc5]; rfl) (by decide) ?_
        refine mx_aload_n (mx_d tX11_link_0 14 rfl) rfl rfl ?_
        refine mx_getR (mx_d tX11_link_0 15 rfl) fX11_19 rfl rfl (ly11_o h0) (ly11_r1 h0) ?_
        refine mx_iload_n (mx_d tX11_link_0 16 rfl) rfl rfl ?_
        obtain ⟨r6, h_r6, h⟩ := Option.bind_eq_some_iff.mp h
        refine mx_cVi (mx_d tX11_link_0 17 rfl) iX11_176 rfl vX4_toOf ⟨_, rfl, rfl⟩ (ly4_o (ly11_s1 h0)) (CX4_toOf (ly11_s1 h0) h_r6) (by decide) rfl rfl (Nat.le_of_ble_eq_true rfl) ?_
        obtain rfl := Option.some.inj h
        exact mx_ireturn (mx_d tX11_link_0 18 rfl) rfl ⟨rfl, rfl⟩
      · rw [if_neg hc5] at h
        by_cases hc7 : x1 = 2
        · rw [if_pos hc7] at h
          refine mx_tableIn (tgt := 66) (mx_d tX11_link_0 8 rfl) (by rw [hc7]; decide) (by rw [hc7]; decide) (by rw [hc7]; rfl) (by decide) ?_
          refine mx_aload_n (mx_d tX11_link_0 19 rfl) rfl rfl ?_
          refine mx_getR (mx_d tX11_link_0 20 rfl) fX11_19 rfl rfl (ly11_o h0) (ly11_r1 h0) ?_
          refine mx_iload_n (mx_d tX11_link_0 21 rfl) rfl rfl ?_
          obtain ⟨r8, h_r8, h⟩ := Option.bind_eq_some_iff.mp h
          refine mx_cVi (mx_d tX11_link_0 22 rfl) iX11_179 rfl vX4_weightAt ⟨_, rfl, rfl⟩ (ly4_o (ly11_s1 h0)) (CX4_weightAt (ly11_s1 h0) h_r8) (by decide) rfl rfl (Nat.le_of_ble_eq_true rfl) ?_
          obtain rfl := Option.some.inj h
          exact mx_ireturn (mx_d tX11_link_0 23 rfl) rfl ⟨rfl, rfl⟩
        · rw [if_neg hc7] at h
          by_cases hc9 : x1 = 3
          · rw [if_pos hc9] at h
            refine mx_tableIn (tgt := 75) (mx_d tX11_link_0 8 rfl) (by rw [hc9]; decide) (by rw [hc9]; decide) (by rw [hc9]; rfl) (by decide) ?_
            refine mx_aload_n (mx_d tX11_link_0 24 rfl) rfl rfl ?_
            refine mx_getR (mx_d tX11_link_0 25 rfl) fX11_19 rfl rfl (ly11_o h0) (ly11_r1 h0) ?_
            refine mx_iload_n (mx_d tX11_link_0 26 rfl) rfl rfl ?_
            obtain ⟨r10, h_r10, h⟩ := Option.bind_eq_some_iff.mp h
            refine mx_cVi (mx_d tX11_link_0 27 rfl) iX11_182 rfl vX4_isPair ⟨_, rfl, rfl⟩ (ly4_o (ly11_s1 h0)) (CX4_isPair (ly11_s1 h0) h_r10) (by decide) rfl rfl (Nat.le_of_ble_eq_true rfl) ?_
            refine mx_if_eq (tgt := 90) (mx_d tX11_link_0 28 rfl) (by decide) (fun hc11 => ?_) (fun hc11 => ?_)
            · rw [if_pos hc11] at h
              refine mx_iconst (0) (mx_d tX11_link_0 31 rfl) (by decide) ?_
              obtain rfl := Option.some.inj h
              exact mx_ireturn (mx_d tX11_link_0 32 rfl) rfl ⟨rfl, rfl⟩
            · rw [if_neg hc11] at h
              refine mx_iconst (1) (mx_d tX11_link_0 29 rfl) (by decide) ?_
              refine mx_goto (tgt := 91) (mx_d tX11_link_0 30 rfl) (by decide) ?_
              obtain rfl := Option.some.inj h
              exact mx_ireturn (mx_d tX11_link_0 32 rfl) rfl ⟨rfl, rfl⟩
          · rw [if_neg hc9] at h
            by_cases hc12 : x1 = 4
            · rw [if_pos hc12] at h
              refine mx_tableIn (tgt := 92) (mx_d tX11_link_0 8 rfl) (by rw [hc12]; decide) (by rw [hc12]; decide) (by rw [hc12]; rfl) (by decide) ?_
              refine mx_aload_n (mx_d tX11_link_0 33 rfl) rfl rfl ?_
              refine mx_getR (mx_d tX11_link_0 34 rfl) fX11_55 rfl rfl (ly11_o h0) (ly11_r7 h0) ?_
              refine mx_aload_n (mx_d tX11_link_0 35 rfl) rfl rfl ?_
              refine mx_getR (mx_d tX11_link_0 36 rfl) fX11_19 rfl rfl (ly11_o h0) (ly11_r1 h0) ?_
              obtain ⟨r13, h_r13, h⟩ := Option.bind_eq_some_iff.mp h
              refine mx_cVv (mx_d tX11_link_0 37 rfl) iX11_185 rfl vX2_lookAt ⟨_, rfl, rfl⟩ (ly2_o (ly11_s7 h0)) (CX2_lookAt (ly11_s7 h0) (ly11_s1 h0) h_r13) (by decide) rfl rfl (Nat.le_of_ble_eq_true rfl) ?_
              refine mx_aload_n (mx_d tX11_link_0 38 rfl) rfl rfl ?_
              refine mx_getR (mx_d tX11_link_0 39 rfl) fX11_55 rfl rfl (ly11_o h0) (ly11_r7 h0) ?_
              refine mx_iload_n (mx_d tX11_link_0 40 rfl) rfl rfl ?_
              obtain ⟨r14, h_r14, h⟩ := Option.bind_eq_some_iff.mp h
              refine mx_cVi (mx_d tX11_link_0 41 rfl) iX11_188 rfl vX2_fateOf ⟨_, rfl, rfl⟩ (ly2_o (ly11_s7 h0)) (CX2_fateOf (ly11_s7 h0) h_r14) (by decide) rfl rfl (Nat.le_of_ble_eq_true rfl) ?_
              obtain rfl := Option.some.inj h
              exact mx_ireturn (mx_d tX11_link_0 42 rfl) rfl ⟨rfl, rfl⟩
            · rw [if_neg hc12] at h
              have z_hc3 := lv_neT hc3 (a := 0) (by decide)
              have z_hc5 := lv_neT hc5 (a := 1) (by decide)
              have z_hc7 := lv_neT hc7 (a := 2) (by decide)
              have z_hc9 := lv_neT hc9 (a := 3) (by decide)
              have z_hc12 := lv_neT hc12 (a := 4) (by decide)
              refine mx_tableOut (tgt := 112) (mx_d tX11_link_0 8 rfl) (by omega) (by decide) ?_
              refine mx_iconst ((-1)) (mx_d tX11_link_0 43 rfl) (by decide) ?_
              obtain rfl := Option.some.inj h
              exact mx_ireturn (mx_d tX11_link_0 44 rfl) rfl ⟨rfl, rfl⟩
  · rw [if_pos hc2] at h
    refine mx_iconst ((-1)) (mx_d tX11_link_0 5 rfl) (by decide) ?_
    obtain rfl := Option.some.inj h
    exact mx_ireturn (mx_d tX11_link_0 6 rfl) rfl ⟨rfl, rfl⟩
def FX11_odd (a : Nat) (x0 : Int32) (x1 : Int32) (m : mB) : Option Int32 := Option.bind (FX4_hasSet (a + 4) x0 m) (fun r1 => (if r1 = 0 then (some (-1)) else (if x1 = 0 then Option.bind (FX4_membersOf (a + 4) x0 m) (fun r4 => (some r4)) else if x1 = 1 then Option.bind (FX4_crownOf (a + 4) x0 m) (fun r6 => (some r6)) else if x1 = 2 then Option.bind (FX4_pairsWithin (a + 4) x0 m) (fun r8 => (some r8)) else (some (-1)))))
set_option maxRecDepth 20000 in
theorem CX11_odd {G : mG} {l : Launch} {e : mE} {a : Nat} {x0 : Int32} {x1 : Int32} {m : mB} {r : Int32} (h0 : ly11 e a) (h : FX11_odd a x0 x1 m = some r) : mx_Call G l MX11_odd 5 0 0 [.ref a, .int x0, .int x1] (e, m) (fun v z => v = some (.int r) ∧ z = (e, m)) := by
  refine mx_entry (L := [.ref a, .int x0, .int x1]) (by decide +kernel) (Nat.le_of_ble_eq_true rfl) rfl ?_
  unfold FX11_odd at h
  refine mx_aload_n (mx_d tX11_odd_0 0 rfl) rfl rfl ?_
  refine mx_getR (mx_d tX11_odd_0 1 rfl) fX11_19 rfl rfl (ly11_o h0) (ly11_r1 h0) ?_
  refine mx_iload_n (mx_d tX11_odd_0 2 rfl) rfl rfl ?_
  obtain ⟨r1, h_r1, h⟩ := Option.bind_eq_some_iff.mp h
  refine mx_cVi (mx_d tX11_odd_0 3 rfl) iX11_194 rfl vX4_hasSet ⟨_, rfl, rfl⟩ (ly4_o (ly11_s1 h0)) (CX4_hasSet (ly11_s1 h0) h_r1) (by decide) rfl rfl (Nat.le_of_ble_eq_true rfl) ?_
  refine mx_if_ne (tgt := 13) (mx_d tX11_odd_0 4 rfl) (by decide) (fun hc2 => ?_) (fun hc2 => ?_)
  · rw [if_neg hc2] at h
    refine mx_iload_n (mx_d tX11_odd_0 7 rfl) rfl rfl ?_
    by_cases hc3 : x1 = 0
    · rw [if_pos hc3] at h
      refine mx_tableIn (tgt := 40) (mx_d tX11_odd_0 8 rfl) (by rw [hc3]; decide) (by rw [hc3]; decide) (by rw [hc3]; rfl) (by decide) ?_
      refine mx_aload_n (mx_d tX11_odd_0 9 rfl) rfl rfl ?_
      refine mx_getR (mx_d tX11_odd_0 10 rfl) fX11_19 rfl rfl (ly11_o h0) (ly11_r1 h0) ?_
      refine mx_iload_n (mx_d tX11_odd_0 11 rfl) rfl rfl ?_
      obtain ⟨r4, h_r4, h⟩ := Option.bind_eq_some_iff.mp h
      refine mx_cVi (mx_d tX11_odd_0 12 rfl) iX11_197 rfl vX4_membersOf ⟨_, rfl, rfl⟩ (ly4_o (ly11_s1 h0)) (CX4_membersOf (ly11_s1 h0) h_r4) (by decide) rfl rfl (Nat.le_of_ble_eq_true rfl) ?_
      obtain rfl := Option.some.inj h
      exact mx_ireturn (mx_d tX11_odd_0 13 rfl) rfl ⟨rfl, rfl⟩
    · rw [if_neg hc3] at h
      by_cases hc5 : x1 = 1
      · rw [if_pos hc5] at h
        refine mx_tableIn (tgt := 49) (mx_d tX11_odd_0 8 rfl) (by rw [hc5]; decide) (by rw [hc5]; decide) (by rw [hc5]; rfl) (by decide) ?_
        refine mx_aload_n (mx_d tX11_odd_0 14 rfl) rfl rfl ?_
        refine mx_getR (mx_d tX11_odd_0 15 rfl) fX11_19 rfl rfl (ly11_o h0) (ly11_r1 h0) ?_
        refine mx_iload_n (mx_d tX11_odd_0 16 rfl) rfl rfl ?_
        obtain ⟨r6, h_r6, h⟩ := Option.bind_eq_some_iff.mp h
        refine mx_cVi (mx_d tX11_odd_0 17 rfl) iX11_200 rfl vX4_crownOf ⟨_, rfl, rfl⟩ (ly4_o (ly11_s1 h0)) (CX4_crownOf (ly11_s1 h0) h_r6) (by decide) rfl rfl (Nat.le_of_ble_eq_true rfl) ?_
        obtain rfl := Option.some.inj h
        exact mx_ireturn (mx_d tX11_odd_0 18 rfl) rfl ⟨rfl, rfl⟩
      · rw [if_neg hc5] at h
        by_cases hc7 : x1 = 2
        · rw [if_pos hc7] at h
          refine mx_tableIn (tgt := 58) (mx_d tX11_odd_0 8 rfl) (by rw [hc7]; decide) (by rw [hc7]; decide) (by rw [hc7]; rfl) (by decide) ?_
          refine mx_aload_n (mx_d tX11_odd_0 19 rfl) rfl rfl ?_
          refine mx_getR (mx_d tX11_odd_0 20 rfl) fX11_19 rfl rfl (ly11_o h0) (ly11_r1 h0) ?_
          refine mx_iload_n (mx_d tX11_odd_0 21 rfl) rfl rfl ?_
          obtain ⟨r8, h_r8, h⟩ := Option.bind_eq_some_iff.mp h
          refine mx_cVi (mx_d tX11_odd_0 22 rfl) iX11_203 rfl vX4_pairsWithin ⟨_, rfl, rfl⟩ (ly4_o (ly11_s1 h0)) (CX4_pairsWithin (ly11_s1 h0) h_r8) (by decide) rfl rfl (Nat.le_of_ble_eq_true rfl) ?_
          obtain rfl := Option.some.inj h
          exact mx_ireturn (mx_d tX11_odd_0 23 rfl) rfl ⟨rfl, rfl⟩
        · rw [if_neg hc7] at h
          have z_hc3 := lv_neT hc3 (a := 0) (by decide)
          have z_hc5 := lv_neT hc5 (a := 1) (by decide)
          have z_hc7 := lv_neT hc7 (a := 2) (by decide)
          refine mx_tableOut (tgt := 67) (mx_d tX11_odd_0 8 rfl) (by omega) (by decide) ?_
          refine mx_iconst ((-1)) (mx_d tX11_odd_0 24 rfl) (by decide) ?_
          obtain rfl := Option.some.inj h
          exact mx_ireturn (mx_d tX11_odd_0 25 rfl) rfl ⟨rfl, rfl⟩
  · rw [if_pos hc2] at h
    refine mx_iconst ((-1)) (mx_d tX11_odd_0 5 rfl) (by decide) ?_
    obtain rfl := Option.some.inj h
    exact mx_ireturn (mx_d tX11_odd_0 6 rfl) rfl ⟨rfl, rfl⟩
def FX11_now (a : Nat) (x0 : Int32) (m : mB) : Option Int32 := (if x0 = 0 then Option.bind (FX4_total (a + 4) m) (fun r2 => (some r2)) else if x0 = 1 then Option.bind (FX4_pairs (a + 4) m) (fun r4 => (some r4)) else if x0 = 2 then Option.bind (FX4_lonePoints (a + 4) m) (fun r6 => (some r6)) else if x0 = 3 then Option.bind (FX4_tightLinks (a + 4) m) (fun r8 => (some r8)) else if x0 = 4 then Option.bind (FX4_bound (a + 4) m) (fun r10 => (some r10)) else if x0 = 5 then Option.bind (FX4_turned (a + 4) m) (fun r12 => (some r12)) else if x0 = 6 then Option.bind (FX4_shrunk (a + 4) m) (fun r14 => (some r14)) else (some (-1)))
set_option maxRecDepth 20000 in
theorem CX11_now {G : mG} {l : Launch} {e : mE} {a : Nat} {x0 : Int32} {m : mB} {r : Int32} (h0 : ly11 e a) (h : FX11_now a x0 m = some r) : mx_Call G l MX11_now 5 0 0 [.ref a, .int x0] (e, m) (fun v z => v = some (.int r) ∧ z = (e, m)) := by
  refine mx_entry (L := [.ref a, .int x0]) (by decide +kernel) (Nat.le_of_ble_eq_true rfl) rfl ?_
  unfold FX11_now at h
  refine mx_iload_n (mx_d tX11_now_0 0 rfl) rfl rfl ?_
  by_cases hc1 : x0 = 0
  · rw [if_pos hc1] at h
    refine mx_tableIn (tgt := 44) (mx_d tX11_now_0 1 rfl) (by rw [hc1]; decide) (by rw [hc1]; decide) (by rw [hc1]; rfl) (by decide) ?_
    refine mx_aload_n (mx_d tX11_now_0 2 rfl) rfl rfl ?_
    refine mx_getR (mx_d tX11_now_0 3 rfl) fX11_19 rfl rfl (ly11_o h0) (ly11_r1 h0) ?_
    obtain ⟨r2, h_r2, h⟩ := Option.bind_eq_some_iff.mp h
    refine mx_cVi (mx_d tX11_now_0 4 rfl) iX11_206 rfl vX4_total ⟨_, rfl, rfl⟩ (ly4_o (ly11_s1 h0)) (CX4_total (ly11_s1 h0) h_r2) (by decide) rfl rfl (Nat.le_of_ble_eq_true rfl) ?_
    obtain rfl := Option.some.inj h
    exact mx_ireturn (mx_d tX11_now_0 5 rfl) rfl ⟨rfl, rfl⟩
  · rw [if_neg hc1] at h
    by_cases hc3 : x0 = 1
    · rw [if_pos hc3] at h
      refine mx_tableIn (tgt := 52) (mx_d tX11_now_0 1 rfl) (by rw [hc3]; decide) (by rw [hc3]; decide) (by rw [hc3]; rfl) (by decide) ?_
      refine mx_aload_n (mx_d tX11_now_0 6 rfl) rfl rfl ?_
      refine mx_getR (mx_d tX11_now_0 7 rfl) fX11_19 rfl rfl (ly11_o h0) (ly11_r1 h0) ?_
      obtain ⟨r4, h_r4, h⟩ := Option.bind_eq_some_iff.mp h
      refine mx_cVi (mx_d tX11_now_0 8 rfl) iX11_209 rfl vX4_pairs ⟨_, rfl, rfl⟩ (ly4_o (ly11_s1 h0)) (CX4_pairs (ly11_s1 h0) h_r4) (by decide) rfl rfl (Nat.le_of_ble_eq_true rfl) ?_
      obtain rfl := Option.some.inj h
      exact mx_ireturn (mx_d tX11_now_0 9 rfl) rfl ⟨rfl, rfl⟩
    · rw [if_neg hc3] at h
      by_cases hc5 : x0 = 2
      · rw [if_pos hc5] at h
        refine mx_tableIn (tgt := 60) (mx_d tX11_now_0 1 rfl) (by rw [hc5]; decide) (by rw [hc5]; decide) (by rw [hc5]; rfl) (by decide) ?_
        refine mx_aload_n (mx_d tX11_now_0 10 rfl) rfl rfl ?_
        refine mx_getR (mx_d tX11_now_0 11 rfl) fX11_19 rfl rfl (ly11_o h0) (ly11_r1 h0) ?_
        obtain ⟨r6, h_r6, h⟩ := Option.bind_eq_some_iff.mp h
        refine mx_cVi (mx_d tX11_now_0 12 rfl) iX11_212 rfl vX4_lonePoints ⟨_, rfl, rfl⟩ (ly4_o (ly11_s1 h0)) (CX4_lonePoints (ly11_s1 h0) h_r6) (by decide) rfl rfl (Nat.le_of_ble_eq_true rfl) ?_
        obtain rfl := Option.some.inj h
        exact mx_ireturn (mx_d tX11_now_0 13 rfl) rfl ⟨rfl, rfl⟩
      · rw [if_neg hc5] at h
        by_cases hc7 : x0 = 3
        · rw [if_pos hc7] at h
          refine mx_tableIn (tgt := 68) (mx_d tX11_now_0 1 rfl) (by rw [hc7]; decide) (by rw [hc7]; decide) (by rw [hc7]; rfl) (by decide) ?_
          refine mx_aload_n (mx_d tX11_now_0 14 rfl) rfl rfl ?_
          refine mx_getR (mx_d tX11_now_0 15 rfl) fX11_19 rfl rfl (ly11_o h0) (ly11_r1 h0) ?_
          obtain ⟨r8, h_r8, h⟩ := Option.bind_eq_some_iff.mp h
          refine mx_cVi (mx_d tX11_now_0 16 rfl) iX11_215 rfl vX4_tightLinks ⟨_, rfl, rfl⟩ (ly4_o (ly11_s1 h0)) (CX4_tightLinks (ly11_s1 h0) h_r8) (by decide) rfl rfl (Nat.le_of_ble_eq_true rfl) ?_
          obtain rfl := Option.some.inj h
          exact mx_ireturn (mx_d tX11_now_0 17 rfl) rfl ⟨rfl, rfl⟩
        · rw [if_neg hc7] at h
          by_cases hc9 : x0 = 4
          · rw [if_pos hc9] at h
            refine mx_tableIn (tgt := 76) (mx_d tX11_now_0 1 rfl) (by rw [hc9]; decide) (by rw [hc9]; decide) (by rw [hc9]; rfl) (by decide) ?_
            refine mx_aload_n (mx_d tX11_now_0 18 rfl) rfl rfl ?_
            refine mx_getR (mx_d tX11_now_0 19 rfl) fX11_19 rfl rfl (ly11_o h0) (ly11_r1 h0) ?_
            obtain ⟨r10, h_r10, h⟩ := Option.bind_eq_some_iff.mp h
            refine mx_cVi (mx_d tX11_now_0 20 rfl) iX11_218 rfl vX4_bound ⟨_, rfl, rfl⟩ (ly4_o (ly11_s1 h0)) (CX4_bound (ly11_s1 h0) h_r10) (by decide) rfl rfl (Nat.le_of_ble_eq_true rfl) ?_
            obtain rfl := Option.some.inj h
            exact mx_ireturn (mx_d tX11_now_0 21 rfl) rfl ⟨rfl, rfl⟩
          · rw [if_neg hc9] at h
            by_cases hc11 : x0 = 5
            · rw [if_pos hc11] at h
              refine mx_tableIn (tgt := 84) (mx_d tX11_now_0 1 rfl) (by rw [hc11]; decide) (by rw [hc11]; decide) (by rw [hc11]; rfl) (by decide) ?_
              refine mx_aload_n (mx_d tX11_now_0 22 rfl) rfl rfl ?_
              refine mx_getR (mx_d tX11_now_0 23 rfl) fX11_19 rfl rfl (ly11_o h0) (ly11_r1 h0) ?_
              obtain ⟨r12, h_r12, h⟩ := Option.bind_eq_some_iff.mp h
              refine mx_cVi (mx_d tX11_now_0 24 rfl) iX11_221 rfl vX4_turned ⟨_, rfl, rfl⟩ (ly4_o (ly11_s1 h0)) (CX4_turned (ly11_s1 h0) h_r12) (by decide) rfl rfl (Nat.le_of_ble_eq_true rfl) ?_
              obtain rfl := Option.some.inj h
              exact mx_ireturn (mx_d tX11_now_0 25 rfl) rfl ⟨rfl, rfl⟩
            · rw [if_neg hc11] at h
              by_cases hc13 : x0 = 6
              · rw [if_pos hc13] at h
                refine mx_tableIn (tgt := 92) (mx_d tX11_now_0 1 rfl) (by rw [hc13]; decide) (by rw [hc13]; decide) (by rw [hc13]; rfl) (by decide) ?_
                refine mx_aload_n (mx_d tX11_now_0 26 rfl) rfl rfl ?_
                refine mx_getR (mx_d tX11_now_0 27 rfl) fX11_19 rfl rfl (ly11_o h0) (ly11_r1 h0) ?_
                obtain ⟨r14, h_r14, h⟩ := Option.bind_eq_some_iff.mp h
                refine mx_cVi (mx_d tX11_now_0 28 rfl) iX11_224 rfl vX4_shrunk ⟨_, rfl, rfl⟩ (ly4_o (ly11_s1 h0)) (CX4_shrunk (ly11_s1 h0) h_r14) (by decide) rfl rfl (Nat.le_of_ble_eq_true rfl) ?_
                obtain rfl := Option.some.inj h
                exact mx_ireturn (mx_d tX11_now_0 29 rfl) rfl ⟨rfl, rfl⟩
              · rw [if_neg hc13] at h
                have z_hc1 := lv_neT hc1 (a := 0) (by decide)
                have z_hc3 := lv_neT hc3 (a := 1) (by decide)
                have z_hc5 := lv_neT hc5 (a := 2) (by decide)
                have z_hc7 := lv_neT hc7 (a := 3) (by decide)
                have z_hc9 := lv_neT hc9 (a := 4) (by decide)
                have z_hc11 := lv_neT hc11 (a := 5) (by decide)
                have z_hc13 := lv_neT hc13 (a := 6) (by decide)
                refine mx_tableOut (tgt := 100) (mx_d tX11_now_0 1 rfl) (by omega) (by decide) ?_
                refine mx_iconst ((-1)) (mx_d tX11_now_0 30 rfl) (by decide) ?_
                obtain rfl := Option.some.inj h
                exact mx_ireturn (mx_d tX11_now_0 31 rfl) rfl ⟨rfl, rfl⟩
def FX11_areTwo (a : Nat) (x0 : Int32) (x1 : Int32) (m : mB) : Option Int32 := Option.bind (FX4_hasPoint (a + 4) x0 m) (fun r1 => (if r1 = 0 then (some 0) else Option.bind (FX4_hasPoint (a + 4) x1 m) (fun r3 => (if r3 = 0 then (some 0) else (if x0 = x1 then (some 0) else (some 1))))))
set_option maxRecDepth 20000 in
theorem CX11_areTwo {G : mG} {l : Launch} {e : mE} {a : Nat} {x0 : Int32} {x1 : Int32} {m : mB} {r : Int32} (h0 : ly11 e a) (h : FX11_areTwo a x0 x1 m = some r) : mx_Call G l MX11_areTwo 2 0 0 [.ref a, .int x0, .int x1] (e, m) (fun v z => v = some (.int r) ∧ z = (e, m)) := by
  refine mx_entry (L := [.ref a, .int x0, .int x1]) (by decide +kernel) (Nat.le_of_ble_eq_true rfl) rfl ?_
  unfold FX11_areTwo at h
  refine mx_aload_n (mx_d tX11_areTwo_0 0 rfl) rfl rfl ?_
  refine mx_getR (mx_d tX11_areTwo_0 1 rfl) fX11_19 rfl rfl (ly11_o h0) (ly11_r1 h0) ?_
  refine mx_iload_n (mx_d tX11_areTwo_0 2 rfl) rfl rfl ?_
  obtain ⟨r1, h_r1, h⟩ := Option.bind_eq_some_iff.mp h
  refine mx_cVi (mx_d tX11_areTwo_0 3 rfl) iX11_147 rfl vX4_hasPoint ⟨_, rfl, rfl⟩ (ly4_o (ly11_s1 h0)) (CX4_hasPoint (ly11_s1 h0) h_r1) (by decide) rfl rfl (Nat.le_of_ble_eq_true rfl) ?_
  refine mx_if_eq (tgt := 31) (mx_d tX11_areTwo_0 4 rfl) (by decide) (fun hc2 => ?_) (fun hc2 => ?_)
  · rw [if_pos hc2] at h
    refine mx_iconst (0) (mx_d tX11_areTwo_0 15 rfl) (by decide) ?_
    obtain rfl := Option.some.inj h
    exact mx_zreturn (mx_d tX11_areTwo_0 16 rfl) rfl rfl ⟨rfl, rfl⟩
  · rw [if_neg hc2] at h
    refine mx_aload_n (mx_d tX11_areTwo_0 5 rfl) rfl rfl ?_
    refine mx_getR (mx_d tX11_areTwo_0 6 rfl) fX11_19 rfl rfl (ly11_o h0) (ly11_r1 h0) ?_
    refine mx_iload_n (mx_d tX11_areTwo_0 7 rfl) rfl rfl ?_
    obtain ⟨r3, h_r3, h⟩ := Option.bind_eq_some_iff.mp h
    refine mx_cVi (mx_d tX11_areTwo_0 8 rfl) iX11_147 rfl vX4_hasPoint ⟨_, rfl, rfl⟩ (ly4_o (ly11_s1 h0)) (CX4_hasPoint (ly11_s1 h0) h_r3) (by decide) rfl rfl (Nat.le_of_ble_eq_true rfl) ?_
    refine mx_if_eq (tgt := 31) (mx_d tX11_areTwo_0 9 rfl) (by decide) (fun hc4 => ?_) (fun hc4 => ?_)
    · rw [if_pos hc4] at h
      refine mx_iconst (0) (mx_d tX11_areTwo_0 15 rfl) (by decide) ?_
      obtain rfl := Option.some.inj h
      exact mx_zreturn (mx_d tX11_areTwo_0 16 rfl) rfl rfl ⟨rfl, rfl⟩
    · rw [if_neg hc4] at h
      refine mx_iload_n (mx_d tX11_areTwo_0 10 rfl) rfl rfl ?_
      refine mx_iload_n (mx_d tX11_areTwo_0 11 rfl) rfl rfl ?_
      refine mx_icmp_eq (tgt := 31) (mx_d tX11_areTwo_0 12 rfl) (by decide) (fun hc5 => ?_) (fun hc5 => ?_)
      · rw [if_pos hc5] at h
        refine mx_iconst (0) (mx_d tX11_areTwo_0 15 rfl) (by decide) ?_
        obtain rfl := Option.some.inj h
        exact mx_zreturn (mx_d tX11_areTwo_0 16 rfl) rfl rfl ⟨rfl, rfl⟩
      · rw [if_neg hc5] at h
        refine mx_iconst (1) (mx_d tX11_areTwo_0 13 rfl) (by decide) ?_
        refine mx_goto (tgt := 32) (mx_d tX11_areTwo_0 14 rfl) (by decide) ?_
        obtain rfl := Option.some.inj h
        exact mx_zreturn (mx_d tX11_areTwo_0 16 rfl) rfl rfl ⟨rfl, rfl⟩
def FX11_keepIfDone (a : Nat) (x0 : Int32) (m : mB) : Option (Int32 × mB) := (if x0 = 0 then Option.bind (FX3_keep (a + 68) m) (fun r2 => (some (x0, r2))) else (some (x0, m)))
set_option maxRecDepth 20000 in
theorem CX11_keepIfDone {G : mG} {l : Launch} {e : mE} {a : Nat} {x0 : Int32} {m : mB} {r : (Int32 × mB)} (h0 : ly11 e a) (h : FX11_keepIfDone a x0 m = some r) : mx_Call G l MX11_keepIfDone 3 0 0 [.ref a, .int x0] (e, m) (fun v z => v = some (.int r.1) ∧ z = (e, r.2)) := by
  refine mx_entry (L := [.ref a, .int x0]) (by decide +kernel) (Nat.le_of_ble_eq_true rfl) rfl ?_
  unfold FX11_keepIfDone at h
  refine mx_iload_n (mx_d tX11_keepIfDone_0 0 rfl) rfl rfl ?_
  refine mx_if_ne (tgt := 11) (mx_d tX11_keepIfDone_0 1 rfl) (by decide) (fun hc1 => ?_) (fun hc1 => ?_)
  · rw [if_neg hc1] at h
    refine mx_iload_n (mx_d tX11_keepIfDone_0 5 rfl) rfl rfl ?_
    obtain rfl := Option.some.inj h
    exact mx_ireturn (mx_d tX11_keepIfDone_0 6 rfl) rfl ⟨rfl, rfl⟩
  · rw [if_pos hc1] at h
    refine mx_aload_n (mx_d tX11_keepIfDone_0 2 rfl) rfl rfl ?_
    refine mx_getR (mx_d tX11_keepIfDone_0 3 rfl) fX11_65 rfl rfl (ly11_o h0) (ly11_r9 h0) ?_
    obtain ⟨r2, h_r2, h⟩ := Option.bind_eq_some_iff.mp h
    refine mx_cVv (mx_d tX11_keepIfDone_0 4 rfl) iX11_387 rfl vX3_keep ⟨_, rfl, rfl⟩ (ly3_o (ly11_s9 h0)) (CX3_keep (ly11_s9 h0) h_r2) (by decide) rfl rfl (Nat.le_of_ble_eq_true rfl) ?_
    refine mx_iload_n (mx_d tX11_keepIfDone_0 5 rfl) rfl rfl ?_
    obtain rfl := Option.some.inj h
    exact mx_ireturn (mx_d tX11_keepIfDone_0 6 rfl) rfl ⟨rfl, rfl⟩
def FX11_pair (a : Nat) (x0 : Int32) (x1 : Int32) (m : mB) : Option (Int32 × mB) := Option.bind (FX11_areTwo a x0 x1 m) (fun r1 => (if r1 = 0 then (some ((-1), m)) else Option.bind (FX3_mark (a + 68) (a + 4) m) (fun r3 => Option.bind (FX4_pairUp (a + 4) x0 x1 r3) (fun r4 => Option.bind (FX11_keepIfDone a r4.1 r4.2) (fun r5 => (some (r5.1, r5.2)))))))
set_option maxRecDepth 20000 in
theorem CX11_pair {G : mG} {l : Launch} {e : mE} {a : Nat} {x0 : Int32} {x1 : Int32} {m : mB} {r : (Int32 × mB)} (h0 : ly11 e a) (h : FX11_pair a x0 x1 m = some r) : mx_Call G l MX11_pair 4 0 0 [.ref a, .int x0, .int x1] (e, m) (fun v z => v = some (.int r.1) ∧ z = (e, r.2)) := by
  refine mx_entry (L := [.ref a, .int x0, .int x1]) (by decide +kernel) (Nat.le_of_ble_eq_true rfl) rfl ?_
  unfold FX11_pair at h
  refine mx_aload_n (mx_d tX11_pair_0 0 rfl) rfl rfl ?_
  refine mx_iload_n (mx_d tX11_pair_0 1 rfl) rfl rfl ?_
  refine mx_iload_n (mx_d tX11_pair_0 2 rfl) rfl rfl ?_
  obtain ⟨r1, h_r1, h⟩ := Option.bind_eq_some_iff.mp h
  refine mx_cVi (mx_d tX11_pair_0 3 rfl) iX11_227 rfl vX11_areTwo ⟨_, rfl, rfl⟩ (ly11_o h0) (CX11_areTwo h0 h_r1) (by decide) rfl rfl (Nat.le_of_ble_eq_true rfl) ?_
  refine mx_if_ne (tgt := 11) (mx_d tX11_pair_0 4 rfl) (by decide) (fun hc2 => ?_) (fun hc2 => ?_)
  · rw [if_neg hc2] at h
    refine mx_aload_n (mx_d tX11_pair_0 7 rfl) rfl rfl ?_
    refine mx_getR (mx_d tX11_pair_0 8 rfl) fX11_65 rfl rfl (ly11_o h0) (ly11_r9 h0) ?_
    refine mx_aload_n (mx_d tX11_pair_0 9 rfl) rfl rfl ?_
    refine mx_getR (mx_d tX11_pair_0 10 rfl) fX11_19 rfl rfl (ly11_o h0) (ly11_r1 h0) ?_
    obtain ⟨r3, h_r3, h⟩ := Option.bind_eq_some_iff.mp h
    refine mx_cVv (mx_d tX11_pair_0 11 rfl) iX11_231 rfl vX3_mark ⟨_, rfl, rfl⟩ (ly3_o (ly11_s9 h0)) (CX3_mark (ly11_s9 h0) (ly11_s1 h0) h_r3) (by decide) rfl rfl (Nat.le_of_ble_eq_true rfl) ?_
    refine mx_aload_n (mx_d tX11_pair_0 12 rfl) rfl rfl ?_
    refine mx_aload_n (mx_d tX11_pair_0 13 rfl) rfl rfl ?_
    refine mx_getR (mx_d tX11_pair_0 14 rfl) fX11_19 rfl rfl (ly11_o h0) (ly11_r1 h0) ?_
    refine mx_iload_n (mx_d tX11_pair_0 15 rfl) rfl rfl ?_
    refine mx_iload_n (mx_d tX11_pair_0 16 rfl) rfl rfl ?_
    obtain ⟨r4, h_r4, h⟩ := Option.bind_eq_some_iff.mp h
    refine mx_cVi (mx_d tX11_pair_0 17 rfl) iX11_234 rfl vX4_pairUp ⟨_, rfl, rfl⟩ (ly4_o (ly11_s1 h0)) (CX4_pairUp (ly11_s1 h0) h_r4) (by decide) rfl rfl (Nat.le_of_ble_eq_true rfl) ?_
    obtain ⟨r5, h_r5, h⟩ := Option.bind_eq_some_iff.mp h
    refine mx_cVi (mx_d tX11_pair_0 18 rfl) iX11_238 rfl vX11_keepIfDone ⟨_, rfl, rfl⟩ (ly11_o h0) (CX11_keepIfDone h0 h_r5) (by decide) rfl rfl (Nat.le_of_ble_eq_true rfl) ?_
    obtain rfl := Option.some.inj h
    exact mx_ireturn (mx_d tX11_pair_0 19 rfl) rfl ⟨rfl, rfl⟩
  · rw [if_pos hc2] at h
    refine mx_iconst ((-1)) (mx_d tX11_pair_0 5 rfl) (by decide) ?_
    obtain rfl := Option.some.inj h
    exact mx_ireturn (mx_d tX11_pair_0 6 rfl) rfl ⟨rfl, rfl⟩
def FX11_part (a : Nat) (x0 : Int32) (m : mB) : Option (Int32 × mB) := Option.bind (FX4_hasPoint (a + 4) x0 m) (fun r1 => (if r1 = 0 then (some ((-1), m)) else Option.bind (FX3_mark (a + 68) (a + 4) m) (fun r3 => Option.bind (FX4_partFrom (a + 4) x0 r3) (fun r4 => Option.bind (FX11_keepIfDone a r4.1 r4.2) (fun r5 => (some (r5.1, r5.2)))))))
set_option maxRecDepth 20000 in
theorem CX11_part {G : mG} {l : Launch} {e : mE} {a : Nat} {x0 : Int32} {m : mB} {r : (Int32 × mB)} (h0 : ly11 e a) (h : FX11_part a x0 m = some r) : mx_Call G l MX11_part 4 0 0 [.ref a, .int x0] (e, m) (fun v z => v = some (.int r.1) ∧ z = (e, r.2)) := by
  refine mx_entry (L := [.ref a, .int x0]) (by decide +kernel) (Nat.le_of_ble_eq_true rfl) rfl ?_
  unfold FX11_part at h
  refine mx_aload_n (mx_d tX11_part_0 0 rfl) rfl rfl ?_
  refine mx_getR (mx_d tX11_part_0 1 rfl) fX11_19 rfl rfl (ly11_o h0) (ly11_r1 h0) ?_
  refine mx_iload_n (mx_d tX11_part_0 2 rfl) rfl rfl ?_
  obtain ⟨r1, h_r1, h⟩ := Option.bind_eq_some_iff.mp h
  refine mx_cVi (mx_d tX11_part_0 3 rfl) iX11_147 rfl vX4_hasPoint ⟨_, rfl, rfl⟩ (ly4_o (ly11_s1 h0)) (CX4_hasPoint (ly11_s1 h0) h_r1) (by decide) rfl rfl (Nat.le_of_ble_eq_true rfl) ?_
  refine mx_if_ne (tgt := 13) (mx_d tX11_part_0 4 rfl) (by decide) (fun hc2 => ?_) (fun hc2 => ?_)
  · rw [if_neg hc2] at h
    refine mx_aload_n (mx_d tX11_part_0 7 rfl) rfl rfl ?_
    refine mx_getR (mx_d tX11_part_0 8 rfl) fX11_65 rfl rfl (ly11_o h0) (ly11_r9 h0) ?_
    refine mx_aload_n (mx_d tX11_part_0 9 rfl) rfl rfl ?_
    refine mx_getR (mx_d tX11_part_0 10 rfl) fX11_19 rfl rfl (ly11_o h0) (ly11_r1 h0) ?_
    obtain ⟨r3, h_r3, h⟩ := Option.bind_eq_some_iff.mp h
    refine mx_cVv (mx_d tX11_part_0 11 rfl) iX11_231 rfl vX3_mark ⟨_, rfl, rfl⟩ (ly3_o (ly11_s9 h0)) (CX3_mark (ly11_s9 h0) (ly11_s1 h0) h_r3) (by decide) rfl rfl (Nat.le_of_ble_eq_true rfl) ?_
    refine mx_aload_n (mx_d tX11_part_0 12 rfl) rfl rfl ?_
    refine mx_aload_n (mx_d tX11_part_0 13 rfl) rfl rfl ?_
    refine mx_getR (mx_d tX11_part_0 14 rfl) fX11_19 rfl rfl (ly11_o h0) (ly11_r1 h0) ?_
    refine mx_iload_n (mx_d tX11_part_0 15 rfl) rfl rfl ?_
    obtain ⟨r4, h_r4, h⟩ := Option.bind_eq_some_iff.mp h
    refine mx_cVi (mx_d tX11_part_0 16 rfl) iX11_241 rfl vX4_partFrom ⟨_, rfl, rfl⟩ (ly4_o (ly11_s1 h0)) (CX4_partFrom (ly11_s1 h0) h_r4) (by decide) rfl rfl (Nat.le_of_ble_eq_true rfl) ?_
    obtain ⟨r5, h_r5, h⟩ := Option.bind_eq_some_iff.mp h
    refine mx_cVi (mx_d tX11_part_0 17 rfl) iX11_238 rfl vX11_keepIfDone ⟨_, rfl, rfl⟩ (ly11_o h0) (CX11_keepIfDone h0 h_r5) (by decide) rfl rfl (Nat.le_of_ble_eq_true rfl) ?_
    obtain rfl := Option.some.inj h
    exact mx_ireturn (mx_d tX11_part_0 18 rfl) rfl ⟨rfl, rfl⟩
  · rw [if_pos hc2] at h
    refine mx_iconst ((-1)) (mx_d tX11_part_0 5 rfl) (by decide) ?_
    obtain rfl := Option.some.inj h
    exact mx_ireturn (mx_d tX11_part_0 6 rfl) rfl ⟨rfl, rfl⟩
def FX11_weigh (a : Nat) (x0 : Int32) (x1 : Int32) (x2 : Int32) (m : mB) : Option (Int32 × mB) := Option.bind (FX11_areTwo a x0 x1 m) (fun r1 => (if r1 = 0 then (some ((-1), m)) else (if x2 < 1 then (some ((-1), m)) else (if x2 ≤ 99 then Option.bind (FX3_mark (a + 68) (a + 4) m) (fun r5 => Option.bind (FX4_weighAnew (a + 4) x0 x1 x2 r5) (fun r6 => Option.bind (FX11_keepIfDone a r6.1 r6.2) (fun r7 => (some (r7.1, r7.2))))) else (some ((-1), m))))))
set_option maxRecDepth 20000 in
theorem CX11_weigh {G : mG} {l : Launch} {e : mE} {a : Nat} {x0 : Int32} {x1 : Int32} {x2 : Int32} {m : mB} {r : (Int32 × mB)} (h0 : ly11 e a) (h : FX11_weigh a x0 x1 x2 m = some r) : mx_Call G l MX11_weigh 4 0 0 [.ref a, .int x0, .int x1, .int x2] (e, m) (fun v z => v = some (.int r.1) ∧ z = (e, r.2)) := by
  refine mx_entry (L := [.ref a, .int x0, .int x1, .int x2]) (by decide +kernel) (Nat.le_of_ble_eq_true rfl) rfl ?_
  unfold FX11_weigh at h
  refine mx_aload_n (mx_d tX11_weigh_0 0 rfl) rfl rfl ?_
  refine mx_iload_n (mx_d tX11_weigh_0 1 rfl) rfl rfl ?_
  refine mx_iload_n (mx_d tX11_weigh_0 2 rfl) rfl rfl ?_
  obtain ⟨r1, h_r1, h⟩ := Option.bind_eq_some_iff.mp h
  refine mx_cVi (mx_d tX11_weigh_0 3 rfl) iX11_227 rfl vX11_areTwo ⟨_, rfl, rfl⟩ (ly11_o h0) (CX11_areTwo h0 h_r1) (by decide) rfl rfl (Nat.le_of_ble_eq_true rfl) ?_
  refine mx_if_eq (tgt := 20) (mx_d tX11_weigh_0 4 rfl) (by decide) (fun hc2 => ?_) (fun hc2 => ?_)
  · rw [if_pos hc2] at h
    refine mx_iconst ((-1)) (mx_d tX11_weigh_0 11 rfl) (by decide) ?_
    obtain rfl := Option.some.inj h
    exact mx_ireturn (mx_d tX11_weigh_0 12 rfl) rfl ⟨rfl, rfl⟩
  · rw [if_neg hc2] at h
    refine mx_iload_n (mx_d tX11_weigh_0 5 rfl) rfl rfl ?_
    refine mx_iconst (1) (mx_d tX11_weigh_0 6 rfl) (by decide) ?_
    refine mx_icmp_lt (tgt := 20) (mx_d tX11_weigh_0 7 rfl) (by decide) (fun hc3 => ?_) (fun hc3 => ?_)
    · rw [if_pos hc3] at h
      refine mx_iconst ((-1)) (mx_d tX11_weigh_0 11 rfl) (by decide) ?_
      obtain rfl := Option.some.inj h
      exact mx_ireturn (mx_d tX11_weigh_0 12 rfl) rfl ⟨rfl, rfl⟩
    · rw [if_neg hc3] at h
      refine mx_iload_n (mx_d tX11_weigh_0 8 rfl) rfl rfl ?_
      refine mx_bipush (99) (mx_d tX11_weigh_0 9 rfl) (by decide) ?_
      refine mx_icmp_le (tgt := 22) (mx_d tX11_weigh_0 10 rfl) (by decide) (fun hc4 => ?_) (fun hc4 => ?_)
      · rw [if_pos hc4] at h
        refine mx_aload_n (mx_d tX11_weigh_0 13 rfl) rfl rfl ?_
        refine mx_getR (mx_d tX11_weigh_0 14 rfl) fX11_65 rfl rfl (ly11_o h0) (ly11_r9 h0) ?_
        refine mx_aload_n (mx_d tX11_weigh_0 15 rfl) rfl rfl ?_
        refine mx_getR (mx_d tX11_weigh_0 16 rfl) fX11_19 rfl rfl (ly11_o h0) (ly11_r1 h0) ?_
        obtain ⟨r5, h_r5, h⟩ := Option.bind_eq_some_iff.mp h
        refine mx_cVv (mx_d tX11_weigh_0 17 rfl) iX11_231 rfl vX3_mark ⟨_, rfl, rfl⟩ (ly3_o (ly11_s9 h0)) (CX3_mark (ly11_s9 h0) (ly11_s1 h0) h_r5) (by decide) rfl rfl (Nat.le_of_ble_eq_true rfl) ?_
        refine mx_aload_n (mx_d tX11_weigh_0 18 rfl) rfl rfl ?_
        refine mx_aload_n (mx_d tX11_weigh_0 19 rfl) rfl rfl ?_
        refine mx_getR (mx_d tX11_weigh_0 20 rfl) fX11_19 rfl rfl (ly11_o h0) (ly11_r1 h0) ?_
        refine mx_iload_n (mx_d tX11_weigh_0 21 rfl) rfl rfl ?_
        refine mx_iload_n (mx_d tX11_weigh_0 22 rfl) rfl rfl ?_
        refine mx_iload_n (mx_d tX11_weigh_0 23 rfl) rfl rfl ?_
        obtain ⟨r6, h_r6, h⟩ := Option.bind_eq_some_iff.mp h
        refine mx_cVi (mx_d tX11_weigh_0 24 rfl) iX11_244 rfl vX4_weighAnew ⟨_, rfl, rfl⟩ (ly4_o (ly11_s1 h0)) (CX4_weighAnew (ly11_s1 h0) h_r6) (by decide) rfl rfl (Nat.le_of_ble_eq_true rfl) ?_
        obtain ⟨r7, h_r7, h⟩ := Option.bind_eq_some_iff.mp h
        refine mx_cVi (mx_d tX11_weigh_0 25 rfl) iX11_238 rfl vX11_keepIfDone ⟨_, rfl, rfl⟩ (ly11_o h0) (CX11_keepIfDone h0 h_r7) (by decide) rfl rfl (Nat.le_of_ble_eq_true rfl) ?_
        obtain rfl := Option.some.inj h
        exact mx_ireturn (mx_d tX11_weigh_0 26 rfl) rfl ⟨rfl, rfl⟩
      · rw [if_neg hc4] at h
        refine mx_iconst ((-1)) (mx_d tX11_weigh_0 11 rfl) (by decide) ?_
        obtain rfl := Option.some.inj h
        exact mx_ireturn (mx_d tX11_weigh_0 12 rfl) rfl ⟨rfl, rfl⟩
def FX11_isPrice (x0 : Int32) (m : mB) : Option Int32 := (if x0 < 0 then (some 0) else (if 400 < x0 then (some 0) else (some 1)))
set_option maxRecDepth 20000 in
theorem CX11_isPrice {G : mG} {l : Launch} {e : mE} {x0 : Int32} {m : mB} {r : Int32}  (h : FX11_isPrice x0 m = some r) : mx_Call G l MX11_isPrice 1 0 0 [.int x0] (e, m) (fun v z => v = some (.int r) ∧ z = (e, m)) := by
  refine mx_entry (L := [.int x0]) (by decide +kernel) (Nat.le_of_ble_eq_true rfl) rfl ?_
  unfold FX11_isPrice at h
  refine mx_iload_n (mx_d tX11_isPrice_0 0 rfl) rfl rfl ?_
  refine mx_if_lt (tgt := 15) (mx_d tX11_isPrice_0 1 rfl) (by decide) (fun hc1 => ?_) (fun hc1 => ?_)
  · rw [if_pos hc1] at h
    refine mx_iconst (0) (mx_d tX11_isPrice_0 7 rfl) (by decide) ?_
    obtain rfl := Option.some.inj h
    exact mx_zreturn (mx_d tX11_isPrice_0 8 rfl) rfl rfl ⟨rfl, rfl⟩
  · rw [if_neg hc1] at h
    refine mx_iload_n (mx_d tX11_isPrice_0 2 rfl) rfl rfl ?_
    refine mx_sipush (400) (mx_d tX11_isPrice_0 3 rfl) (by decide) ?_
    refine mx_icmp_gt (tgt := 15) (mx_d tX11_isPrice_0 4 rfl) (by decide) (fun hc2 => ?_) (fun hc2 => ?_)
    · rw [if_pos hc2] at h
      refine mx_iconst (0) (mx_d tX11_isPrice_0 7 rfl) (by decide) ?_
      obtain rfl := Option.some.inj h
      exact mx_zreturn (mx_d tX11_isPrice_0 8 rfl) rfl rfl ⟨rfl, rfl⟩
    · rw [if_neg hc2] at h
      refine mx_iconst (1) (mx_d tX11_isPrice_0 5 rfl) (by decide) ?_
      refine mx_goto (tgt := 16) (mx_d tX11_isPrice_0 6 rfl) (by decide) ?_
      obtain rfl := Option.some.inj h
      exact mx_zreturn (mx_d tX11_isPrice_0 8 rfl) rfl rfl ⟨rfl, rfl⟩
def FX11_price (a : Nat) (x0 : Int32) (x1 : Int32) (m : mB) : Option (Int32 × mB) := Option.bind (FX4_hasPoint (a + 4) x0 m) (fun r1 => (if r1 = 0 then (some ((-1), m)) else Option.bind (FX11_isPrice x1 m) (fun r3 => (if r3 = 0 then (some ((-1), m)) else Option.bind (FX3_mark (a + 68) (a + 4) m) (fun r5 => Option.bind (FX4_priceAt (a + 4) x0 x1 r5) (fun r6 => Option.bind (FX11_keepIfDone a r6.1 r6.2) (fun r7 => (some (r7.1, r7.2)))))))))
set_option maxRecDepth 20000 in
theorem CX11_price {G : mG} {l : Launch} {e : mE} {a : Nat} {x0 : Int32} {x1 : Int32} {m : mB} {r : (Int32 × mB)} (h0 : ly11 e a) (h : FX11_price a x0 x1 m = some r) : mx_Call G l MX11_price 4 0 0 [.ref a, .int x0, .int x1] (e, m) (fun v z => v = some (.int r.1) ∧ z = (e, r.2)) := by
  refine mx_entry (L := [.ref a, .int x0, .int x1]) (by decide +kernel) (Nat.le_of_ble_eq_true rfl) rfl ?_
  unfold FX11_price at h
  refine mx_aload_n (mx_d tX11_price_0 0 rfl) rfl rfl ?_
  refine mx_getR (mx_d tX11_price_0 1 rfl) fX11_19 rfl rfl (ly11_o h0) (ly11_r1 h0) ?_
  refine mx_iload_n (mx_d tX11_price_0 2 rfl) rfl rfl ?_
  obtain ⟨r1, h_r1, h⟩ := Option.bind_eq_some_iff.mp h
  refine mx_cVi (mx_d tX11_price_0 3 rfl) iX11_147 rfl vX4_hasPoint ⟨_, rfl, rfl⟩ (ly4_o (ly11_s1 h0)) (CX4_hasPoint (ly11_s1 h0) h_r1) (by decide) rfl rfl (Nat.le_of_ble_eq_true rfl) ?_
  refine mx_if_eq (tgt := 18) (mx_d tX11_price_0 4 rfl) (by decide) (fun hc2 => ?_) (fun hc2 => ?_)
  · rw [if_pos hc2] at h
    refine mx_iconst ((-1)) (mx_d tX11_price_0 8 rfl) (by decide) ?_
    obtain rfl := Option.some.inj h
    exact mx_ireturn (mx_d tX11_price_0 9 rfl) rfl ⟨rfl, rfl⟩
  · rw [if_neg hc2] at h
    refine mx_iload_n (mx_d tX11_price_0 5 rfl) rfl rfl ?_
    obtain ⟨r3, h_r3, h⟩ := Option.bind_eq_some_iff.mp h
    refine mx_cSi (mx_d tX11_price_0 6 rfl) iX11_248 rfl sX11_isPrice (CX11_isPrice  h_r3) (by decide) rfl rfl (Nat.le_of_ble_eq_true rfl) ?_
    refine mx_if_ne (tgt := 20) (mx_d tX11_price_0 7 rfl) (by decide) (fun hc4 => ?_) (fun hc4 => ?_)
    · rw [if_neg hc4] at h
      refine mx_aload_n (mx_d tX11_price_0 10 rfl) rfl rfl ?_
      refine mx_getR (mx_d tX11_price_0 11 rfl) fX11_65 rfl rfl (ly11_o h0) (ly11_r9 h0) ?_
      refine mx_aload_n (mx_d tX11_price_0 12 rfl) rfl rfl ?_
      refine mx_getR (mx_d tX11_price_0 13 rfl) fX11_19 rfl rfl (ly11_o h0) (ly11_r1 h0) ?_
      obtain ⟨r5, h_r5, h⟩ := Option.bind_eq_some_iff.mp h
      refine mx_cVv (mx_d tX11_price_0 14 rfl) iX11_231 rfl vX3_mark ⟨_, rfl, rfl⟩ (ly3_o (ly11_s9 h0)) (CX3_mark (ly11_s9 h0) (ly11_s1 h0) h_r5) (by decide) rfl rfl (Nat.le_of_ble_eq_true rfl) ?_
      refine mx_aload_n (mx_d tX11_price_0 15 rfl) rfl rfl ?_
      refine mx_aload_n (mx_d tX11_price_0 16 rfl) rfl rfl ?_
      refine mx_getR (mx_d tX11_price_0 17 rfl) fX11_19 rfl rfl (ly11_o h0) (ly11_r1 h0) ?_
      refine mx_iload_n (mx_d tX11_price_0 18 rfl) rfl rfl ?_
      refine mx_iload_n (mx_d tX11_price_0 19 rfl) rfl rfl ?_
      obtain ⟨r6, h_r6, h⟩ := Option.bind_eq_some_iff.mp h
      refine mx_cVi (mx_d tX11_price_0 20 rfl) iX11_251 rfl vX4_priceAt ⟨_, rfl, rfl⟩ (ly4_o (ly11_s1 h0)) (CX4_priceAt (ly11_s1 h0) h_r6) (by decide) rfl rfl (Nat.le_of_ble_eq_true rfl) ?_
      obtain ⟨r7, h_r7, h⟩ := Option.bind_eq_some_iff.mp h
      refine mx_cVi (mx_d tX11_price_0 21 rfl) iX11_238 rfl vX11_keepIfDone ⟨_, rfl, rfl⟩ (ly11_o h0) (CX11_keepIfDone h0 h_r7) (by decide) rfl rfl (Nat.le_of_ble_eq_true rfl) ?_
      obtain rfl := Option.some.inj h
      exact mx_ireturn (mx_d tX11_price_0 22 rfl) rfl ⟨rfl, rfl⟩
    · rw [if_pos hc4] at h
      refine mx_iconst ((-1)) (mx_d tX11_price_0 8 rfl) (by decide) ?_
      obtain rfl := Option.some.inj h
      exact mx_ireturn (mx_d tX11_price_0 9 rfl) rfl ⟨rfl, rfl⟩
def FX11_crown (a : Nat) (x0 : Int32) (x1 : Int32) (m : mB) : Option (Int32 × mB) := Option.bind (FX4_hasSet (a + 4) x0 m) (fun r1 => (if r1 = 0 then (some ((-1), m)) else Option.bind (FX11_isPrice x1 m) (fun r3 => (if r3 = 0 then (some ((-1), m)) else Option.bind (FX3_mark (a + 68) (a + 4) m) (fun r5 => Option.bind (FX4_crownAt (a + 4) x0 x1 r5) (fun r6 => Option.bind (FX11_keepIfDone a r6.1 r6.2) (fun r7 => (some (r7.1, r7.2)))))))))
set_option maxRecDepth 20000 in
theorem CX11_crown {G : mG} {l : Launch} {e : mE} {a : Nat} {x0 : Int32} {x1 : Int32} {m : mB} {r : (Int32 × mB)} (h0 : ly11 e a) (h : FX11_crown a x0 x1 m = some r) : mx_Call G l MX11_crown 4 0 0 [.ref a, .int x0, .int x1] (e, m) (fun v z => v = some (.int r.1) ∧ z = (e, r.2)) := by
  refine mx_entry (L := [.ref a, .int x0, .int x1]) (by decide +kernel) (Nat.le_of_ble_eq_true rfl) rfl ?_
  unfold FX11_crown at h
  refine mx_aload_n (mx_d tX11_crown_0 0 rfl) rfl rfl ?_
  refine mx_getR (mx_d tX11_crown_0 1 rfl) fX11_19 rfl rfl (ly11_o h0) (ly11_r1 h0) ?_
  refine mx_iload_n (mx_d tX11_crown_0 2 rfl) rfl rfl ?_
  obtain ⟨r1, h_r1, h⟩ := Option.bind_eq_some_iff.mp h
  refine mx_cVi (mx_d tX11_crown_0 3 rfl) iX11_194 rfl vX4_hasSet ⟨_, rfl, rfl⟩ (ly4_o (ly11_s1 h0)) (CX4_hasSet (ly11_s1 h0) h_r1) (by decide) rfl rfl (Nat.le_of_ble_eq_true rfl) ?_
  refine mx_if_eq (tgt := 18) (mx_d tX11_crown_0 4 rfl) (by decide) (fun hc2 => ?_) (fun hc2 => ?_)
  · rw [if_pos hc2] at h
    refine mx_iconst ((-1)) (mx_d tX11_crown_0 8 rfl) (by decide) ?_
    obtain rfl := Option.some.inj h
    exact mx_ireturn (mx_d tX11_crown_0 9 rfl) rfl ⟨rfl, rfl⟩
  · rw [if_neg hc2] at h
    refine mx_iload_n (mx_d tX11_crown_0 5 rfl) rfl rfl ?_
    obtain ⟨r3, h_r3, h⟩ := Option.bind_eq_some_iff.mp h
    refine mx_cSi (mx_d tX11_crown_0 6 rfl) iX11_248 rfl sX11_isPrice (CX11_isPrice  h_r3) (by decide) rfl rfl (Nat.le_of_ble_eq_true rfl) ?_
    refine mx_if_ne (tgt := 20) (mx_d tX11_crown_0 7 rfl) (by decide) (fun hc4 => ?_) (fun hc4 => ?_)
    · rw [if_neg hc4] at h
      refine mx_aload_n (mx_d tX11_crown_0 10 rfl) rfl rfl ?_
      refine mx_getR (mx_d tX11_crown_0 11 rfl) fX11_65 rfl rfl (ly11_o h0) (ly11_r9 h0) ?_
      refine mx_aload_n (mx_d tX11_crown_0 12 rfl) rfl rfl ?_
      refine mx_getR (mx_d tX11_crown_0 13 rfl) fX11_19 rfl rfl (ly11_o h0) (ly11_r1 h0) ?_
      obtain ⟨r5, h_r5, h⟩ := Option.bind_eq_some_iff.mp h
      refine mx_cVv (mx_d tX11_crown_0 14 rfl) iX11_231 rfl vX3_mark ⟨_, rfl, rfl⟩ (ly3_o (ly11_s9 h0)) (CX3_mark (ly11_s9 h0) (ly11_s1 h0) h_r5) (by decide) rfl rfl (Nat.le_of_ble_eq_true rfl) ?_
      refine mx_aload_n (mx_d tX11_crown_0 15 rfl) rfl rfl ?_
      refine mx_aload_n (mx_d tX11_crown_0 16 rfl) rfl rfl ?_
      refine mx_getR (mx_d tX11_crown_0 17 rfl) fX11_19 rfl rfl (ly11_o h0) (ly11_r1 h0) ?_
      refine mx_iload_n (mx_d tX11_crown_0 18 rfl) rfl rfl ?_
      refine mx_iload_n (mx_d tX11_crown_0 19 rfl) rfl rfl ?_
      obtain ⟨r6, h_r6, h⟩ := Option.bind_eq_some_iff.mp h
      refine mx_cVi (mx_d tX11_crown_0 20 rfl) iX11_254 rfl vX4_crownAt ⟨_, rfl, rfl⟩ (ly4_o (ly11_s1 h0)) (CX4_crownAt (ly11_s1 h0) h_r6) (by decide) rfl rfl (Nat.le_of_ble_eq_true rfl) ?_
      obtain ⟨r7, h_r7, h⟩ := Option.bind_eq_some_iff.mp h
      refine mx_cVi (mx_d tX11_crown_0 21 rfl) iX11_238 rfl vX11_keepIfDone ⟨_, rfl, rfl⟩ (ly11_o h0) (CX11_keepIfDone h0 h_r7) (by decide) rfl rfl (Nat.le_of_ble_eq_true rfl) ?_
      obtain rfl := Option.some.inj h
      exact mx_ireturn (mx_d tX11_crown_0 22 rfl) rfl ⟨rfl, rfl⟩
    · rw [if_pos hc4] at h
      refine mx_iconst ((-1)) (mx_d tX11_crown_0 8 rfl) (by decide) ?_
      obtain rfl := Option.some.inj h
      exact mx_ireturn (mx_d tX11_crown_0 9 rfl) rfl ⟨rfl, rfl⟩
def FX11_open (a : Nat) (x0 : Int32) (m : mB) : Option (Int32 × mB) := Option.bind (FX4_hasSet (a + 4) x0 m) (fun r1 => (if r1 = 0 then (some ((-1), m)) else Option.bind (FX3_mark (a + 68) (a + 4) m) (fun r3 => Option.bind (FX4_openSet (a + 4) x0 r3) (fun r4 => Option.bind (FX11_keepIfDone a r4.1 r4.2) (fun r5 => (some (r5.1, r5.2)))))))
set_option maxRecDepth 20000 in
theorem CX11_open {G : mG} {l : Launch} {e : mE} {a : Nat} {x0 : Int32} {m : mB} {r : (Int32 × mB)} (h0 : ly11 e a) (h : FX11_open a x0 m = some r) : mx_Call G l MX11_open 4 0 0 [.ref a, .int x0] (e, m) (fun v z => v = some (.int r.1) ∧ z = (e, r.2)) := by
  refine mx_entry (L := [.ref a, .int x0]) (by decide +kernel) (Nat.le_of_ble_eq_true rfl) rfl ?_
  unfold FX11_open at h
  refine mx_aload_n (mx_d tX11_open_0 0 rfl) rfl rfl ?_
  refine mx_getR (mx_d tX11_open_0 1 rfl) fX11_19 rfl rfl (ly11_o h0) (ly11_r1 h0) ?_
  refine mx_iload_n (mx_d tX11_open_0 2 rfl) rfl rfl ?_
  obtain ⟨r1, h_r1, h⟩ := Option.bind_eq_some_iff.mp h
  refine mx_cVi (mx_d tX11_open_0 3 rfl) iX11_194 rfl vX4_hasSet ⟨_, rfl, rfl⟩ (ly4_o (ly11_s1 h0)) (CX4_hasSet (ly11_s1 h0) h_r1) (by decide) rfl rfl (Nat.le_of_ble_eq_true rfl) ?_
  refine mx_if_ne (tgt := 13) (mx_d tX11_open_0 4 rfl) (by decide) (fun hc2 => ?_) (fun hc2 => ?_)
  · rw [if_neg hc2] at h
    refine mx_aload_n (mx_d tX11_open_0 7 rfl) rfl rfl ?_
    refine mx_getR (mx_d tX11_open_0 8 rfl) fX11_65 rfl rfl (ly11_o h0) (ly11_r9 h0) ?_
    refine mx_aload_n (mx_d tX11_open_0 9 rfl) rfl rfl ?_
    refine mx_getR (mx_d tX11_open_0 10 rfl) fX11_19 rfl rfl (ly11_o h0) (ly11_r1 h0) ?_
    obtain ⟨r3, h_r3, h⟩ := Option.bind_eq_some_iff.mp h
    refine mx_cVv (mx_d tX11_open_0 11 rfl) iX11_231 rfl vX3_mark ⟨_, rfl, rfl⟩ (ly3_o (ly11_s9 h0)) (CX3_mark (ly11_s9 h0) (ly11_s1 h0) h_r3) (by decide) rfl rfl (Nat.le_of_ble_eq_true rfl) ?_
    refine mx_aload_n (mx_d tX11_open_0 12 rfl) rfl rfl ?_
    refine mx_aload_n (mx_d tX11_open_0 13 rfl) rfl rfl ?_
    refine mx_getR (mx_d tX11_open_0 14 rfl) fX11_19 rfl rfl (ly11_o h0) (ly11_r1 h0) ?_
    refine mx_iload_n (mx_d tX11_open_0 15 rfl) rfl rfl ?_
    obtain ⟨r4, h_r4, h⟩ := Option.bind_eq_some_iff.mp h
    refine mx_cVi (mx_d tX11_open_0 16 rfl) iX11_257 rfl vX4_openSet ⟨_, rfl, rfl⟩ (ly4_o (ly11_s1 h0)) (CX4_openSet (ly11_s1 h0) h_r4) (by decide) rfl rfl (Nat.le_of_ble_eq_true rfl) ?_
    obtain ⟨r5, h_r5, h⟩ := Option.bind_eq_some_iff.mp h
    refine mx_cVi (mx_d tX11_open_0 17 rfl) iX11_238 rfl vX11_keepIfDone ⟨_, rfl, rfl⟩ (ly11_o h0) (CX11_keepIfDone h0 h_r5) (by decide) rfl rfl (Nat.le_of_ble_eq_true rfl) ?_
    obtain rfl := Option.some.inj h
    exact mx_ireturn (mx_d tX11_open_0 18 rfl) rfl ⟨rfl, rfl⟩
  · rw [if_pos hc2] at h
    refine mx_iconst ((-1)) (mx_d tX11_open_0 5 rfl) (by decide) ?_
    obtain rfl := Option.some.inj h
    exact mx_ireturn (mx_d tX11_open_0 6 rfl) rfl ⟨rfl, rfl⟩
def FX11_grow (a : Nat) (x0 : Int32) (m : mB) : Option (Int32 × mB) := Option.bind (FX9_findPath (a + 38) (a + 4) x0 m) (fun r1 => (if r1.1 = 0 then (some ((-1), r1.2)) else Option.bind (FX7_copyFrom (a + 41) ((a + 38) + 1) r1.2) (fun r3 => Option.bind (FX7_size (a + 41) r3) (fun r4 => (some ((r4 - 1), r3))))))
set_option maxRecDepth 20000 in
theorem CX11_grow {G : mG} {l : Launch} {e : mE} {a : Nat} {x0 : Int32} {m : mB} {r : (Int32 × mB)} (h0 : ly11 e a) (h : FX11_grow a x0 m = some r) : mx_Call G l MX11_grow 195 0 0 [.ref a, .int x0] (e, m) (fun v z => v = some (.int r.1) ∧ z = (e, r.2)) := by
  refine mx_entry (L := [.ref a, .int x0]) (by decide +kernel) (Nat.le_of_ble_eq_true rfl) rfl ?_
  unfold FX11_grow at h
  refine mx_aload_n (mx_d tX11_grow_0 0 rfl) rfl rfl ?_
  refine mx_getR (mx_d tX11_grow_0 1 rfl) fX11_36 rfl rfl (ly11_o h0) (ly11_r4 h0) ?_
  refine mx_aload_n (mx_d tX11_grow_0 2 rfl) rfl rfl ?_
  refine mx_getR (mx_d tX11_grow_0 3 rfl) fX11_19 rfl rfl (ly11_o h0) (ly11_r1 h0) ?_
  refine mx_iload_n (mx_d tX11_grow_0 4 rfl) rfl rfl ?_
  obtain ⟨r1, h_r1, h⟩ := Option.bind_eq_some_iff.mp h
  refine mx_cVi (mx_d tX11_grow_0 5 rfl) iX11_260 rfl vX9_findPath ⟨_, rfl, rfl⟩ (ly9_o (ly11_s4 h0)) (CX9_findPath (ly11_s4 h0) (ly11_s1 h0) h_r1) (by decide) rfl rfl (Nat.le_of_ble_eq_true rfl) ?_
  refine mx_if_ne (tgt := 17) (mx_d tX11_grow_0 6 rfl) (by decide) (fun hc2 => ?_) (fun hc2 => ?_)
  · rw [if_neg hc2] at h
    refine mx_aload_n (mx_d tX11_grow_0 9 rfl) rfl rfl ?_
    refine mx_getR (mx_d tX11_grow_0 10 rfl) fX11_45 rfl rfl (ly11_o h0) (ly11_r5 h0) ?_
    refine mx_aload_n (mx_d tX11_grow_0 11 rfl) rfl rfl ?_
    refine mx_getR (mx_d tX11_grow_0 12 rfl) fX11_36 rfl rfl (ly11_o h0) (ly11_r4 h0) ?_
    refine mx_cVr (mx_d tX11_grow_0 13 rfl) iX11_264 rfl vX9_row ⟨_, rfl, rfl⟩ (ly9_o (ly11_s4 h0)) (CX9_row (ly11_s4 h0) rfl) (by decide) rfl rfl (Nat.le_of_ble_eq_true rfl) ?_
    obtain ⟨r3, h_r3, h⟩ := Option.bind_eq_some_iff.mp h
    refine mx_cVv (mx_d tX11_grow_0 14 rfl) iX11_268 rfl vX7_copyFrom ⟨_, rfl, rfl⟩ (ly7_o (ly11_s5 h0)) (CX7_copyFrom (ly11_s5 h0) (ly9_s0 (ly11_s4 h0)) h_r3) (by decide) rfl rfl (Nat.le_of_ble_eq_true rfl) ?_
    refine mx_aload_n (mx_d tX11_grow_0 15 rfl) rfl rfl ?_
    refine mx_getR (mx_d tX11_grow_0 16 rfl) fX11_45 rfl rfl (ly11_o h0) (ly11_r5 h0) ?_
    obtain ⟨r4, h_r4, h⟩ := Option.bind_eq_some_iff.mp h
    refine mx_cVi (mx_d tX11_grow_0 17 rfl) iX11_271 rfl vX7_size ⟨_, rfl, rfl⟩ (ly7_o (ly11_s5 h0)) (CX7_size (ly11_s5 h0) h_r4) (by decide) rfl rfl (Nat.le_of_ble_eq_true rfl) ?_
    refine mx_iconst (1) (mx_d tX11_grow_0 18 rfl) (by decide) ?_
    refine mx_isub (mx_d tX11_grow_0 19 rfl) ?_
    obtain rfl := Option.some.inj h
    exact mx_ireturn (mx_d tX11_grow_0 20 rfl) rfl ⟨rfl, rfl⟩
  · rw [if_pos hc2] at h
    refine mx_iconst ((-1)) (mx_d tX11_grow_0 7 rfl) (by decide) ?_
    obtain rfl := Option.some.inj h
    exact mx_ireturn (mx_d tX11_grow_0 8 rfl) rfl ⟨rfl, rfl⟩
def FX11_growAt (a : Nat) (x0 : Int32) (m : mB) : Option Int32 := Option.bind (FX7_at (a + 41) x0 m) (fun r1 => (some r1))
set_option maxRecDepth 20000 in
theorem CX11_growAt {G : mG} {l : Launch} {e : mE} {a : Nat} {x0 : Int32} {m : mB} {r : Int32} (h0 : ly11 e a) (h : FX11_growAt a x0 m = some r) : mx_Call G l MX11_growAt 2 0 0 [.ref a, .int x0] (e, m) (fun v z => v = some (.int r) ∧ z = (e, m)) := by
  refine mx_entry (L := [.ref a, .int x0]) (by decide +kernel) (Nat.le_of_ble_eq_true rfl) rfl ?_
  unfold FX11_growAt at h
  refine mx_aload_n (mx_d tX11_growAt_0 0 rfl) rfl rfl ?_
  refine mx_getR (mx_d tX11_growAt_0 1 rfl) fX11_45 rfl rfl (ly11_o h0) (ly11_r5 h0) ?_
  refine mx_iload_n (mx_d tX11_growAt_0 2 rfl) rfl rfl ?_
  obtain ⟨r1, h_r1, h⟩ := Option.bind_eq_some_iff.mp h
  refine mx_cVi (mx_d tX11_growAt_0 3 rfl) iX11_274 rfl vX7_at ⟨_, rfl, rfl⟩ (ly7_o (ly11_s5 h0)) (CX7_at (ly11_s5 h0) h_r1) (by decide) rfl rfl (Nat.le_of_ble_eq_true rfl) ?_
  obtain rfl := Option.some.inj h
  exact mx_ireturn (mx_d tX11_growAt_0 4 rfl) rfl ⟨rfl, rfl⟩
def FX11_turn (a : Nat) (m : mB) : Option (Int32 × mB) := Option.bind (FX3_mark (a + 68) (a + 4) m) (fun r1 => Option.bind (FX4_turnAlong (a + 4) (a + 41) r1) (fun r2 => Option.bind (FX11_keepIfDone a r2.1 r2.2) (fun r3 => (some (r3.1, r3.2)))))
set_option maxRecDepth 20000 in
theorem CX11_turn {G : mG} {l : Launch} {e : mE} {a : Nat} {m : mB} {r : (Int32 × mB)} (h0 : ly11 e a) (h : FX11_turn a m = some r) : mx_Call G l MX11_turn 5 0 0 [.ref a] (e, m) (fun v z => v = some (.int r.1) ∧ z = (e, r.2)) := by
  refine mx_entry (L := [.ref a]) (by decide +kernel) (Nat.le_of_ble_eq_true rfl) rfl ?_
  unfold FX11_turn at h
  refine mx_aload_n (mx_d tX11_turn_0 0 rfl) rfl rfl ?_
  refine mx_getR (mx_d tX11_turn_0 1 rfl) fX11_65 rfl rfl (ly11_o h0) (ly11_r9 h0) ?_
  refine mx_aload_n (mx_d tX11_turn_0 2 rfl) rfl rfl ?_
  refine mx_getR (mx_d tX11_turn_0 3 rfl) fX11_19 rfl rfl (ly11_o h0) (ly11_r1 h0) ?_
  obtain ⟨r1, h_r1, h⟩ := Option.bind_eq_some_iff.mp h
  refine mx_cVv (mx_d tX11_turn_0 4 rfl) iX11_231 rfl vX3_mark ⟨_, rfl, rfl⟩ (ly3_o (ly11_s9 h0)) (CX3_mark (ly11_s9 h0) (ly11_s1 h0) h_r1) (by decide) rfl rfl (Nat.le_of_ble_eq_true rfl) ?_
  refine mx_aload_n (mx_d tX11_turn_0 5 rfl) rfl rfl ?_
  refine mx_aload_n (mx_d tX11_turn_0 6 rfl) rfl rfl ?_
  refine mx_getR (mx_d tX11_turn_0 7 rfl) fX11_19 rfl rfl (ly11_o h0) (ly11_r1 h0) ?_
  refine mx_aload_n (mx_d tX11_turn_0 8 rfl) rfl rfl ?_
  refine mx_getR (mx_d tX11_turn_0 9 rfl) fX11_45 rfl rfl (ly11_o h0) (ly11_r5 h0) ?_
  obtain ⟨r2, h_r2, h⟩ := Option.bind_eq_some_iff.mp h
  refine mx_cVi (mx_d tX11_turn_0 10 rfl) iX11_277 rfl vX4_turnAlong ⟨_, rfl, rfl⟩ (ly4_o (ly11_s1 h0)) (CX4_turnAlong (ly11_s1 h0) (ly11_s5 h0) h_r2) (by decide) rfl rfl (Nat.le_of_ble_eq_true rfl) ?_
  obtain ⟨r3, h_r3, h⟩ := Option.bind_eq_some_iff.mp h
  refine mx_cVi (mx_d tX11_turn_0 11 rfl) iX11_238 rfl vX11_keepIfDone ⟨_, rfl, rfl⟩ (ly11_o h0) (CX11_keepIfDone h0 h_r3) (by decide) rfl rfl (Nat.le_of_ble_eq_true rfl) ?_
  obtain rfl := Option.some.inj h
  exact mx_ireturn (mx_d tX11_turn_0 12 rfl) rfl ⟨rfl, rfl⟩
def FX11_flower (a : Nat) (x0 : Int32) (m : mB) : Option (Int32 × mB) := Option.bind (FX9_findFlower (a + 38) (a + 4) x0 m) (fun r1 => (if r1.1 = 0 then (some ((-1), r1.2)) else Option.bind (FX7_copyFrom (a + 43) ((a + 38) + 1) r1.2) (fun r3 => Option.bind (FX7_size (a + 43) r3) (fun r4 => (some (r4, r3))))))
set_option maxRecDepth 20000 in
theorem CX11_flower {G : mG} {l : Launch} {e : mE} {a : Nat} {x0 : Int32} {m : mB} {r : (Int32 × mB)} (h0 : ly11 e a) (h : FX11_flower a x0 m = some r) : mx_Call G l MX11_flower 195 0 0 [.ref a, .int x0] (e, m) (fun v z => v = some (.int r.1) ∧ z = (e, r.2)) := by
  refine mx_entry (L := [.ref a, .int x0]) (by decide +kernel) (Nat.le_of_ble_eq_true rfl) rfl ?_
  unfold FX11_flower at h
  refine mx_aload_n (mx_d tX11_flower_0 0 rfl) rfl rfl ?_
  refine mx_getR (mx_d tX11_flower_0 1 rfl) fX11_36 rfl rfl (ly11_o h0) (ly11_r4 h0) ?_
  refine mx_aload_n (mx_d tX11_flower_0 2 rfl) rfl rfl ?_
  refine mx_getR (mx_d tX11_flower_0 3 rfl) fX11_19 rfl rfl (ly11_o h0) (ly11_r1 h0) ?_
  refine mx_iload_n (mx_d tX11_flower_0 4 rfl) rfl rfl ?_
  obtain ⟨r1, h_r1, h⟩ := Option.bind_eq_some_iff.mp h
  refine mx_cVi (mx_d tX11_flower_0 5 rfl) iX11_281 rfl vX9_findFlower ⟨_, rfl, rfl⟩ (ly9_o (ly11_s4 h0)) (CX9_findFlower (ly11_s4 h0) (ly11_s1 h0) h_r1) (by decide) rfl rfl (Nat.le_of_ble_eq_true rfl) ?_
  refine mx_if_ne (tgt := 17) (mx_d tX11_flower_0 6 rfl) (by decide) (fun hc2 => ?_) (fun hc2 => ?_)
  · rw [if_neg hc2] at h
    refine mx_aload_n (mx_d tX11_flower_0 9 rfl) rfl rfl ?_
    refine mx_getR (mx_d tX11_flower_0 10 rfl) fX11_49 rfl rfl (ly11_o h0) (ly11_r6 h0) ?_
    refine mx_aload_n (mx_d tX11_flower_0 11 rfl) rfl rfl ?_
    refine mx_getR (mx_d tX11_flower_0 12 rfl) fX11_36 rfl rfl (ly11_o h0) (ly11_r4 h0) ?_
    refine mx_cVr (mx_d tX11_flower_0 13 rfl) iX11_264 rfl vX9_row ⟨_, rfl, rfl⟩ (ly9_o (ly11_s4 h0)) (CX9_row (ly11_s4 h0) rfl) (by decide) rfl rfl (Nat.le_of_ble_eq_true rfl) ?_
    obtain ⟨r3, h_r3, h⟩ := Option.bind_eq_some_iff.mp h
    refine mx_cVv (mx_d tX11_flower_0 14 rfl) iX11_268 rfl vX7_copyFrom ⟨_, rfl, rfl⟩ (ly7_o (ly11_s6 h0)) (CX7_copyFrom (ly11_s6 h0) (ly9_s0 (ly11_s4 h0)) h_r3) (by decide) rfl rfl (Nat.le_of_ble_eq_true rfl) ?_
    refine mx_aload_n (mx_d tX11_flower_0 15 rfl) rfl rfl ?_
    refine mx_getR (mx_d tX11_flower_0 16 rfl) fX11_49 rfl rfl (ly11_o h0) (ly11_r6 h0) ?_
    obtain ⟨r4, h_r4, h⟩ := Option.bind_eq_some_iff.mp h
    refine mx_cVi (mx_d tX11_flower_0 17 rfl) iX11_271 rfl vX7_size ⟨_, rfl, rfl⟩ (ly7_o (ly11_s6 h0)) (CX7_size (ly11_s6 h0) h_r4) (by decide) rfl rfl (Nat.le_of_ble_eq_true rfl) ?_
    obtain rfl := Option.some.inj h
    exact mx_ireturn (mx_d tX11_flower_0 18 rfl) rfl ⟨rfl, rfl⟩
  · rw [if_pos hc2] at h
    refine mx_iconst ((-1)) (mx_d tX11_flower_0 7 rfl) (by decide) ?_
    obtain rfl := Option.some.inj h
    exact mx_ireturn (mx_d tX11_flower_0 8 rfl) rfl ⟨rfl, rfl⟩
def FX11_flowerAt (a : Nat) (x0 : Int32) (m : mB) : Option Int32 := Option.bind (FX7_at (a + 43) x0 m) (fun r1 => (some r1))
set_option maxRecDepth 20000 in
theorem CX11_flowerAt {G : mG} {l : Launch} {e : mE} {a : Nat} {x0 : Int32} {m : mB} {r : Int32} (h0 : ly11 e a) (h : FX11_flowerAt a x0 m = some r) : mx_Call G l MX11_flowerAt 2 0 0 [.ref a, .int x0] (e, m) (fun v z => v = some (.int r) ∧ z = (e, m)) := by
  refine mx_entry (L := [.ref a, .int x0]) (by decide +kernel) (Nat.le_of_ble_eq_true rfl) rfl ?_
  unfold FX11_flowerAt at h
  refine mx_aload_n (mx_d tX11_flowerAt_0 0 rfl) rfl rfl ?_
  refine mx_getR (mx_d tX11_flowerAt_0 1 rfl) fX11_49 rfl rfl (ly11_o h0) (ly11_r6 h0) ?_
  refine mx_iload_n (mx_d tX11_flowerAt_0 2 rfl) rfl rfl ?_
  obtain ⟨r1, h_r1, h⟩ := Option.bind_eq_some_iff.mp h
  refine mx_cVi (mx_d tX11_flowerAt_0 3 rfl) iX11_274 rfl vX7_at ⟨_, rfl, rfl⟩ (ly7_o (ly11_s6 h0)) (CX7_at (ly11_s6 h0) h_r1) (by decide) rfl rfl (Nat.le_of_ble_eq_true rfl) ?_
  obtain rfl := Option.some.inj h
  exact mx_ireturn (mx_d tX11_flowerAt_0 4 rfl) rfl ⟨rfl, rfl⟩
def FX11_shrink (a : Nat) (m : mB) : Option (Int32 × mB) := Option.bind (FX3_mark (a + 68) (a + 4) m) (fun r1 => Option.bind (FX4_shrinkAlong (a + 4) (a + 43) r1) (fun r2 => Option.bind (FX11_keepIfDone a r2.1 r2.2) (fun r3 => (some (r3.1, r3.2)))))
set_option maxRecDepth 20000 in
theorem CX11_shrink {G : mG} {l : Launch} {e : mE} {a : Nat} {m : mB} {r : (Int32 × mB)} (h0 : ly11 e a) (h : FX11_shrink a m = some r) : mx_Call G l MX11_shrink 5 0 0 [.ref a] (e, m) (fun v z => v = some (.int r.1) ∧ z = (e, r.2)) := by
  refine mx_entry (L := [.ref a]) (by decide +kernel) (Nat.le_of_ble_eq_true rfl) rfl ?_
  unfold FX11_shrink at h
  refine mx_aload_n (mx_d tX11_shrink_0 0 rfl) rfl rfl ?_
  refine mx_getR (mx_d tX11_shrink_0 1 rfl) fX11_65 rfl rfl (ly11_o h0) (ly11_r9 h0) ?_
  refine mx_aload_n (mx_d tX11_shrink_0 2 rfl) rfl rfl ?_
  refine mx_getR (mx_d tX11_shrink_0 3 rfl) fX11_19 rfl rfl (ly11_o h0) (ly11_r1 h0) ?_
  obtain ⟨r1, h_r1, h⟩ := Option.bind_eq_some_iff.mp h
  refine mx_cVv (mx_d tX11_shrink_0 4 rfl) iX11_231 rfl vX3_mark ⟨_, rfl, rfl⟩ (ly3_o (ly11_s9 h0)) (CX3_mark (ly11_s9 h0) (ly11_s1 h0) h_r1) (by decide) rfl rfl (Nat.le_of_ble_eq_true rfl) ?_
  refine mx_aload_n (mx_d tX11_shrink_0 5 rfl) rfl rfl ?_
  refine mx_aload_n (mx_d tX11_shrink_0 6 rfl) rfl rfl ?_
  refine mx_getR (mx_d tX11_shrink_0 7 rfl) fX11_19 rfl rfl (ly11_o h0) (ly11_r1 h0) ?_
  refine mx_aload_n (mx_d tX11_shrink_0 8 rfl) rfl rfl ?_
  refine mx_getR (mx_d tX11_shrink_0 9 rfl) fX11_49 rfl rfl (ly11_o h0) (ly11_r6 h0) ?_
  obtain ⟨r2, h_r2, h⟩ := Option.bind_eq_some_iff.mp h
  refine mx_cVi (mx_d tX11_shrink_0 10 rfl) iX11_284 rfl vX4_shrinkAlong ⟨_, rfl, rfl⟩ (ly4_o (ly11_s1 h0)) (CX4_shrinkAlong (ly11_s1 h0) (ly11_s6 h0) h_r2) (by decide) rfl rfl (Nat.le_of_ble_eq_true rfl) ?_
  obtain ⟨r3, h_r3, h⟩ := Option.bind_eq_some_iff.mp h
  refine mx_cVi (mx_d tX11_shrink_0 11 rfl) iX11_238 rfl vX11_keepIfDone ⟨_, rfl, rfl⟩ (ly11_o h0) (CX11_keepIfDone h0 h_r3) (by decide) rfl rfl (Nat.le_of_ble_eq_true rfl) ?_
  obtain rfl := Option.some.inj h
  exact mx_ireturn (mx_d tX11_shrink_0 12 rfl) rfl ⟨rfl, rfl⟩
def FX11_undo (a : Nat) (m : mB) : Option (Int32 × mB) := Option.bind (FX3_takeBack (a + 68) (a + 4) m) (fun r1 => (some (r1.1, r1.2)))
set_option maxRecDepth 20000 in
theorem CX11_undo {G : mG} {l : Launch} {e : mE} {a : Nat} {m : mB} {r : (Int32 × mB)} (h0 : ly11 e a) (h : FX11_undo a m = some r) : mx_Call G l MX11_undo 4 0 0 [.ref a] (e, m) (fun v z => v = some (.int r.1) ∧ z = (e, r.2)) := by
  refine mx_entry (L := [.ref a]) (by decide +kernel) (Nat.le_of_ble_eq_true rfl) rfl ?_
  unfold FX11_undo at h
  refine mx_aload_n (mx_d tX11_undo_0 0 rfl) rfl rfl ?_
  refine mx_getR (mx_d tX11_undo_0 1 rfl) fX11_65 rfl rfl (ly11_o h0) (ly11_r9 h0) ?_
  refine mx_aload_n (mx_d tX11_undo_0 2 rfl) rfl rfl ?_
  refine mx_getR (mx_d tX11_undo_0 3 rfl) fX11_19 rfl rfl (ly11_o h0) (ly11_r1 h0) ?_
  obtain ⟨r1, h_r1, h⟩ := Option.bind_eq_some_iff.mp h
  refine mx_cVi (mx_d tX11_undo_0 4 rfl) iX11_287 rfl vX3_takeBack ⟨_, rfl, rfl⟩ (ly3_o (ly11_s9 h0)) (CX3_takeBack (ly11_s9 h0) (ly11_s1 h0) h_r1) (by decide) rfl rfl (Nat.le_of_ble_eq_true rfl) ?_
  obtain rfl := Option.some.inj h
  exact mx_ireturn (mx_d tX11_undo_0 5 rfl) rfl ⟨rfl, rfl⟩
def FX11_noteFlaw (a : Nat) (x0 : Int32) (x1 : Int32) (x2 : Int32) (m : mB) : Option (Int32 × mB) := mx_let (mx_up m.1 a 16 x1, m.2) (fun m1 => mx_let (mx_up m1.1 a 17 x2, m1.2) (fun m2 => (some (x0, m2))))
set_option maxRecDepth 20000 in
theorem CX11_noteFlaw {G : mG} {l : Launch} {e : mE} {a : Nat} {x0 : Int32} {x1 : Int32} {x2 : Int32} {m : mB} {r : (Int32 × mB)} (h0 : ly11 e a) (h : FX11_noteFlaw a x0 x1 x2 m = some r) : mx_Call G l MX11_noteFlaw 1 0 0 [.ref a, .int x0, .int x1, .int x2] (e, m) (fun v z => v = some (.int r.1) ∧ z = (e, r.2)) := by
  refine mx_entry (L := [.ref a, .int x0, .int x1, .int x2]) (by decide +kernel) (Nat.le_of_ble_eq_true rfl) rfl ?_
  unfold FX11_noteFlaw at h
  refine mx_aload_n (mx_d tX11_noteFlaw_0 0 rfl) rfl rfl ?_
  refine mx_iload_n (mx_d tX11_noteFlaw_0 1 rfl) rfl rfl ?_
  obtain ⟨m1, e_m1, h⟩ := mx_letE h
  refine mx_putI (mx_d tX11_noteFlaw_0 2 rfl) fX11_102 rfl ⟨_, rfl, rfl⟩ rfl (ly11_o h0) (mx_eqz (z' := (e, m1)) (by rw [e_m1]) ?_)
  refine mx_aload_n (mx_d tX11_noteFlaw_0 3 rfl) rfl rfl ?_
  refine mx_iload_n (mx_d tX11_noteFlaw_0 4 rfl) rfl rfl ?_
  obtain ⟨m2, e_m2, h⟩ := mx_letE h
  refine mx_putI (mx_d tX11_noteFlaw_0 5 rfl) fX11_306 rfl ⟨_, rfl, rfl⟩ rfl (ly11_o h0) (mx_eqz (z' := (e, m2)) (by rw [e_m2]) ?_)
  refine mx_iload_n (mx_d tX11_noteFlaw_0 6 rfl) rfl rfl ?_
  obtain rfl := Option.some.inj h
  exact mx_ireturn (mx_d tX11_noteFlaw_0 7 rfl) rfl ⟨rfl, rfl⟩
def FX11_proof (a : Nat) (m : mB) : Option (Int32 × mB) := Option.bind (FX4_firstLinkBelow (a + 4) m) (fun r1 => (if r1 = (-1) then Option.bind (FX4_firstLoosePair (a + 4) m) (fun r3 => (if r3 = (-1) then Option.bind (FX4_firstPricedLone (a + 4) m) (fun r5 => (if r5 = (-1) then Option.bind (FX4_firstCrownedUnfilled (a + 4) m) (fun r7 => (if r7 = (-1) then Option.bind (FX11_noteFlaw a 0 (-1) 0 m) (fun r9 => (some (r9.1, r9.2))) else Option.bind (FX4_crownOf (a + 4) r7 m) (fun r10 => Option.bind (FX11_noteFlaw a 4 r7 r10 m) (fun r11 => (some (r11.1, r11.2)))))) else Option.bind (FX4_priceOf (a + 4) r5 m) (fun r12 => Option.bind (FX11_noteFlaw a 3 r5 r12 m) (fun r13 => (some (r13.1, r13.2)))))) else Option.bind (FX4_slackOf (a + 4) r3 m) (fun r14 => Option.bind (FX11_noteFlaw a 2 r3 r14 m) (fun r15 => (some (r15.1, r15.2)))))) else Option.bind (FX4_slackOf (a + 4) r1 m) (fun r16 => Option.bind (FX11_noteFlaw a 1 r1 r16 m) (fun r17 => (some (r17.1, r17.2))))))
set_option maxRecDepth 20000 in
theorem CX11_proof {G : mG} {l : Launch} {e : mE} {a : Nat} {m : mB} {r : (Int32 × mB)} (h0 : ly11 e a) (h : FX11_proof a m = some r) : mx_Call G l MX11_proof 6 0 0 [.ref a] (e, m) (fun v z => v = some (.int r.1) ∧ z = (e, r.2)) := by
  refine mx_entry (L := [.ref a, .float 0]) (by decide +kernel) (Nat.le_of_ble_eq_true rfl) rfl ?_
  unfold FX11_proof at h
  refine mx_aload_n (mx_d tX11_proof_0 0 rfl) rfl rfl ?_
  refine mx_getR (mx_d tX11_proof_0 1 rfl) fX11_19 rfl rfl (ly11_o h0) (ly11_r1 h0) ?_
  obtain ⟨r1, h_r1, h⟩ := Option.bind_eq_some_iff.mp h
  refine mx_cVi (mx_d tX11_proof_0 2 rfl) iX11_291 rfl vX4_firstLinkBelow ⟨_, rfl, rfl⟩ (ly4_o (ly11_s1 h0)) (CX4_firstLinkBelow (ly11_s1 h0) h_r1) (by decide) rfl rfl (Nat.le_of_ble_eq_true rfl) ?_
  refine mx_istore_n (L2 := [.ref a, .int r1]) (mx_d tX11_proof_0 3 rfl) rfl (by decide) (by rfl) ?_
  refine mx_iload_n (mx_d tX11_proof_0 4 rfl) rfl rfl ?_
  refine mx_iconst ((-1)) (mx_d tX11_proof_0 5 rfl) (by decide) ?_
  refine mx_icmp_eq (tgt := 28) (mx_d tX11_proof_0 6 rfl) (by decide) (fun hc2 => ?_) (fun hc2 => ?_)
  · rw [if_pos hc2] at h
    refine mx_aload_n (mx_d tX11_proof_0 16 rfl) rfl rfl ?_
    refine mx_getR (mx_d tX11_proof_0 17 rfl) fX11_19 rfl rfl (ly11_o h0) (ly11_r1 h0) ?_
    obtain ⟨r3, h_r3, h⟩ := Option.bind_eq_some_iff.mp h
    refine mx_cVi (mx_d tX11_proof_0 18 rfl) iX11_297 rfl vX4_firstLoosePair ⟨_, rfl, rfl⟩ (ly4_o (ly11_s1 h0)) (CX4_firstLoosePair (ly11_s1 h0) h_r3) (by decide) rfl rfl (Nat.le_of_ble_eq_true rfl) ?_
    refine mx_istore_n (L2 := [.ref a, .int r3]) (mx_d tX11_proof_0 19 rfl) rfl (by decide) (by rfl) ?_
    refine mx_iload_n (mx_d tX11_proof_0 20 rfl) rfl rfl ?_
    refine mx_iconst ((-1)) (mx_d tX11_proof_0 21 rfl) (by decide) ?_
    refine mx_icmp_eq (tgt := 56) (mx_d tX11_proof_0 22 rfl) (by decide) (fun hc4 => ?_) (fun hc4 => ?_)
    · rw [if_pos hc4] at h
      refine mx_aload_n (mx_d tX11_proof_0 32 rfl) rfl rfl ?_
      refine mx_getR (mx_d tX11_proof_0 33 rfl) fX11_19 rfl rfl (ly11_o h0) (ly11_r1 h0) ?_
      obtain ⟨r5, h_r5, h⟩ := Option.bind_eq_some_iff.mp h
      refine mx_cVi (mx_d tX11_proof_0 34 rfl) iX11_300 rfl vX4_firstPricedLone ⟨_, rfl, rfl⟩ (ly4_o (ly11_s1 h0)) (CX4_firstPricedLone (ly11_s1 h0) h_r5) (by decide) rfl rfl (Nat.le_of_ble_eq_true rfl) ?_
      refine mx_istore_n (L2 := [.ref a, .int r5]) (mx_d tX11_proof_0 35 rfl) rfl (by decide) (by rfl) ?_
      refine mx_iload_n (mx_d tX11_proof_0 36 rfl) rfl rfl ?_
      refine mx_iconst ((-1)) (mx_d tX11_proof_0 37 rfl) (by decide) ?_
      refine mx_icmp_eq (tgt := 84) (mx_d tX11_proof_0 38 rfl) (by decide) (fun hc6 => ?_) (fun hc6 => ?_)
      · rw [if_pos hc6] at h
        refine mx_aload_n (mx_d tX11_proof_0 48 rfl) rfl rfl ?_
        refine mx_getR (mx_d tX11_proof_0 49 rfl) fX11_19 rfl rfl (ly11_o h0) (ly11_r1 h0) ?_
        obtain ⟨r7, h_r7, h⟩ := Option.bind_eq_some_iff.mp h
        refine mx_cVi (mx_d tX11_proof_0 50 rfl) iX11_303 rfl vX4_firstCrownedUnfilled ⟨_, rfl, rfl⟩ (ly4_o (ly11_s1 h0)) (CX4_firstCrownedUnfilled (ly11_s1 h0) h_r7) (by decide) rfl rfl (Nat.le_of_ble_eq_true rfl) ?_
        refine mx_istore_n (L2 := [.ref a, .int r7]) (mx_d tX11_proof_0 51 rfl) rfl (by decide) (by rfl) ?_
        refine mx_iload_n (mx_d tX11_proof_0 52 rfl) rfl rfl ?_
        refine mx_iconst ((-1)) (mx_d tX11_proof_0 53 rfl) (by decide) ?_
        refine mx_icmp_eq (tgt := 112) (mx_d tX11_proof_0 54 rfl) (by decide) (fun hc8 => ?_) (fun hc8 => ?_)
        · rw [if_pos hc8] at h
          refine mx_aload_n (mx_d tX11_proof_1 4 rfl) rfl rfl ?_
          refine mx_iconst (0) (mx_d tX11_proof_1 5 rfl) (by decide) ?_
          refine mx_iconst ((-1)) (mx_d tX11_proof_1 6 rfl) (by decide) ?_
          refine mx_iconst (0) (mx_d tX11_proof_1 7 rfl) (by decide) ?_
          obtain ⟨r9, h_r9, h⟩ := Option.bind_eq_some_iff.mp h
          refine mx_cVi (mx_d tX11_proof_1 8 rfl) iX11_294 rfl vX11_noteFlaw ⟨_, rfl, rfl⟩ (ly11_o h0) (CX11_noteFlaw h0 h_r9) (by decide) rfl rfl (Nat.le_of_ble_eq_true rfl) ?_
          obtain rfl := Option.some.inj h
          exact mx_ireturn (mx_d tX11_proof_1 9 rfl) rfl ⟨rfl, rfl⟩
        · rw [if_neg hc8] at h
          refine mx_aload_n (mx_d tX11_proof_0 55 rfl) rfl rfl ?_
          refine mx_iconst (4) (mx_d tX11_proof_0 56 rfl) (by decide) ?_
          refine mx_iload_n (mx_d tX11_proof_0 57 rfl) rfl rfl ?_
          refine mx_aload_n (mx_d tX11_proof_0 58 rfl) rfl rfl ?_
          refine mx_getR (mx_d tX11_proof_0 59 rfl) fX11_19 rfl rfl (ly11_o h0) (ly11_r1 h0) ?_
          refine mx_iload_n (mx_d tX11_proof_1 0 rfl) rfl rfl ?_
          obtain ⟨r10, h_r10, h⟩ := Option.bind_eq_some_iff.mp h
          refine mx_cVi (mx_d tX11_proof_1 1 rfl) iX11_200 rfl vX4_crownOf ⟨_, rfl, rfl⟩ (ly4_o (ly11_s1 h0)) (CX4_crownOf (ly11_s1 h0) h_r10) (by decide) rfl rfl (Nat.le_of_ble_eq_true rfl) ?_
          obtain ⟨r11, h_r11, h⟩ := Option.bind_eq_some_iff.mp h
          refine mx_cVi (mx_d tX11_proof_1 2 rfl) iX11_294 rfl vX11_noteFlaw ⟨_, rfl, rfl⟩ (ly11_o h0) (CX11_noteFlaw h0 h_r11) (by decide) rfl rfl (Nat.le_of_ble_eq_true rfl) ?_
          obtain rfl := Option.some.inj h
          exact mx_ireturn (mx_d tX11_proof_1 3 rfl) rfl ⟨rfl, rfl⟩
      · rw [if_neg hc6] at h
        refine mx_aload_n (mx_d tX11_proof_0 39 rfl) rfl rfl ?_
        refine mx_iconst (3) (mx_d tX11_proof_0 40 rfl) (by decide) ?_
        refine mx_iload_n (mx_d tX11_proof_0 41 rfl) rfl rfl ?_
        refine mx_aload_n (mx_d tX11_proof_0 42 rfl) rfl rfl ?_
        refine mx_getR (mx_d tX11_proof_0 43 rfl) fX11_19 rfl rfl (ly11_o h0) (ly11_r1 h0) ?_
        refine mx_iload_n (mx_d tX11_proof_0 44 rfl) rfl rfl ?_
        obtain ⟨r12, h_r12, h⟩ := Option.bind_eq_some_iff.mp h
        refine mx_cVi (mx_d tX11_proof_0 45 rfl) iX11_158 rfl vX4_priceOf ⟨_, rfl, rfl⟩ (ly4_o (ly11_s1 h0)) (CX4_priceOf (ly11_s1 h0) h_r12) (by decide) rfl rfl (Nat.le_of_ble_eq_true rfl) ?_
        obtain ⟨r13, h_r13, h⟩ := Option.bind_eq_some_iff.mp h
        refine mx_cVi (mx_d tX11_proof_0 46 rfl) iX11_294 rfl vX11_noteFlaw ⟨_, rfl, rfl⟩ (ly11_o h0) (CX11_noteFlaw h0 h_r13) (by decide) rfl rfl (Nat.le_of_ble_eq_true rfl) ?_
        obtain rfl := Option.some.inj h
        exact mx_ireturn (mx_d tX11_proof_0 47 rfl) rfl ⟨rfl, rfl⟩
    · rw [if_neg hc4] at h
      refine mx_aload_n (mx_d tX11_proof_0 23 rfl) rfl rfl ?_
      refine mx_iconst (2) (mx_d tX11_proof_0 24 rfl) (by decide) ?_
      refine mx_iload_n (mx_d tX11_proof_0 25 rfl) rfl rfl ?_
      refine mx_aload_n (mx_d tX11_proof_0 26 rfl) rfl rfl ?_
      refine mx_getR (mx_d tX11_proof_0 27 rfl) fX11_19 rfl rfl (ly11_o h0) (ly11_r1 h0) ?_
      refine mx_iload_n (mx_d tX11_proof_0 28 rfl) rfl rfl ?_
      obtain ⟨r14, h_r14, h⟩ := Option.bind_eq_some_iff.mp h
      refine mx_cVi (mx_d tX11_proof_0 29 rfl) iX11_191 rfl vX4_slackOf ⟨_, rfl, rfl⟩ (ly4_o (ly11_s1 h0)) (CX4_slackOf (ly11_s1 h0) h_r14) (by decide) rfl rfl (Nat.le_of_ble_eq_true rfl) ?_
      obtain ⟨r15, h_r15, h⟩ := Option.bind_eq_some_iff.mp h
      refine mx_cVi (mx_d tX11_proof_0 30 rfl) iX11_294 rfl vX11_noteFlaw ⟨_, rfl, rfl⟩ (ly11_o h0) (CX11_noteFlaw h0 h_r15) (by decide) rfl rfl (Nat.le_of_ble_eq_true rfl) ?_
      obtain rfl := Option.some.inj h
      exact mx_ireturn (mx_d tX11_proof_0 31 rfl) rfl ⟨rfl, rfl⟩
  · rw [if_neg hc2] at h
    refine mx_aload_n (mx_d tX11_proof_0 7 rfl) rfl rfl ?_
    refine mx_iconst (1) (mx_d tX11_proof_0 8 rfl) (by decide) ?_
    refine mx_iload_n (mx_d tX11_proof_0 9 rfl) rfl rfl ?_
    refine mx_aload_n (mx_d tX11_proof_0 10 rfl) rfl rfl ?_
    refine mx_getR (mx_d tX11_proof_0 11 rfl) fX11_19 rfl rfl (ly11_o h0) (ly11_r1 h0) ?_
    refine mx_iload_n (mx_d tX11_proof_0 12 rfl) rfl rfl ?_
    obtain ⟨r16, h_r16, h⟩ := Option.bind_eq_some_iff.mp h
    refine mx_cVi (mx_d tX11_proof_0 13 rfl) iX11_191 rfl vX4_slackOf ⟨_, rfl, rfl⟩ (ly4_o (ly11_s1 h0)) (CX4_slackOf (ly11_s1 h0) h_r16) (by decide) rfl rfl (Nat.le_of_ble_eq_true rfl) ?_
    obtain ⟨r17, h_r17, h⟩ := Option.bind_eq_some_iff.mp h
    refine mx_cVi (mx_d tX11_proof_0 14 rfl) iX11_294 rfl vX11_noteFlaw ⟨_, rfl, rfl⟩ (ly11_o h0) (CX11_noteFlaw h0 h_r17) (by decide) rfl rfl (Nat.le_of_ble_eq_true rfl) ?_
    obtain rfl := Option.some.inj h
    exact mx_ireturn (mx_d tX11_proof_0 15 rfl) rfl ⟨rfl, rfl⟩
def FX11_proofAt (a : Nat) (m : mB) : Option Int32 := (some (m.1 a 16))
set_option maxRecDepth 20000 in
theorem CX11_proofAt {G : mG} {l : Launch} {e : mE} {a : Nat} {m : mB} {r : Int32} (h0 : ly11 e a) (h : FX11_proofAt a m = some r) : mx_Call G l MX11_proofAt 1 0 0 [.ref a] (e, m) (fun v z => v = some (.int r) ∧ z = (e, m)) := by
  refine mx_entry (L := [.ref a]) (by decide +kernel) (Nat.le_of_ble_eq_true rfl) rfl ?_
  unfold FX11_proofAt at h
  refine mx_aload_n (mx_d tX11_proofAt_0 0 rfl) rfl rfl ?_
  refine mx_getI (mx_d tX11_proofAt_0 1 rfl) fX11_102 rfl (Or.inl rfl) (ly11_o h0) ?_
  obtain rfl := Option.some.inj h
  exact mx_ireturn (mx_d tX11_proofAt_0 2 rfl) rfl ⟨rfl, rfl⟩
def FX11_room (a : Nat) (x0 : Int32) (m : mB) : Option Int32 := Option.bind (FX4_hasPoint (a + 4) x0 m) (fun r1 => (if r1 = 0 then (some (-1)) else Option.bind (FX4_roomOf (a + 4) x0 m) (fun r3 => (some r3))))
set_option maxRecDepth 20000 in
theorem CX11_room {G : mG} {l : Launch} {e : mE} {a : Nat} {x0 : Int32} {m : mB} {r : Int32} (h0 : ly11 e a) (h : FX11_room a x0 m = some r) : mx_Call G l MX11_room 5 0 0 [.ref a, .int x0] (e, m) (fun v z => v = some (.int r) ∧ z = (e, m)) := by
  refine mx_entry (L := [.ref a, .int x0]) (by decide +kernel) (Nat.le_of_ble_eq_true rfl) rfl ?_
  unfold FX11_room at h
  refine mx_aload_n (mx_d tX11_room_0 0 rfl) rfl rfl ?_
  refine mx_getR (mx_d tX11_room_0 1 rfl) fX11_19 rfl rfl (ly11_o h0) (ly11_r1 h0) ?_
  refine mx_iload_n (mx_d tX11_room_0 2 rfl) rfl rfl ?_
  obtain ⟨r1, h_r1, h⟩ := Option.bind_eq_some_iff.mp h
  refine mx_cVi (mx_d tX11_room_0 3 rfl) iX11_147 rfl vX4_hasPoint ⟨_, rfl, rfl⟩ (ly4_o (ly11_s1 h0)) (CX4_hasPoint (ly11_s1 h0) h_r1) (by decide) rfl rfl (Nat.le_of_ble_eq_true rfl) ?_
  refine mx_if_eq (tgt := 22) (mx_d tX11_room_0 4 rfl) (by decide) (fun hc2 => ?_) (fun hc2 => ?_)
  · rw [if_pos hc2] at h
    refine mx_iconst ((-1)) (mx_d tX11_room_0 10 rfl) (by decide) ?_
    obtain rfl := Option.some.inj h
    exact mx_ireturn (mx_d tX11_room_0 11 rfl) rfl ⟨rfl, rfl⟩
  · rw [if_neg hc2] at h
    refine mx_aload_n (mx_d tX11_room_0 5 rfl) rfl rfl ?_
    refine mx_getR (mx_d tX11_room_0 6 rfl) fX11_19 rfl rfl (ly11_o h0) (ly11_r1 h0) ?_
    refine mx_iload_n (mx_d tX11_room_0 7 rfl) rfl rfl ?_
    obtain ⟨r3, h_r3, h⟩ := Option.bind_eq_some_iff.mp h
    refine mx_cVi (mx_d tX11_room_0 8 rfl) iX11_309 rfl vX4_roomOf ⟨_, rfl, rfl⟩ (ly4_o (ly11_s1 h0)) (CX4_roomOf (ly11_s1 h0) h_r3) (by decide) rfl rfl (Nat.le_of_ble_eq_true rfl) ?_
    refine mx_goto (tgt := 23) (mx_d tX11_room_0 9 rfl) (by decide) ?_
    obtain rfl := Option.some.inj h
    exact mx_ireturn (mx_d tX11_room_0 11 rfl) rfl ⟨rfl, rfl⟩
def FX11_best (a : Nat) (m : mB) : Option (Int32 × mB) := Option.bind (FX2_lookAt (a + 45) (a + 4) m) (fun r1 => Option.bind (FX2_bestInto (a + 45) (a + 66) r1) (fun r2 => Option.bind (FX2_top (a + 45) r2) (fun r3 => (some (r3, r2)))))
set_option maxRecDepth 20000 in
theorem CX11_best {G : mG} {l : Launch} {e : mE} {a : Nat} {m : mB} {r : (Int32 × mB)} (h0 : ly11 e a) (h : FX11_best a m = some r) : mx_Call G l MX11_best 258 0 0 [.ref a] (e, m) (fun v z => v = some (.int r.1) ∧ z = (e, r.2)) := by
  refine mx_entry (L := [.ref a]) (by decide +kernel) (Nat.le_of_ble_eq_true rfl) rfl ?_
  unfold FX11_best at h
  refine mx_aload_n (mx_d tX11_best_0 0 rfl) rfl rfl ?_
  refine mx_getR (mx_d tX11_best_0 1 rfl) fX11_55 rfl rfl (ly11_o h0) (ly11_r7 h0) ?_
  refine mx_aload_n (mx_d tX11_best_0 2 rfl) rfl rfl ?_
  refine mx_getR (mx_d tX11_best_0 3 rfl) fX11_19 rfl rfl (ly11_o h0) (ly11_r1 h0) ?_
  obtain ⟨r1, h_r1, h⟩ := Option.bind_eq_some_iff.mp h
  refine mx_cVv (mx_d tX11_best_0 4 rfl) iX11_185 rfl vX2_lookAt ⟨_, rfl, rfl⟩ (ly2_o (ly11_s7 h0)) (CX2_lookAt (ly11_s7 h0) (ly11_s1 h0) h_r1) (by decide) rfl rfl (Nat.le_of_ble_eq_true rfl) ?_
  refine mx_aload_n (mx_d tX11_best_0 5 rfl) rfl rfl ?_
  refine mx_getR (mx_d tX11_best_0 6 rfl) fX11_55 rfl rfl (ly11_o h0) (ly11_r7 h0) ?_
  refine mx_aload_n (mx_d tX11_best_0 7 rfl) rfl rfl ?_
  refine mx_getR (mx_d tX11_best_0 8 rfl) fX11_59 rfl rfl (ly11_o h0) (ly11_r8 h0) ?_
  obtain ⟨r2, h_r2, h⟩ := Option.bind_eq_some_iff.mp h
  refine mx_cVv (mx_d tX11_best_0 9 rfl) iX11_312 rfl vX2_bestInto ⟨_, rfl, rfl⟩ (ly2_o (ly11_s7 h0)) (CX2_bestInto (ly11_s7 h0) (ly11_s8 h0) h_r2) (by decide) rfl rfl (Nat.le_of_ble_eq_true rfl) ?_
  refine mx_aload_n (mx_d tX11_best_0 10 rfl) rfl rfl ?_
  refine mx_getR (mx_d tX11_best_0 11 rfl) fX11_55 rfl rfl (ly11_o h0) (ly11_r7 h0) ?_
  obtain ⟨r3, h_r3, h⟩ := Option.bind_eq_some_iff.mp h
  refine mx_cVi (mx_d tX11_best_0 12 rfl) iX11_315 rfl vX2_top ⟨_, rfl, rfl⟩ (ly2_o (ly11_s7 h0)) (CX2_top (ly11_s7 h0) h_r3) (by decide) rfl rfl (Nat.le_of_ble_eq_true rfl) ?_
  obtain rfl := Option.some.inj h
  exact mx_ireturn (mx_d tX11_best_0 13 rfl) rfl ⟨rfl, rfl⟩
def FX11_bestOf (a : Nat) (x0 : Int32) (m : mB) : Option Int32 := Option.bind (FX7_at (a + 66) x0 m) (fun r1 => (some r1))
set_option maxRecDepth 20000 in
theorem CX11_bestOf {G : mG} {l : Launch} {e : mE} {a : Nat} {x0 : Int32} {m : mB} {r : Int32} (h0 : ly11 e a) (h : FX11_bestOf a x0 m = some r) : mx_Call G l MX11_bestOf 2 0 0 [.ref a, .int x0] (e, m) (fun v z => v = some (.int r) ∧ z = (e, m)) := by
  refine mx_entry (L := [.ref a, .int x0]) (by decide +kernel) (Nat.le_of_ble_eq_true rfl) rfl ?_
  unfold FX11_bestOf at h
  refine mx_aload_n (mx_d tX11_bestOf_0 0 rfl) rfl rfl ?_
  refine mx_getR (mx_d tX11_bestOf_0 1 rfl) fX11_59 rfl rfl (ly11_o h0) (ly11_r8 h0) ?_
  refine mx_iload_n (mx_d tX11_bestOf_0 2 rfl) rfl rfl ?_
  obtain ⟨r1, h_r1, h⟩ := Option.bind_eq_some_iff.mp h
  refine mx_cVi (mx_d tX11_bestOf_0 3 rfl) iX11_274 rfl vX7_at ⟨_, rfl, rfl⟩ (ly7_o (ly11_s8 h0)) (CX7_at (ly11_s8 h0) h_r1) (by decide) rfl rfl (Nat.le_of_ble_eq_true rfl) ?_
  obtain rfl := Option.some.inj h
  exact mx_ireturn (mx_d tX11_bestOf_0 4 rfl) rfl ⟨rfl, rfl⟩
def FX11_next (a : Nat) (m : mB) : Option (Int32 × mB) := Option.bind (FX2_lookAt (a + 45) (a + 4) m) (fun r1 => Option.bind (FX2_second (a + 45) r1) (fun r2 => (some (r2, r1))))
set_option maxRecDepth 20000 in
theorem CX11_next {G : mG} {l : Launch} {e : mE} {a : Nat} {m : mB} {r : (Int32 × mB)} (h0 : ly11 e a) (h : FX11_next a m = some r) : mx_Call G l MX11_next 258 0 0 [.ref a] (e, m) (fun v z => v = some (.int r.1) ∧ z = (e, r.2)) := by
  refine mx_entry (L := [.ref a]) (by decide +kernel) (Nat.le_of_ble_eq_true rfl) rfl ?_
  unfold FX11_next at h
  refine mx_aload_n (mx_d tX11_next_0 0 rfl) rfl rfl ?_
  refine mx_getR (mx_d tX11_next_0 1 rfl) fX11_55 rfl rfl (ly11_o h0) (ly11_r7 h0) ?_
  refine mx_aload_n (mx_d tX11_next_0 2 rfl) rfl rfl ?_
  refine mx_getR (mx_d tX11_next_0 3 rfl) fX11_19 rfl rfl (ly11_o h0) (ly11_r1 h0) ?_
  obtain ⟨r1, h_r1, h⟩ := Option.bind_eq_some_iff.mp h
  refine mx_cVv (mx_d tX11_next_0 4 rfl) iX11_185 rfl vX2_lookAt ⟨_, rfl, rfl⟩ (ly2_o (ly11_s7 h0)) (CX2_lookAt (ly11_s7 h0) (ly11_s1 h0) h_r1) (by decide) rfl rfl (Nat.le_of_ble_eq_true rfl) ?_
  refine mx_aload_n (mx_d tX11_next_0 5 rfl) rfl rfl ?_
  refine mx_getR (mx_d tX11_next_0 6 rfl) fX11_55 rfl rfl (ly11_o h0) (ly11_r7 h0) ?_
  obtain ⟨r2, h_r2, h⟩ := Option.bind_eq_some_iff.mp h
  refine mx_cVi (mx_d tX11_next_0 7 rfl) iX11_318 rfl vX2_second ⟨_, rfl, rfl⟩ (ly2_o (ly11_s7 h0)) (CX2_second (ly11_s7 h0) h_r2) (by decide) rfl rfl (Nat.le_of_ble_eq_true rfl) ?_
  obtain rfl := Option.some.inj h
  exact mx_ireturn (mx_d tX11_next_0 8 rfl) rfl ⟨rfl, rfl⟩
def FX11_heavy (a : Nat) (x0 : Int32) (m : mB) : Option (Int32 × mB) := Option.bind (FX2_lookAt (a + 45) (a + 4) m) (fun r1 => Option.bind (FX2_heaviestOf (a + 45) x0 r1) (fun r2 => (some (r2, r1))))
set_option maxRecDepth 20000 in
theorem CX11_heavy {G : mG} {l : Launch} {e : mE} {a : Nat} {x0 : Int32} {m : mB} {r : (Int32 × mB)} (h0 : ly11 e a) (h : FX11_heavy a x0 m = some r) : mx_Call G l MX11_heavy 258 0 0 [.ref a, .int x0] (e, m) (fun v z => v = some (.int r.1) ∧ z = (e, r.2)) := by
  refine mx_entry (L := [.ref a, .int x0]) (by decide +kernel) (Nat.le_of_ble_eq_true rfl) rfl ?_
  unfold FX11_heavy at h
  refine mx_aload_n (mx_d tX11_heavy_0 0 rfl) rfl rfl ?_
  refine mx_getR (mx_d tX11_heavy_0 1 rfl) fX11_55 rfl rfl (ly11_o h0) (ly11_r7 h0) ?_
  refine mx_aload_n (mx_d tX11_heavy_0 2 rfl) rfl rfl ?_
  refine mx_getR (mx_d tX11_heavy_0 3 rfl) fX11_19 rfl rfl (ly11_o h0) (ly11_r1 h0) ?_
  obtain ⟨r1, h_r1, h⟩ := Option.bind_eq_some_iff.mp h
  refine mx_cVv (mx_d tX11_heavy_0 4 rfl) iX11_185 rfl vX2_lookAt ⟨_, rfl, rfl⟩ (ly2_o (ly11_s7 h0)) (CX2_lookAt (ly11_s7 h0) (ly11_s1 h0) h_r1) (by decide) rfl rfl (Nat.le_of_ble_eq_true rfl) ?_
  refine mx_aload_n (mx_d tX11_heavy_0 5 rfl) rfl rfl ?_
  refine mx_getR (mx_d tX11_heavy_0 6 rfl) fX11_55 rfl rfl (ly11_o h0) (ly11_r7 h0) ?_
  refine mx_iload_n (mx_d tX11_heavy_0 7 rfl) rfl rfl ?_
  obtain ⟨r2, h_r2, h⟩ := Option.bind_eq_some_iff.mp h
  refine mx_cVi (mx_d tX11_heavy_0 8 rfl) iX11_321 rfl vX2_heaviestOf ⟨_, rfl, rfl⟩ (ly2_o (ly11_s7 h0)) (CX2_heaviestOf (ly11_s7 h0) h_r2) (by decide) rfl rfl (Nat.le_of_ble_eq_true rfl) ?_
  obtain rfl := Option.some.inj h
  exact mx_ireturn (mx_d tX11_heavy_0 9 rfl) rfl ⟨rfl, rfl⟩
def FX11_ways (a : Nat) (x0 : Int32) (m : mB) : Option (Int32 × mB) := Option.bind (FX2_lookAt (a + 45) (a + 4) m) (fun r1 => Option.bind (FX2_countOf (a + 45) x0 r1) (fun r2 => (some (r2, r1))))
set_option maxRecDepth 20000 in
theorem CX11_ways {G : mG} {l : Launch} {e : mE} {a : Nat} {x0 : Int32} {m : mB} {r : (Int32 × mB)} (h0 : ly11 e a) (h : FX11_ways a x0 m = some r) : mx_Call G l MX11_ways 258 0 0 [.ref a, .int x0] (e, m) (fun v z => v = some (.int r.1) ∧ z = (e, r.2)) := by
  refine mx_entry (L := [.ref a, .int x0]) (by decide +kernel) (Nat.le_of_ble_eq_true rfl) rfl ?_
  unfold FX11_ways at h
  refine mx_aload_n (mx_d tX11_ways_0 0 rfl) rfl rfl ?_
  refine mx_getR (mx_d tX11_ways_0 1 rfl) fX11_55 rfl rfl (ly11_o h0) (ly11_r7 h0) ?_
  refine mx_aload_n (mx_d tX11_ways_0 2 rfl) rfl rfl ?_
  refine mx_getR (mx_d tX11_ways_0 3 rfl) fX11_19 rfl rfl (ly11_o h0) (ly11_r1 h0) ?_
  obtain ⟨r1, h_r1, h⟩ := Option.bind_eq_some_iff.mp h
  refine mx_cVv (mx_d tX11_ways_0 4 rfl) iX11_185 rfl vX2_lookAt ⟨_, rfl, rfl⟩ (ly2_o (ly11_s7 h0)) (CX2_lookAt (ly11_s7 h0) (ly11_s1 h0) h_r1) (by decide) rfl rfl (Nat.le_of_ble_eq_true rfl) ?_
  refine mx_aload_n (mx_d tX11_ways_0 5 rfl) rfl rfl ?_
  refine mx_getR (mx_d tX11_ways_0 6 rfl) fX11_55 rfl rfl (ly11_o h0) (ly11_r7 h0) ?_
  refine mx_iload_n (mx_d tX11_ways_0 7 rfl) rfl rfl ?_
  obtain ⟨r2, h_r2, h⟩ := Option.bind_eq_some_iff.mp h
  refine mx_cVi (mx_d tX11_ways_0 8 rfl) iX11_324 rfl vX2_countOf ⟨_, rfl, rfl⟩ (ly2_o (ly11_s7 h0)) (CX2_countOf (ly11_s7 h0) h_r2) (by decide) rfl rfl (Nat.le_of_ble_eq_true rfl) ?_
  obtain rfl := Option.some.inj h
  exact mx_ireturn (mx_d tX11_ways_0 9 rfl) rfl ⟨rfl, rfl⟩
def FX11_gain (a : Nat) (m : mB) : Option (Int32 × mB) := Option.bind (FX9_greatestGain (a + 38) (a + 4) m) (fun r1 => (some (r1.1, r1.2)))
set_option maxRecDepth 20000 in
theorem CX11_gain {G : mG} {l : Launch} {e : mE} {a : Nat} {m : mB} {r : (Int32 × mB)} (h0 : ly11 e a) (h : FX11_gain a m = some r) : mx_Call G l MX11_gain 258 0 0 [.ref a] (e, m) (fun v z => v = some (.int r.1) ∧ z = (e, r.2)) := by
  refine mx_entry (L := [.ref a]) (by decide +kernel) (Nat.le_of_ble_eq_true rfl) rfl ?_
  unfold FX11_gain at h
  refine mx_aload_n (mx_d tX11_gain_0 0 rfl) rfl rfl ?_
  refine mx_getR (mx_d tX11_gain_0 1 rfl) fX11_36 rfl rfl (ly11_o h0) (ly11_r4 h0) ?_
  refine mx_aload_n (mx_d tX11_gain_0 2 rfl) rfl rfl ?_
  refine mx_getR (mx_d tX11_gain_0 3 rfl) fX11_19 rfl rfl (ly11_o h0) (ly11_r1 h0) ?_
  obtain ⟨r1, h_r1, h⟩ := Option.bind_eq_some_iff.mp h
  refine mx_cVi (mx_d tX11_gain_0 4 rfl) iX11_327 rfl vX9_greatestGain ⟨_, rfl, rfl⟩ (ly9_o (ly11_s4 h0)) (CX9_greatestGain (ly11_s4 h0) (ly11_s1 h0) h_r1) (by decide) rfl rfl (Nat.le_of_ble_eq_true rfl) ?_
  obtain rfl := Option.some.inj h
  exact mx_ireturn (mx_d tX11_gain_0 5 rfl) rfl ⟨rfl, rfl⟩
def FX11_isAsking_L29 (q0 : Nat) (y1 : Int32) (m : mB) : Nat → Int32 → Option (Int32 ⊕ (Unit))
  | 0, _ => none
  | f + 1, y2 => (if y1 ≤ y2 then (some (.inr ())) else Option.bind (FX10_signAt (q0 + 1) (y2 + 1) m) (fun r6 => Option.bind (FX10_signAt (q0 + 1) y2 m) (fun r7 => Option.bind (FX4_hasPoint (q0 + 4) r7 m) (fun r8 => (if r8 = 0 then (some (.inl 0)) else (if r6 = 255 then mx_let (y2 + 2) (fun v11 => (FX11_isAsking_L29 q0 y1 m f v11)) else Option.bind (FX4_hasPoint (q0 + 4) r6 m) (fun r12 => (if r12 = 0 then (some (.inl 0)) else mx_let (y2 + 2) (fun v14 => (FX11_isAsking_L29 q0 y1 m f v14))))))))))
set_option maxRecDepth 20000 in
theorem CX11_isAsking_L29 {G : mG} {l : Launch} {e : mE} {Post : Option Value → mS → Prop} {q0 : Nat} {y1 : Int32} {m : mB} (g0 : ly11 e q0) : ∀ (f : Nat) {y2 : Int32} {q : (Int32 ⊕ (Unit))}, FX11_isAsking_L29 q0 y1 m f y2 = some q → (∀ rr, q = .inl rr → Post (some (.int rr)) (e, m)) → (∀ u, q = .inr u → mx_Fr G l MX11_isAsking 2 0 0 Post 89 [.float 0, .float 0, .float 0, .float 0] [] (e, m)) → mx_Fr G l MX11_isAsking 2 0 0 Post 29 [.ref q0, .int y1, .int y2, .float 0] [] (e, m) := by
  intro f
  induction f with
  | zero => intro _ _ h; cases h
  | succ f ih =>
    intro y2 q h hret hex
    rw [FX11_isAsking_L29] at h
    refine mx_iload_n (mx_d tX11_isAsking_0 18 rfl) rfl rfl ?_
    refine mx_iload_n (mx_d tX11_isAsking_0 19 rfl) rfl rfl ?_
    refine mx_icmp_ge (tgt := 89) (mx_d tX11_isAsking_0 20 rfl) (by decide) (fun hc5 => ?_) (fun hc5 => ?_)
    · rw [if_pos hc5] at h
      obtain rfl := Option.some.inj h
      refine mx_forget (L' := [.float 0, .float 0, .float 0, .float 0]) trivial ?_
      exact (hex _ rfl)
    · rw [if_neg hc5] at h
      refine mx_aload_n (mx_d tX11_isAsking_0 21 rfl) rfl rfl ?_
      refine mx_getR (mx_d tX11_isAsking_0 22 rfl) fX11_10 rfl rfl (ly11_o g0) (ly11_r0 g0) ?_
      refine mx_iload_n (mx_d tX11_isAsking_0 23 rfl) rfl rfl ?_
      refine mx_iconst (1) (mx_d tX11_isAsking_0 24 rfl) (by decide) ?_
      refine mx_iadd (mx_d tX11_isAsking_0 25 rfl) ?_
      obtain ⟨r6, h_r6, h⟩ := Option.bind_eq_some_iff.mp h
      refine mx_cVi (mx_d tX11_isAsking_0 26 rfl) iX11_337 rfl vX10_signAt ⟨_, rfl, rfl⟩ (ly10_o (ly11_s0 g0)) (CX10_signAt (ly11_s0 g0) h_r6) (by decide) rfl rfl (Nat.le_of_ble_eq_true rfl) ?_
      refine mx_istore_n (L2 := [.ref q0, .int y1, .int y2, .int r6]) (mx_d tX11_isAsking_0 27 rfl) rfl (by decide) (by rfl) ?_
      refine mx_aload_n (mx_d tX11_isAsking_0 28 rfl) rfl rfl ?_
      refine mx_getR (mx_d tX11_isAsking_0 29 rfl) fX11_19 rfl rfl (ly11_o g0) (ly11_r1 g0) ?_
      refine mx_aload_n (mx_d tX11_isAsking_0 30 rfl) rfl rfl ?_
      refine mx_getR (mx_d tX11_isAsking_0 31 rfl) fX11_10 rfl rfl (ly11_o g0) (ly11_r0 g0) ?_
      refine mx_iload_n (mx_d tX11_isAsking_0 32 rfl) rfl rfl ?_
      obtain ⟨r7, h_r7, h⟩ := Option.bind_eq_some_iff.mp h
      refine mx_cVi (mx_d tX11_isAsking_0 33 rfl) iX11_337 rfl vX10_signAt ⟨_, rfl, rfl⟩ (ly10_o (ly11_s0 g0)) (CX10_signAt (ly11_s0 g0) h_r7) (by decide) rfl rfl (Nat.le_of_ble_eq_true rfl) ?_
      obtain ⟨r8, h_r8, h⟩ := Option.bind_eq_some_iff.mp h
      refine mx_cVi (mx_d tX11_isAsking_0 34 rfl) iX11_147 rfl vX4_hasPoint ⟨_, rfl, rfl⟩ (ly4_o (ly11_s1 g0)) (CX4_hasPoint (ly11_s1 g0) h_r8) (by decide) rfl rfl (Nat.le_of_ble_eq_true rfl) ?_
      refine mx_if_eq (tgt := 81) (mx_d tX11_isAsking_0 35 rfl) (by decide) (fun hc9 => ?_) (fun hc9 => ?_)
      · rw [if_pos hc9] at h
        refine mx_iconst (0) (mx_d tX11_isAsking_0 44 rfl) (by decide) ?_
        obtain rfl := Option.some.inj h
        exact mx_zreturn (mx_d tX11_isAsking_0 45 rfl) rfl rfl (hret _ rfl)
      · rw [if_neg hc9] at h
        refine mx_iload_n (mx_d tX11_isAsking_0 36 rfl) rfl rfl ?_
        refine mx_sipush (255) (mx_d tX11_isAsking_0 37 rfl) (by decide) ?_
        refine mx_icmp_eq (tgt := 83) (mx_d tX11_isAsking_0 38 rfl) (by decide) (fun hc10 => ?_) (fun hc10 => ?_)
        · rw [if_pos hc10] at h
          obtain ⟨v11, e_v11, h⟩ := mx_letE h
          refine mx_iinc v11 (L2 := [.ref q0, .int y1, .int v11, .int r6]) (mx_d tX11_isAsking_0 46 rfl) rfl (by rw [e_v11]; rfl) (by decide) rfl ?_
          refine mx_goto (tgt := 29) (mx_d tX11_isAsking_0 47 rfl) (by decide) ?_
          refine mx_forget (L' := [.ref q0, .int y1, .int v11, .float 0]) ⟨rfl, rfl, rfl, trivial⟩ ?_
          exact ih h hret hex
        · rw [if_neg hc10] at h
          refine mx_aload_n (mx_d tX11_isAsking_0 39 rfl) rfl rfl ?_
          refine mx_getR (mx_d tX11_isAsking_0 40 rfl) fX11_19 rfl rfl (ly11_o g0) (ly11_r1 g0) ?_
          refine mx_iload_n (mx_d tX11_isAsking_0 41 rfl) rfl rfl ?_
          obtain ⟨r12, h_r12, h⟩ := Option.bind_eq_some_iff.mp h
          refine mx_cVi (mx_d tX11_isAsking_0 42 rfl) iX11_147 rfl vX4_hasPoint ⟨_, rfl, rfl⟩ (ly4_o (ly11_s1 g0)) (CX4_hasPoint (ly11_s1 g0) h_r12) (by decide) rfl rfl (Nat.le_of_ble_eq_true rfl) ?_
          refine mx_if_ne (tgt := 83) (mx_d tX11_isAsking_0 43 rfl) (by decide) (fun hc13 => ?_) (fun hc13 => ?_)
          · rw [if_neg hc13] at h
            obtain ⟨v14, e_v14, h⟩ := mx_letE h
            refine mx_iinc v14 (L2 := [.ref q0, .int y1, .int v14, .int r6]) (mx_d tX11_isAsking_0 46 rfl) rfl (by rw [e_v14]; rfl) (by decide) rfl ?_
            refine mx_goto (tgt := 29) (mx_d tX11_isAsking_0 47 rfl) (by decide) ?_
            refine mx_forget (L' := [.ref q0, .int y1, .int v14, .float 0]) ⟨rfl, rfl, rfl, trivial⟩ ?_
            exact ih h hret hex
          · rw [if_pos hc13] at h
            refine mx_iconst (0) (mx_d tX11_isAsking_0 44 rfl) (by decide) ?_
            obtain rfl := Option.some.inj h
            exact mx_zreturn (mx_d tX11_isAsking_0 45 rfl) rfl rfl (hret _ rfl)
def FX11_isAsking (a : Nat) (m : mB) : Option Int32 := Option.bind (FX10_length (a + 1) m) (fun r1 => (if r1 < 2 then (some 0) else (if 12 < r1 then (some 0) else (if (r1 - r1 / 2 * 2) = 0 then Option.bind (FX11_isAsking_L29 a r1 m mx_FU 0) (fun q15 => Sum.elim (fun rr => some rr) (fun u16 => (some 1)) q15) else (some 0)))))
set_option maxRecDepth 20000 in
theorem CX11_isAsking {G : mG} {l : Launch} {e : mE} {a : Nat} {m : mB} {r : Int32} (h0 : ly11 e a) (h : FX11_isAsking a m = some r) : mx_Call G l MX11_isAsking 2 0 0 [.ref a] (e, m) (fun v z => v = some (.int r) ∧ z = (e, m)) := by
  refine mx_entry (L := [.ref a, .float 0, .float 0, .float 0]) (by decide +kernel) (Nat.le_of_ble_eq_true rfl) rfl ?_
  unfold FX11_isAsking at h
  refine mx_aload_n (mx_d tX11_isAsking_0 0 rfl) rfl rfl ?_
  refine mx_getR (mx_d tX11_isAsking_0 1 rfl) fX11_10 rfl rfl (ly11_o h0) (ly11_r0 h0) ?_
  obtain ⟨r1, h_r1, h⟩ := Option.bind_eq_some_iff.mp h
  refine mx_cVi (mx_d tX11_isAsking_0 2 rfl) iX11_110 rfl vX10_length ⟨_, rfl, rfl⟩ (ly10_o (ly11_s0 h0)) (CX10_length (ly11_s0 h0) h_r1) (by decide) rfl rfl (Nat.le_of_ble_eq_true rfl) ?_
  refine mx_istore_n (L2 := [.ref a, .int r1, .float 0, .float 0]) (mx_d tX11_isAsking_0 3 rfl) rfl (by decide) (by rfl) ?_
  refine mx_iload_n (mx_d tX11_isAsking_0 4 rfl) rfl rfl ?_
  refine mx_iconst (2) (mx_d tX11_isAsking_0 5 rfl) (by decide) ?_
  refine mx_icmp_lt (tgt := 25) (mx_d tX11_isAsking_0 6 rfl) (by decide) (fun hc2 => ?_) (fun hc2 => ?_)
  · rw [if_pos hc2] at h
    refine mx_iconst (0) (mx_d tX11_isAsking_0 14 rfl) (by decide) ?_
    obtain rfl := Option.some.inj h
    exact mx_zreturn (mx_d tX11_isAsking_0 15 rfl) rfl rfl ⟨rfl, rfl⟩
  · rw [if_neg hc2] at h
    refine mx_iload_n (mx_d tX11_isAsking_0 7 rfl) rfl rfl ?_
    refine mx_bipush (12) (mx_d tX11_isAsking_0 8 rfl) (by decide) ?_
    refine mx_icmp_gt (tgt := 25) (mx_d tX11_isAsking_0 9 rfl) (by decide) (fun hc3 => ?_) (fun hc3 => ?_)
    · rw [if_pos hc3] at h
      refine mx_iconst (0) (mx_d tX11_isAsking_0 14 rfl) (by decide) ?_
      obtain rfl := Option.some.inj h
      exact mx_zreturn (mx_d tX11_isAsking_0 15 rfl) rfl rfl ⟨rfl, rfl⟩
    · rw [if_neg hc3] at h
      refine mx_iload_n (mx_d tX11_isAsking_0 10 rfl) rfl rfl ?_
      refine mx_iconst (2) (mx_d tX11_isAsking_0 11 rfl) (by decide) ?_
      refine mx_irem (mx_d tX11_isAsking_0 12 rfl) (by decide) ?_
      refine mx_if_eq (tgt := 27) (mx_d tX11_isAsking_0 13 rfl) (by decide) (fun hc4 => ?_) (fun hc4 => ?_)
      · rw [if_pos hc4] at h
        refine mx_iconst (0) (mx_d tX11_isAsking_0 16 rfl) (by decide) ?_
        refine mx_istore_n (L2 := [.ref a, .int r1, .int 0, .float 0]) (mx_d tX11_isAsking_0 17 rfl) rfl (by decide) (by rfl) ?_
        obtain ⟨q15, h_q15, h⟩ := Option.bind_eq_some_iff.mp h
        refine CX11_isAsking_L29 h0 mx_FU h_q15 (fun rr17 e_rr17 => ?_) (fun u16 e_u16 => ?_)
        · subst e_rr17
          rw [Sum.elim_inl] at h
          obtain rfl := Option.some.inj h
          exact ⟨rfl, rfl⟩
        · subst e_u16
          rw [Sum.elim_inr] at h
          refine mx_iconst (1) (mx_d tX11_isAsking_0 48 rfl) (by decide) ?_
          obtain rfl := Option.some.inj h
          exact mx_zreturn (mx_d tX11_isAsking_0 49 rfl) rfl rfl ⟨rfl, rfl⟩
      · rw [if_neg hc4] at h
        refine mx_iconst (0) (mx_d tX11_isAsking_0 14 rfl) (by decide) ?_
        obtain rfl := Option.some.inj h
        exact mx_zreturn (mx_d tX11_isAsking_0 15 rfl) rfl rfl ⟨rfl, rfl⟩
def FX11_who_L29 (q0 : Nat) : Nat → Int32 → mB → Option (mB)
  | 0, _, _ => none
  | f + 1, y2, m => Option.bind (FX10_length (q0 + 1) m) (fun r12 => (if r12 ≤ (y2 + 1) then (some (m)) else Option.bind (FX10_signAt (q0 + 1) y2 m) (fun r14 => Option.bind (FX10_signAt (q0 + 1) (y2 + 1) m) (fun r15 => Option.bind (FX2_want (q0 + 45) r14 r15 m) (fun r16 => mx_let (y2 + 2) (fun v17 => (FX11_who_L29 q0 f v17 r16)))))))
set_option maxRecDepth 20000 in
theorem CX11_who_L29 {G : mG} {l : Launch} {e : mE} {Post : Option Value → mS → Prop} {q0 : Nat} (g0 : ly11 e q0) : ∀ (f : Nat) {y2 : Int32} {m : mB} {q : (mB)}, FX11_who_L29 q0 f y2 m = some q → (mx_Fr G l MX11_who 322 0 0 Post 73 [.ref q0, .float 0, .float 0] [] (e, q)) → mx_Fr G l MX11_who 322 0 0 Post 29 [.ref q0, .float 0, .int y2] [] (e, m) := by
  intro f
  induction f with
  | zero => intro _ _ _ h; cases h
  | succ f ih =>
    intro y2 m q h hex
    rw [FX11_who_L29] at h
    refine mx_iload_n (mx_d tX11_who_0 15 rfl) rfl rfl ?_
    refine mx_iconst (1) (mx_d tX11_who_0 16 rfl) (by decide) ?_
    refine mx_iadd (mx_d tX11_who_0 17 rfl) ?_
    refine mx_aload_n (mx_d tX11_who_0 18 rfl) rfl rfl ?_
    refine mx_getR (mx_d tX11_who_0 19 rfl) fX11_10 rfl rfl (ly11_o g0) (ly11_r0 g0) ?_
    obtain ⟨r12, h_r12, h⟩ := Option.bind_eq_some_iff.mp h
    refine mx_cVi (mx_d tX11_who_0 20 rfl) iX11_110 rfl vX10_length ⟨_, rfl, rfl⟩ (ly10_o (ly11_s0 g0)) (CX10_length (ly11_s0 g0) h_r12) (by decide) rfl rfl (Nat.le_of_ble_eq_true rfl) ?_
    refine mx_icmp_ge (tgt := 73) (mx_d tX11_who_0 21 rfl) (by decide) (fun hc13 => ?_) (fun hc13 => ?_)
    · rw [if_pos hc13] at h
      obtain rfl := Option.some.inj h
      refine mx_forget (L' := [.ref q0, .float 0, .float 0]) ⟨rfl, trivial⟩ ?_
      exact hex
    · rw [if_neg hc13] at h
      refine mx_aload_n (mx_d tX11_who_0 22 rfl) rfl rfl ?_
      refine mx_getR (mx_d tX11_who_0 23 rfl) fX11_55 rfl rfl (ly11_o g0) (ly11_r7 g0) ?_
      refine mx_aload_n (mx_d tX11_who_0 24 rfl) rfl rfl ?_
      refine mx_getR (mx_d tX11_who_0 25 rfl) fX11_10 rfl rfl (ly11_o g0) (ly11_r0 g0) ?_
      refine mx_iload_n (mx_d tX11_who_0 26 rfl) rfl rfl ?_
      obtain ⟨r14, h_r14, h⟩ := Option.bind_eq_some_iff.mp h
      refine mx_cVi (mx_d tX11_who_0 27 rfl) iX11_337 rfl vX10_signAt ⟨_, rfl, rfl⟩ (ly10_o (ly11_s0 g0)) (CX10_signAt (ly11_s0 g0) h_r14) (by decide) rfl rfl (Nat.le_of_ble_eq_true rfl) ?_
      refine mx_aload_n (mx_d tX11_who_0 28 rfl) rfl rfl ?_
      refine mx_getR (mx_d tX11_who_0 29 rfl) fX11_10 rfl rfl (ly11_o g0) (ly11_r0 g0) ?_
      refine mx_iload_n (mx_d tX11_who_0 30 rfl) rfl rfl ?_
      refine mx_iconst (1) (mx_d tX11_who_0 31 rfl) (by decide) ?_
      refine mx_iadd (mx_d tX11_who_0 32 rfl) ?_
      obtain ⟨r15, h_r15, h⟩ := Option.bind_eq_some_iff.mp h
      refine mx_cVi (mx_d tX11_who_0 33 rfl) iX11_337 rfl vX10_signAt ⟨_, rfl, rfl⟩ (ly10_o (ly11_s0 g0)) (CX10_signAt (ly11_s0 g0) h_r15) (by decide) rfl rfl (Nat.le_of_ble_eq_true rfl) ?_
      obtain ⟨r16, h_r16, h⟩ := Option.bind_eq_some_iff.mp h
      refine mx_cVv (mx_d tX11_who_0 34 rfl) iX11_340 rfl vX2_want ⟨_, rfl, rfl⟩ (ly2_o (ly11_s7 g0)) (CX2_want (ly11_s7 g0) h_r16) (by decide) rfl rfl (Nat.le_of_ble_eq_true rfl) ?_
      obtain ⟨v17, e_v17, h⟩ := mx_letE h
      refine mx_iinc v17 (L2 := [.ref q0, .float 0, .int v17]) (mx_d tX11_who_0 35 rfl) rfl (by rw [e_v17]; rfl) (by decide) rfl ?_
      refine mx_goto (tgt := 29) (mx_d tX11_who_0 36 rfl) (by decide) ?_
      exact ih h hex
def FX11_who (a : Nat) (m : mB) : Option (Int32 × mB) := Option.bind (FX11_isAsking a m) (fun r1 => mx_let (fun (y3 : Int32) (m4 : mB) => Option.bind (FX10_cut (a + 1) 0 m4) (fun r6 => (if y3 ≤ 0 then (some (y3, r6)) else Option.bind (FX2_mostTelling (a + 45) r6) (fun r8 => mx_let (mx_up r6.1 a 18 r8, r6.2) (fun m9 => (some (y3, m9))))))) (fun k5 => (if r1 = 0 then (k5 (-1) m) else Option.bind (FX2_lookAt (a + 45) (a + 4) m) (fun r10 => Option.bind (FX2_wantNothing (a + 45) r10) (fun r11 => Option.bind (FX11_who_L29 a mx_FU 0 r11) (fun q18 => Option.bind (FX2_countWanted (a + 45) q18) (fun r19 => (k5 r19.1 r19.2))))))))
set_option maxRecDepth 20000 in
theorem CX11_who {G : mG} {l : Launch} {e : mE} {a : Nat} {m : mB} {r : (Int32 × mB)} (h0 : ly11 e a) (h : FX11_who a m = some r) : mx_Call G l MX11_who 322 0 0 [.ref a] (e, m) (fun v z => v = some (.int r.1) ∧ z = (e, r.2)) := by
  refine mx_entry (L := [.ref a, .float 0, .float 0]) (by decide +kernel) (Nat.le_of_ble_eq_true rfl) rfl ?_
  unfold FX11_who at h
  refine mx_iconst ((-1)) (mx_d tX11_who_0 0 rfl) (by decide) ?_
  refine mx_istore_n (L2 := [.ref a, .int (-1), .float 0]) (mx_d tX11_who_0 1 rfl) rfl (by decide) (by rfl) ?_
  refine mx_aload_n (mx_d tX11_who_0 2 rfl) rfl rfl ?_
  obtain ⟨r1, h_r1, h⟩ := Option.bind_eq_some_iff.mp h
  refine mx_cVi (mx_d tX11_who_0 3 rfl) iX11_330 rfl vX11_isAsking ⟨_, rfl, rfl⟩ (ly11_o h0) (CX11_isAsking h0 h_r1) (by decide) rfl rfl (Nat.le_of_ble_eq_true rfl) ?_
  refine mx_letK (J := fun k5 => ∀ {y3 : Int32} {m4 : mB}, k5 y3 m4 = some r → mx_Fr G l MX11_who 322 0 0 (fun v z => v = some (.int r.1) ∧ z = (e, r.2)) 81 [.ref a, .int y3, .float 0] [] (e, m4)) h ?_ (fun k5 j_k5 h => ?_)
  · intro y3 m4 h
    dsimp only at h
    refine mx_aload_n (mx_d tX11_who_0 41 rfl) rfl rfl ?_
    refine mx_getR (mx_d tX11_who_0 42 rfl) fX11_10 rfl rfl (ly11_o h0) (ly11_r0 h0) ?_
    refine mx_iconst (0) (mx_d tX11_who_0 43 rfl) (by decide) ?_
    obtain ⟨r6, h_r6, h⟩ := Option.bind_eq_some_iff.mp h
    refine mx_cVv (mx_d tX11_who_0 44 rfl) iX11_117 rfl vX10_cut ⟨_, rfl, rfl⟩ (ly10_o (ly11_s0 h0)) (CX10_cut (ly11_s0 h0) h_r6) (by decide) rfl rfl (Nat.le_of_ble_eq_true rfl) ?_
    refine mx_iload_n (mx_d tX11_who_0 45 rfl) rfl rfl ?_
    refine mx_if_le (tgt := 104) (mx_d tX11_who_0 46 rfl) (by decide) (fun hc7 => ?_) (fun hc7 => ?_)
    · rw [if_pos hc7] at h
      refine mx_iload_n (mx_d tX11_who_0 52 rfl) rfl rfl ?_
      obtain rfl := Option.some.inj h
      exact mx_ireturn (mx_d tX11_who_0 53 rfl) rfl ⟨rfl, rfl⟩
    · rw [if_neg hc7] at h
      refine mx_aload_n (mx_d tX11_who_0 47 rfl) rfl rfl ?_
      refine mx_aload_n (mx_d tX11_who_0 48 rfl) rfl rfl ?_
      refine mx_getR (mx_d tX11_who_0 49 rfl) fX11_55 rfl rfl (ly11_o h0) (ly11_r7 h0) ?_
      obtain ⟨r8, h_r8, h⟩ := Option.bind_eq_some_iff.mp h
      refine mx_cVi (mx_d tX11_who_0 50 rfl) iX11_347 rfl vX2_mostTelling ⟨_, rfl, rfl⟩ (ly2_o (ly11_s7 h0)) (CX2_mostTelling (ly11_s7 h0) h_r8) (by decide) rfl rfl (Nat.le_of_ble_eq_true rfl) ?_
      obtain ⟨m9, e_m9, h⟩ := mx_letE h
      refine mx_putI (mx_d tX11_who_0 51 rfl) fX11_106 rfl ⟨_, rfl, rfl⟩ rfl (ly11_o h0) (mx_eqz (z' := (e, m9)) (by rw [e_m9]) ?_)
      refine mx_iload_n (mx_d tX11_who_0 52 rfl) rfl rfl ?_
      obtain rfl := Option.some.inj h
      exact mx_ireturn (mx_d tX11_who_0 53 rfl) rfl ⟨rfl, rfl⟩
  refine mx_if_eq (tgt := 81) (mx_d tX11_who_0 4 rfl) (by decide) (fun hc2 => ?_) (fun hc2 => ?_)
  · rw [if_pos hc2] at h
    exact j_k5 h
  · rw [if_neg hc2] at h
    refine mx_aload_n (mx_d tX11_who_0 5 rfl) rfl rfl ?_
    refine mx_getR (mx_d tX11_who_0 6 rfl) fX11_55 rfl rfl (ly11_o h0) (ly11_r7 h0) ?_
    refine mx_aload_n (mx_d tX11_who_0 7 rfl) rfl rfl ?_
    refine mx_getR (mx_d tX11_who_0 8 rfl) fX11_19 rfl rfl (ly11_o h0) (ly11_r1 h0) ?_
    obtain ⟨r10, h_r10, h⟩ := Option.bind_eq_some_iff.mp h
    refine mx_cVv (mx_d tX11_who_0 9 rfl) iX11_185 rfl vX2_lookAt ⟨_, rfl, rfl⟩ (ly2_o (ly11_s7 h0)) (CX2_lookAt (ly11_s7 h0) (ly11_s1 h0) h_r10) (by decide) rfl rfl (Nat.le_of_ble_eq_true rfl) ?_
    refine mx_aload_n (mx_d tX11_who_0 10 rfl) rfl rfl ?_
    refine mx_getR (mx_d tX11_who_0 11 rfl) fX11_55 rfl rfl (ly11_o h0) (ly11_r7 h0) ?_
    obtain ⟨r11, h_r11, h⟩ := Option.bind_eq_some_iff.mp h
    refine mx_cVv (mx_d tX11_who_0 12 rfl) iX11_334 rfl vX2_wantNothing ⟨_, rfl, rfl⟩ (ly2_o (ly11_s7 h0)) (CX2_wantNothing (ly11_s7 h0) h_r11) (by decide) rfl rfl (Nat.le_of_ble_eq_true rfl) ?_
    refine mx_iconst (0) (mx_d tX11_who_0 13 rfl) (by decide) ?_
    refine mx_istore_n (L2 := [.ref a, .int (-1), .int 0]) (mx_d tX11_who_0 14 rfl) rfl (by decide) (by rfl) ?_
    obtain ⟨q18, h_q18, h⟩ := Option.bind_eq_some_iff.mp h
    refine mx_forget (L' := [.ref a, .float 0, .int 0]) ⟨rfl, rfl, trivial⟩ ?_
    refine CX11_who_L29 h0 mx_FU h_q18 ?_
    refine mx_aload_n (mx_d tX11_who_0 37 rfl) rfl rfl ?_
    refine mx_getR (mx_d tX11_who_0 38 rfl) fX11_55 rfl rfl (ly11_o h0) (ly11_r7 h0) ?_
    obtain ⟨r19, h_r19, h⟩ := Option.bind_eq_some_iff.mp h
    refine mx_cVi (mx_d tX11_who_0 39 rfl) iX11_344 rfl vX2_countWanted ⟨_, rfl, rfl⟩ (ly2_o (ly11_s7 h0)) (CX2_countWanted (ly11_s7 h0) h_r19) (by decide) rfl rfl (Nat.le_of_ble_eq_true rfl) ?_
    refine mx_istore_n (L2 := [.ref a, .int r19.1, .float 0]) (mx_d tX11_who_0 40 rfl) rfl (by decide) (by rfl) ?_
    exact j_k5 h
def FX11_ask (a : Nat) (m : mB) : Option Int32 := (some (m.1 a 18))
set_option maxRecDepth 20000 in
theorem CX11_ask {G : mG} {l : Launch} {e : mE} {a : Nat} {m : mB} {r : Int32} (h0 : ly11 e a) (h : FX11_ask a m = some r) : mx_Call G l MX11_ask 1 0 0 [.ref a] (e, m) (fun v z => v = some (.int r) ∧ z = (e, m)) := by
  refine mx_entry (L := [.ref a]) (by decide +kernel) (Nat.le_of_ble_eq_true rfl) rfl ?_
  unfold FX11_ask at h
  refine mx_aload_n (mx_d tX11_ask_0 0 rfl) rfl rfl ?_
  refine mx_getI (mx_d tX11_ask_0 1 rfl) fX11_106 rfl (Or.inl rfl) (ly11_o h0) ?_
  obtain rfl := Option.some.inj h
  exact mx_ireturn (mx_d tX11_ask_0 2 rfl) rfl ⟨rfl, rfl⟩
def FX11_byteAt (a : Nat) (x0 : Int32) (m : mB) : Option Int32 := Option.bind (FX7_at (a + 186) x0 m) (fun r1 => (some r1))
set_option maxRecDepth 20000 in
theorem CX11_byteAt {G : mG} {l : Launch} {e : mE} {a : Nat} {x0 : Int32} {m : mB} {r : Int32} (h0 : ly11 e a) (h : FX11_byteAt a x0 m = some r) : mx_Call G l MX11_byteAt 2 0 0 [.ref a, .int x0] (e, m) (fun v z => v = some (.int r) ∧ z = (e, m)) := by
  refine mx_entry (L := [.ref a, .int x0]) (by decide +kernel) (Nat.le_of_ble_eq_true rfl) rfl ?_
  unfold FX11_byteAt at h
  refine mx_aload_n (mx_d tX11_byteAt_0 0 rfl) rfl rfl ?_
  refine mx_getR (mx_d tX11_byteAt_0 1 rfl) fX11_99 rfl rfl (ly11_o h0) (ly11_r15 h0) ?_
  refine mx_iload_n (mx_d tX11_byteAt_0 2 rfl) rfl rfl ?_
  obtain ⟨r1, h_r1, h⟩ := Option.bind_eq_some_iff.mp h
  refine mx_cVi (mx_d tX11_byteAt_0 3 rfl) iX11_274 rfl vX7_at ⟨_, rfl, rfl⟩ (ly7_o (ly11_s15 h0)) (CX7_at (ly11_s15 h0) h_r1) (by decide) rfl rfl (Nat.le_of_ble_eq_true rfl) ?_
  obtain rfl := Option.some.inj h
  exact mx_ireturn (mx_d tX11_byteAt_0 4 rfl) rfl ⟨rfl, rfl⟩
def FX11_drawn (a : Nat) (x0 : Int32) (x1 : Int32) (m : mB) : Option (Int32 × mB) := (if x0 < 1 then (some ((-1), m)) else (if x0 ≤ 60 then Option.bind (FX3_mark (a + 68) (a + 4) m) (fun r3 => Option.bind (FX1_run (a + 185) (a + 4) (a + 38) x0 x1 r3) (fun r4 => (if r4.1 ≤ 0 then (some (r4.1, r4.2)) else Option.bind (FX3_keep (a + 68) r4.2) (fun r6 => (some (r4.1, r6)))))) else (some ((-1), m))))
set_option maxRecDepth 20000 in
theorem CX11_drawn {G : mG} {l : Launch} {e : mE} {a : Nat} {x0 : Int32} {x1 : Int32} {m : mB} {r : (Int32 × mB)} (h0 : ly11 e a) (h : FX11_drawn a x0 x1 m = some r) : mx_Call G l MX11_drawn 197 0 0 [.ref a, .int x0, .int x1] (e, m) (fun v z => v = some (.int r.1) ∧ z = (e, r.2)) := by
  refine mx_entry (L := [.ref a, .int x0, .int x1, .float 0]) (by decide +kernel) (Nat.le_of_ble_eq_true rfl) rfl ?_
  unfold FX11_drawn at h
  refine mx_iload_n (mx_d tX11_drawn_0 0 rfl) rfl rfl ?_
  refine mx_iconst (1) (mx_d tX11_drawn_0 1 rfl) (by decide) ?_
  refine mx_icmp_lt (tgt := 11) (mx_d tX11_drawn_0 2 rfl) (by decide) (fun hc1 => ?_) (fun hc1 => ?_)
  · rw [if_pos hc1] at h
    refine mx_iconst ((-1)) (mx_d tX11_drawn_0 6 rfl) (by decide) ?_
    obtain rfl := Option.some.inj h
    exact mx_ireturn (mx_d tX11_drawn_0 7 rfl) rfl ⟨rfl, rfl⟩
  · rw [if_neg hc1] at h
    refine mx_iload_n (mx_d tX11_drawn_0 3 rfl) rfl rfl ?_
    refine mx_bipush (60) (mx_d tX11_drawn_0 4 rfl) (by decide) ?_
    refine mx_icmp_le (tgt := 13) (mx_d tX11_drawn_0 5 rfl) (by decide) (fun hc2 => ?_) (fun hc2 => ?_)
    · rw [if_pos hc2] at h
      refine mx_aload_n (mx_d tX11_drawn_0 8 rfl) rfl rfl ?_
      refine mx_getR (mx_d tX11_drawn_0 9 rfl) fX11_65 rfl rfl (ly11_o h0) (ly11_r9 h0) ?_
      refine mx_aload_n (mx_d tX11_drawn_0 10 rfl) rfl rfl ?_
      refine mx_getR (mx_d tX11_drawn_0 11 rfl) fX11_19 rfl rfl (ly11_o h0) (ly11_r1 h0) ?_
      obtain ⟨r3, h_r3, h⟩ := Option.bind_eq_some_iff.mp h
      refine mx_cVv (mx_d tX11_drawn_0 12 rfl) iX11_231 rfl vX3_mark ⟨_, rfl, rfl⟩ (ly3_o (ly11_s9 h0)) (CX3_mark (ly11_s9 h0) (ly11_s1 h0) h_r3) (by decide) rfl rfl (Nat.le_of_ble_eq_true rfl) ?_
      refine mx_aload_n (mx_d tX11_drawn_0 13 rfl) rfl rfl ?_
      refine mx_getR (mx_d tX11_drawn_0 14 rfl) fX11_95 rfl rfl (ly11_o h0) (ly11_r14 h0) ?_
      refine mx_aload_n (mx_d tX11_drawn_0 15 rfl) rfl rfl ?_
      refine mx_getR (mx_d tX11_drawn_0 16 rfl) fX11_19 rfl rfl (ly11_o h0) (ly11_r1 h0) ?_
      refine mx_aload_n (mx_d tX11_drawn_0 17 rfl) rfl rfl ?_
      refine mx_getR (mx_d tX11_drawn_0 18 rfl) fX11_36 rfl rfl (ly11_o h0) (ly11_r4 h0) ?_
      refine mx_iload_n (mx_d tX11_drawn_0 19 rfl) rfl rfl ?_
      refine mx_iload_n (mx_d tX11_drawn_0 20 rfl) rfl rfl ?_
      obtain ⟨r4, h_r4, h⟩ := Option.bind_eq_some_iff.mp h
      refine mx_cVi (mx_d tX11_drawn_0 21 rfl) iX11_383 rfl vX1_run ⟨_, rfl, rfl⟩ (ly1_o (ly11_s14 h0)) (CX1_run (ly11_s14 h0) (ly11_s1 h0) (ly11_s4 h0) h_r4) (by decide) rfl rfl (Nat.le_of_ble_eq_true rfl) ?_
      refine mx_istore_n (L2 := [.ref a, .int x0, .int x1, .int r4.1]) (mx_d tX11_drawn_0 22 rfl) rfl (by decide) (by rfl) ?_
      refine mx_iload_n (mx_d tX11_drawn_0 23 rfl) rfl rfl ?_
      refine mx_if_le (tgt := 53) (mx_d tX11_drawn_0 24 rfl) (by decide) (fun hc5 => ?_) (fun hc5 => ?_)
      · rw [if_pos hc5] at h
        refine mx_iload_n (mx_d tX11_drawn_0 28 rfl) rfl rfl ?_
        obtain rfl := Option.some.inj h
        exact mx_ireturn (mx_d tX11_drawn_0 29 rfl) rfl ⟨rfl, rfl⟩
      · rw [if_neg hc5] at h
        refine mx_aload_n (mx_d tX11_drawn_0 25 rfl) rfl rfl ?_
        refine mx_getR (mx_d tX11_drawn_0 26 rfl) fX11_65 rfl rfl (ly11_o h0) (ly11_r9 h0) ?_
        obtain ⟨r6, h_r6, h⟩ := Option.bind_eq_some_iff.mp h
        refine mx_cVv (mx_d tX11_drawn_0 27 rfl) iX11_387 rfl vX3_keep ⟨_, rfl, rfl⟩ (ly3_o (ly11_s9 h0)) (CX3_keep (ly11_s9 h0) h_r6) (by decide) rfl rfl (Nat.le_of_ble_eq_true rfl) ?_
        refine mx_iload_n (mx_d tX11_drawn_0 28 rfl) rfl rfl ?_
        obtain rfl := Option.some.inj h
        exact mx_ireturn (mx_d tX11_drawn_0 29 rfl) rfl ⟨rfl, rfl⟩
    · rw [if_neg hc2] at h
      refine mx_iconst ((-1)) (mx_d tX11_drawn_0 6 rfl) (by decide) ?_
      obtain rfl := Option.some.inj h
      exact mx_ireturn (mx_d tX11_drawn_0 7 rfl) rfl ⟨rfl, rfl⟩
def FX11_odds_L30 (q0 : Nat) (y1 : Int32) (y2 : Int32) (y3 : Int32) : Nat → Int32 → Int32 → mB → Option (Int32 × mB)
  | 0, _, _, _ => none
  | f + 1, y4, y5, m => (if y2 ≤ y5 then (some ((y4, m))) else Option.bind (FX4_copyFrom (q0 + 15) (q0 + 4) m) (fun r6 => Option.bind (FX1_run (q0 + 185) (q0 + 15) (q0 + 38) 12 (y3 + y5) r6) (fun r7 => Option.bind (FX4_isLone (q0 + 15) y1 r7.2) (fun r8 => (if r8 = 0 then mx_let (y4 + 1) (fun v11 => mx_let (y5 + 1) (fun v12 => (FX11_odds_L30 q0 y1 y2 y3 f v11 v12 r7.2))) else mx_let (y5 + 1) (fun v10 => (FX11_odds_L30 q0 y1 y2 y3 f y4 v10 r7.2)))))))
set_option maxRecDepth 20000 in
theorem CX11_odds_L30 {G : mG} {l : Launch} {e : mE} {Post : Option Value → mS → Prop} {q0 : Nat} {y1 : Int32} {y2 : Int32} {y3 : Int32} (g0 : ly11 e q0) : ∀ (f : Nat) {y4 : Int32} {y5 : Int32} {m : mB} {q : (Int32 × mB)}, FX11_odds_L30 q0 y1 y2 y3 f y4 y5 m = some q → (mx_Fr G l MX11_odds 197 0 0 Post 89 [.float 0, .float 0, .float 0, .float 0, .int q.1, .float 0] [] (e, q.2)) → mx_Fr G l MX11_odds 197 0 0 Post 30 [.ref q0, .int y1, .int y2, .int y3, .int y4, .int y5] [] (e, m) := by
  intro f
  induction f with
  | zero => intro _ _ _ _ h; cases h
  | succ f ih =>
    intro y4 y5 m q h hex
    rw [FX11_odds_L30] at h
    refine mx_iload (mx_d tX11_odds_0 17 rfl) rfl ?_
    refine mx_iload_n (mx_d tX11_odds_0 18 rfl) rfl rfl ?_
    refine mx_icmp_ge (tgt := 89) (mx_d tX11_odds_0 19 rfl) (by decide) (fun hc5 => ?_) (fun hc5 => ?_)
    · rw [if_pos hc5] at h
      obtain rfl := Option.some.inj h
      refine mx_forget (L' := [.float 0, .float 0, .float 0, .float 0, .int y4, .float 0]) ⟨rfl, trivial⟩ ?_
      exact hex
    · rw [if_neg hc5] at h
      refine mx_aload_n (mx_d tX11_odds_0 20 rfl) rfl rfl ?_
      refine mx_getR (mx_d tX11_odds_0 21 rfl) fX11_23 rfl rfl (ly11_o g0) (ly11_r2 g0) ?_
      refine mx_aload_n (mx_d tX11_odds_0 22 rfl) rfl rfl ?_
      refine mx_getR (mx_d tX11_odds_0 23 rfl) fX11_19 rfl rfl (ly11_o g0) (ly11_r1 g0) ?_
      obtain ⟨r6, h_r6, h⟩ := Option.bind_eq_some_iff.mp h
      refine mx_cVv (mx_d tX11_odds_0 24 rfl) iX11_131 rfl vX4_copyFrom ⟨_, rfl, rfl⟩ (ly4_o (ly11_s2 g0)) (CX4_copyFrom (ly11_s2 g0) (ly11_s1 g0) h_r6) (by decide) rfl rfl (Nat.le_of_ble_eq_true rfl) ?_
      refine mx_aload_n (mx_d tX11_odds_0 25 rfl) rfl rfl ?_
      refine mx_getR (mx_d tX11_odds_0 26 rfl) fX11_95 rfl rfl (ly11_o g0) (ly11_r14 g0) ?_
      refine mx_aload_n (mx_d tX11_odds_0 27 rfl) rfl rfl ?_
      refine mx_getR (mx_d tX11_odds_0 28 rfl) fX11_23 rfl rfl (ly11_o g0) (ly11_r2 g0) ?_
      refine mx_aload_n (mx_d tX11_odds_0 29 rfl) rfl rfl ?_
      refine mx_getR (mx_d tX11_odds_0 30 rfl) fX11_36 rfl rfl (ly11_o g0) (ly11_r4 g0) ?_
      refine mx_bipush (12) (mx_d tX11_odds_0 31 rfl) (by decide) ?_
      refine mx_iload_n (mx_d tX11_odds_0 32 rfl) rfl rfl ?_
      refine mx_iload (mx_d tX11_odds_0 33 rfl) rfl ?_
      refine mx_iadd (mx_d tX11_odds_0 34 rfl) ?_
      obtain ⟨r7, h_r7, h⟩ := Option.bind_eq_some_iff.mp h
      refine mx_cVi (mx_d tX11_odds_0 35 rfl) iX11_383 rfl vX1_run ⟨_, rfl, rfl⟩ (ly1_o (ly11_s14 g0)) (CX1_run (ly11_s14 g0) (ly11_s2 g0) (ly11_s4 g0) h_r7) (by decide) rfl rfl (Nat.le_of_ble_eq_true rfl) ?_
      refine mx_pop (mx_d tX11_odds_0 36 rfl) rfl ?_
      refine mx_aload_n (mx_d tX11_odds_0 37 rfl) rfl rfl ?_
      refine mx_getR (mx_d tX11_odds_0 38 rfl) fX11_23 rfl rfl (ly11_o g0) (ly11_r2 g0) ?_
      refine mx_iload_n (mx_d tX11_odds_0 39 rfl) rfl rfl ?_
      obtain ⟨r8, h_r8, h⟩ := Option.bind_eq_some_iff.mp h
      refine mx_cVi (mx_d tX11_odds_0 40 rfl) iX11_367 rfl vX4_isLone ⟨_, rfl, rfl⟩ (ly4_o (ly11_s2 g0)) (CX4_isLone (ly11_s2 g0) h_r8) (by decide) rfl rfl (Nat.le_of_ble_eq_true rfl) ?_
      refine mx_if_ne (tgt := 83) (mx_d tX11_odds_0 41 rfl) (by decide) (fun hc9 => ?_) (fun hc9 => ?_)
      · rw [if_neg hc9] at h
        obtain ⟨v10, e_v10, h⟩ := mx_letE h
        refine mx_iinc v10 (L2 := [.ref q0, .int y1, .int y2, .int y3, .int y4, .int v10]) (mx_d tX11_odds_0 43 rfl) rfl (by rw [e_v10]; rfl) (by decide) rfl ?_
        refine mx_goto (tgt := 30) (mx_d tX11_odds_0 44 rfl) (by decide) ?_
        exact ih h hex
      · rw [if_pos hc9] at h
        obtain ⟨v11, e_v11, h⟩ := mx_letE h
        refine mx_iinc v11 (L2 := [.ref q0, .int y1, .int y2, .int y3, .int v11, .int y5]) (mx_d tX11_odds_0 42 rfl) rfl (by rw [e_v11]; rfl) (by decide) rfl ?_
        obtain ⟨v12, e_v12, h⟩ := mx_letE h
        refine mx_iinc v12 (L2 := [.ref q0, .int y1, .int y2, .int y3, .int v11, .int v12]) (mx_d tX11_odds_0 43 rfl) rfl (by rw [e_v12]; rfl) (by decide) rfl ?_
        refine mx_goto (tgt := 30) (mx_d tX11_odds_0 44 rfl) (by decide) ?_
        exact ih h hex
def FX11_odds (a : Nat) (x0 : Int32) (x1 : Int32) (x2 : Int32) (m : mB) : Option (Int32 × mB) := Option.bind (FX4_hasPoint (a + 4) x0 m) (fun r1 => (if r1 = 0 then (some ((-1), m)) else (if x1 < 1 then (some ((-1), m)) else (if x1 ≤ 20 then Option.bind (FX11_odds_L30 a x0 x1 x2 mx_FU 0 0 m) (fun q13 => (some (q13.1, q13.2))) else (some ((-1), m))))))
set_option maxRecDepth 20000 in
theorem CX11_odds {G : mG} {l : Launch} {e : mE} {a : Nat} {x0 : Int32} {x1 : Int32} {x2 : Int32} {m : mB} {r : (Int32 × mB)} (h0 : ly11 e a) (h : FX11_odds a x0 x1 x2 m = some r) : mx_Call G l MX11_odds 197 0 0 [.ref a, .int x0, .int x1, .int x2] (e, m) (fun v z => v = some (.int r.1) ∧ z = (e, r.2)) := by
  refine mx_entry (L := [.ref a, .int x0, .int x1, .int x2, .float 0, .float 0]) (by decide +kernel) (Nat.le_of_ble_eq_true rfl) rfl ?_
  unfold FX11_odds at h
  refine mx_aload_n (mx_d tX11_odds_0 0 rfl) rfl rfl ?_
  refine mx_getR (mx_d tX11_odds_0 1 rfl) fX11_19 rfl rfl (ly11_o h0) (ly11_r1 h0) ?_
  refine mx_iload_n (mx_d tX11_odds_0 2 rfl) rfl rfl ?_
  obtain ⟨r1, h_r1, h⟩ := Option.bind_eq_some_iff.mp h
  refine mx_cVi (mx_d tX11_odds_0 3 rfl) iX11_147 rfl vX4_hasPoint ⟨_, rfl, rfl⟩ (ly4_o (ly11_s1 h0)) (CX4_hasPoint (ly11_s1 h0) h_r1) (by decide) rfl rfl (Nat.le_of_ble_eq_true rfl) ?_
  refine mx_if_eq (tgt := 22) (mx_d tX11_odds_0 4 rfl) (by decide) (fun hc2 => ?_) (fun hc2 => ?_)
  · rw [if_pos hc2] at h
    refine mx_iconst ((-1)) (mx_d tX11_odds_0 11 rfl) (by decide) ?_
    obtain rfl := Option.some.inj h
    exact mx_ireturn (mx_d tX11_odds_0 12 rfl) rfl ⟨rfl, rfl⟩
  · rw [if_neg hc2] at h
    refine mx_iload_n (mx_d tX11_odds_0 5 rfl) rfl rfl ?_
    refine mx_iconst (1) (mx_d tX11_odds_0 6 rfl) (by decide) ?_
    refine mx_icmp_lt (tgt := 22) (mx_d tX11_odds_0 7 rfl) (by decide) (fun hc3 => ?_) (fun hc3 => ?_)
    · rw [if_pos hc3] at h
      refine mx_iconst ((-1)) (mx_d tX11_odds_0 11 rfl) (by decide) ?_
      obtain rfl := Option.some.inj h
      exact mx_ireturn (mx_d tX11_odds_0 12 rfl) rfl ⟨rfl, rfl⟩
    · rw [if_neg hc3] at h
      refine mx_iload_n (mx_d tX11_odds_0 8 rfl) rfl rfl ?_
      refine mx_bipush (20) (mx_d tX11_odds_0 9 rfl) (by decide) ?_
      refine mx_icmp_le (tgt := 24) (mx_d tX11_odds_0 10 rfl) (by decide) (fun hc4 => ?_) (fun hc4 => ?_)
      · rw [if_pos hc4] at h
        refine mx_iconst (0) (mx_d tX11_odds_0 13 rfl) (by decide) ?_
        refine mx_istore (L2 := [.ref a, .int x0, .int x1, .int x2, .int 0, .float 0]) (mx_d tX11_odds_0 14 rfl) (by decide) (by rfl) ?_
        refine mx_iconst (0) (mx_d tX11_odds_0 15 rfl) (by decide) ?_
        refine mx_istore (L2 := [.ref a, .int x0, .int x1, .int x2, .int 0, .int 0]) (mx_d tX11_odds_0 16 rfl) (by decide) (by rfl) ?_
        obtain ⟨q13, h_q13, h⟩ := Option.bind_eq_some_iff.mp h
        refine CX11_odds_L30 h0 mx_FU h_q13 ?_
        refine mx_iload (mx_d tX11_odds_0 45 rfl) rfl ?_
        obtain rfl := Option.some.inj h
        exact mx_ireturn (mx_d tX11_odds_0 46 rfl) rfl ⟨rfl, rfl⟩
      · rw [if_neg hc4] at h
        refine mx_iconst ((-1)) (mx_d tX11_odds_0 11 rfl) (by decide) ?_
        obtain rfl := Option.some.inj h
        exact mx_ireturn (mx_d tX11_odds_0 12 rfl) rfl ⟨rfl, rfl⟩
def FX11_book (a : Nat) (x0 : Int32) (m : mB) : Option (Int32 × mB) := mx_let (Option.bind (FX0_read (a + 169) (a + 1) (a + 4) m) (fun r3 => Option.bind (FX10_cut (a + 1) 0 r3.2) (fun r4 => (if r3.1 = 0 then Option.bind (FX10_faultAt (a + 1) r4) (fun r14 => (some (((-2) - r14), r4))) else (if x0 = 0 then Option.bind (FX4_copyFrom (a + 15) (a + 4) r4) (fun r12 => Option.bind (FX0_judge (a + 169) (a + 15) (a + 38) r12) (fun r13 => (some (r13.1, r13.2)))) else Option.bind (FX3_mark (a + 68) (a + 4) r4) (fun r7 => Option.bind (FX0_judge (a + 169) (a + 4) (a + 38) r7) (fun r8 => Option.bind (FX0_toldOf (a + 169) 1 r8.2) (fun r9 => (if r9 ≤ 0 then (some (r8.1, r8.2)) else Option.bind (FX3_keep (a + 68) r8.2) (fun r11 => (some (r8.1, r11)))))))))))) (fun k2 => (if x0 = 0 then k2 else (if x0 = 1 then k2 else (some ((-1000), m)))))
set_option maxRecDepth 20000 in
theorem CX11_book {G : mG} {l : Launch} {e : mE} {a : Nat} {x0 : Int32} {m : mB} {r : (Int32 × mB)} (h0 : ly11 e a) (h : FX11_book a x0 m = some r) : mx_Call G l MX11_book 197 0 0 [.ref a, .int x0] (e, m) (fun v z => v = some (.int r.1) ∧ z = (e, r.2)) := by
  refine mx_entry (L := [.ref a, .int x0, .float 0, .float 0]) (by decide +kernel) (Nat.le_of_ble_eq_true rfl) rfl ?_
  unfold FX11_book at h
  refine mx_iload_n (mx_d tX11_book_0 0 rfl) rfl rfl ?_
  refine mx_letK (J := fun k2 => k2 = some r → mx_Fr G l MX11_book 197 0 0 (fun v z => v = some (.int r.1) ∧ z = (e, r.2)) 13 [.ref a, .int x0, .float 0, .float 0] [] (e, m)) h ?_ (fun k2 j_k2 h => ?_)
  · intro h
    refine mx_aload_n (mx_d tX11_book_0 7 rfl) rfl rfl ?_
    refine mx_getR (mx_d tX11_book_0 8 rfl) fX11_72 rfl rfl (ly11_o h0) (ly11_r10 h0) ?_
    refine mx_aload_n (mx_d tX11_book_0 9 rfl) rfl rfl ?_
    refine mx_getR (mx_d tX11_book_0 10 rfl) fX11_10 rfl rfl (ly11_o h0) (ly11_r0 h0) ?_
    refine mx_aload_n (mx_d tX11_book_0 11 rfl) rfl rfl ?_
    refine mx_getR (mx_d tX11_book_0 12 rfl) fX11_19 rfl rfl (ly11_o h0) (ly11_r1 h0) ?_
    obtain ⟨r3, h_r3, h⟩ := Option.bind_eq_some_iff.mp h
    refine mx_cVi (mx_d tX11_book_0 13 rfl) iX11_390 rfl vX0_read ⟨_, rfl, rfl⟩ (ly0_o (ly11_s10 h0)) (CX0_read (ly11_s10 h0) (ly11_s0 h0) (ly11_s1 h0) h_r3) (by decide) rfl rfl (Nat.le_of_ble_eq_true rfl) ?_
    refine mx_istore_n (L2 := [.ref a, .int x0, .int r3.1, .float 0]) (mx_d tX11_book_0 14 rfl) rfl (by decide) (by rfl) ?_
    refine mx_aload_n (mx_d tX11_book_0 15 rfl) rfl rfl ?_
    refine mx_getR (mx_d tX11_book_0 16 rfl) fX11_10 rfl rfl (ly11_o h0) (ly11_r0 h0) ?_
    refine mx_iconst (0) (mx_d tX11_book_0 17 rfl) (by decide) ?_
    obtain ⟨r4, h_r4, h⟩ := Option.bind_eq_some_iff.mp h
    refine mx_cVv (mx_d tX11_book_0 18 rfl) iX11_117 rfl vX10_cut ⟨_, rfl, rfl⟩ (ly10_o (ly11_s0 h0)) (CX10_cut (ly11_s0 h0) h_r4) (by decide) rfl rfl (Nat.le_of_ble_eq_true rfl) ?_
    refine mx_iload_n (mx_d tX11_book_0 19 rfl) rfl rfl ?_
    refine mx_if_ne (tgt := 52) (mx_d tX11_book_0 20 rfl) (by decide) (fun hc5 => ?_) (fun hc5 => ?_)
    · rw [if_neg hc5] at h
      refine mx_iload_n (mx_d tX11_book_0 27 rfl) rfl rfl ?_
      refine mx_if_ne (tgt := 83) (mx_d tX11_book_0 28 rfl) (by decide) (fun hc6 => ?_) (fun hc6 => ?_)
      · rw [if_neg hc6] at h
        refine mx_aload_n (mx_d tX11_book_0 42 rfl) rfl rfl ?_
        refine mx_getR (mx_d tX11_book_0 43 rfl) fX11_65 rfl rfl (ly11_o h0) (ly11_r9 h0) ?_
        refine mx_aload_n (mx_d tX11_book_0 44 rfl) rfl rfl ?_
        refine mx_getR (mx_d tX11_book_0 45 rfl) fX11_19 rfl rfl (ly11_o h0) (ly11_r1 h0) ?_
        obtain ⟨r7, h_r7, h⟩ := Option.bind_eq_some_iff.mp h
        refine mx_cVv (mx_d tX11_book_0 46 rfl) iX11_231 rfl vX3_mark ⟨_, rfl, rfl⟩ (ly3_o (ly11_s9 h0)) (CX3_mark (ly11_s9 h0) (ly11_s1 h0) h_r7) (by decide) rfl rfl (Nat.le_of_ble_eq_true rfl) ?_
        refine mx_aload_n (mx_d tX11_book_0 47 rfl) rfl rfl ?_
        refine mx_getR (mx_d tX11_book_0 48 rfl) fX11_72 rfl rfl (ly11_o h0) (ly11_r10 h0) ?_
        refine mx_aload_n (mx_d tX11_book_0 49 rfl) rfl rfl ?_
        refine mx_getR (mx_d tX11_book_0 50 rfl) fX11_19 rfl rfl (ly11_o h0) (ly11_r1 h0) ?_
        refine mx_aload_n (mx_d tX11_book_0 51 rfl) rfl rfl ?_
        refine mx_getR (mx_d tX11_book_0 52 rfl) fX11_36 rfl rfl (ly11_o h0) (ly11_r4 h0) ?_
        obtain ⟨r8, h_r8, h⟩ := Option.bind_eq_some_iff.mp h
        refine mx_cVi (mx_d tX11_book_0 53 rfl) iX11_393 rfl vX0_judge ⟨_, rfl, rfl⟩ (ly0_o (ly11_s10 h0)) (CX0_judge (ly11_s10 h0) (ly11_s1 h0) (ly11_s4 h0) h_r8) (by decide) rfl rfl (Nat.le_of_ble_eq_true rfl) ?_
        refine mx_istore_n (L2 := [.ref a, .int x0, .int r3.1, .int r8.1]) (mx_d tX11_book_0 54 rfl) rfl (by decide) (by rfl) ?_
        refine mx_aload_n (mx_d tX11_book_0 55 rfl) rfl rfl ?_
        refine mx_getR (mx_d tX11_book_0 56 rfl) fX11_72 rfl rfl (ly11_o h0) (ly11_r10 h0) ?_
        refine mx_iconst (1) (mx_d tX11_book_0 57 rfl) (by decide) ?_
        obtain ⟨r9, h_r9, h⟩ := Option.bind_eq_some_iff.mp h
        refine mx_cVi (mx_d tX11_book_0 58 rfl) iX11_397 rfl vX0_toldOf ⟨_, rfl, rfl⟩ (ly0_o (ly11_s10 h0)) (CX0_toldOf (ly11_s10 h0) h_r9) (by decide) rfl rfl (Nat.le_of_ble_eq_true rfl) ?_
        refine mx_if_le (tgt := 128) (mx_d tX11_book_0 59 rfl) (by decide) (fun hc10 => ?_) (fun hc10 => ?_)
        · rw [if_pos hc10] at h
          refine mx_iload_n (mx_d tX11_book_1 3 rfl) rfl rfl ?_
          obtain rfl := Option.some.inj h
          exact mx_ireturn (mx_d tX11_book_1 4 rfl) rfl ⟨rfl, rfl⟩
        · rw [if_neg hc10] at h
          refine mx_aload_n (mx_d tX11_book_1 0 rfl) rfl rfl ?_
          refine mx_getR (mx_d tX11_book_1 1 rfl) fX11_65 rfl rfl (ly11_o h0) (ly11_r9 h0) ?_
          obtain ⟨r11, h_r11, h⟩ := Option.bind_eq_some_iff.mp h
          refine mx_cVv (mx_d tX11_book_1 2 rfl) iX11_387 rfl vX3_keep ⟨_, rfl, rfl⟩ (ly3_o (ly11_s9 h0)) (CX3_keep (ly11_s9 h0) h_r11) (by decide) rfl rfl (Nat.le_of_ble_eq_true rfl) ?_
          refine mx_iload_n (mx_d tX11_book_1 3 rfl) rfl rfl ?_
          obtain rfl := Option.some.inj h
          exact mx_ireturn (mx_d tX11_book_1 4 rfl) rfl ⟨rfl, rfl⟩
      · rw [if_pos hc6] at h
        refine mx_aload_n (mx_d tX11_book_0 29 rfl) rfl rfl ?_
        refine mx_getR (mx_d tX11_book_0 30 rfl) fX11_23 rfl rfl (ly11_o h0) (ly11_r2 h0) ?_
        refine mx_aload_n (mx_d tX11_book_0 31 rfl) rfl rfl ?_
        refine mx_getR (mx_d tX11_book_0 32 rfl) fX11_19 rfl rfl (ly11_o h0) (ly11_r1 h0) ?_
        obtain ⟨r12, h_r12, h⟩ := Option.bind_eq_some_iff.mp h
        refine mx_cVv (mx_d tX11_book_0 33 rfl) iX11_131 rfl vX4_copyFrom ⟨_, rfl, rfl⟩ (ly4_o (ly11_s2 h0)) (CX4_copyFrom (ly11_s2 h0) (ly11_s1 h0) h_r12) (by decide) rfl rfl (Nat.le_of_ble_eq_true rfl) ?_
        refine mx_aload_n (mx_d tX11_book_0 34 rfl) rfl rfl ?_
        refine mx_getR (mx_d tX11_book_0 35 rfl) fX11_72 rfl rfl (ly11_o h0) (ly11_r10 h0) ?_
        refine mx_aload_n (mx_d tX11_book_0 36 rfl) rfl rfl ?_
        refine mx_getR (mx_d tX11_book_0 37 rfl) fX11_23 rfl rfl (ly11_o h0) (ly11_r2 h0) ?_
        refine mx_aload_n (mx_d tX11_book_0 38 rfl) rfl rfl ?_
        refine mx_getR (mx_d tX11_book_0 39 rfl) fX11_36 rfl rfl (ly11_o h0) (ly11_r4 h0) ?_
        obtain ⟨r13, h_r13, h⟩ := Option.bind_eq_some_iff.mp h
        refine mx_cVi (mx_d tX11_book_0 40 rfl) iX11_393 rfl vX0_judge ⟨_, rfl, rfl⟩ (ly0_o (ly11_s10 h0)) (CX0_judge (ly11_s10 h0) (ly11_s2 h0) (ly11_s4 h0) h_r13) (by decide) rfl rfl (Nat.le_of_ble_eq_true rfl) ?_
        obtain rfl := Option.some.inj h
        exact mx_ireturn (mx_d tX11_book_0 41 rfl) rfl ⟨rfl, rfl⟩
    · rw [if_pos hc5] at h
      refine mx_bipush ((-2)) (mx_d tX11_book_0 21 rfl) (by decide) ?_
      refine mx_aload_n (mx_d tX11_book_0 22 rfl) rfl rfl ?_
      refine mx_getR (mx_d tX11_book_0 23 rfl) fX11_10 rfl rfl (ly11_o h0) (ly11_r0 h0) ?_
      obtain ⟨r14, h_r14, h⟩ := Option.bind_eq_some_iff.mp h
      refine mx_cVi (mx_d tX11_book_0 24 rfl) iX11_124 rfl vX10_faultAt ⟨_, rfl, rfl⟩ (ly10_o (ly11_s0 h0)) (CX10_faultAt (ly11_s0 h0) h_r14) (by decide) rfl rfl (Nat.le_of_ble_eq_true rfl) ?_
      refine mx_isub (mx_d tX11_book_0 25 rfl) ?_
      obtain rfl := Option.some.inj h
      exact mx_ireturn (mx_d tX11_book_0 26 rfl) rfl ⟨rfl, rfl⟩
  refine mx_if_eq (tgt := 13) (mx_d tX11_book_0 1 rfl) (by decide) (fun hc1 => ?_) (fun hc1 => ?_)
  · rw [if_pos hc1] at h
    exact j_k2 h
  · rw [if_neg hc1] at h
    refine mx_iload_n (mx_d tX11_book_0 2 rfl) rfl rfl ?_
    refine mx_iconst (1) (mx_d tX11_book_0 3 rfl) (by decide) ?_
    refine mx_icmp_eq (tgt := 13) (mx_d tX11_book_0 4 rfl) (by decide) (fun hc15 => ?_) (fun hc15 => ?_)
    · rw [if_pos hc15] at h
      exact j_k2 h
    · rw [if_neg hc15] at h
      refine mx_sipush ((-1000)) (mx_d tX11_book_0 5 rfl) (by decide) ?_
      obtain rfl := Option.some.inj h
      exact mx_ireturn (mx_d tX11_book_0 6 rfl) rfl ⟨rfl, rfl⟩
def FX11_told (a : Nat) (x0 : Int32) (m : mB) : Option Int32 := Option.bind (FX0_toldOf (a + 169) x0 m) (fun r1 => (some r1))
set_option maxRecDepth 20000 in
theorem CX11_told {G : mG} {l : Launch} {e : mE} {a : Nat} {x0 : Int32} {m : mB} {r : Int32} (h0 : ly11 e a) (h : FX11_told a x0 m = some r) : mx_Call G l MX11_told 2 0 0 [.ref a, .int x0] (e, m) (fun v z => v = some (.int r) ∧ z = (e, m)) := by
  refine mx_entry (L := [.ref a, .int x0]) (by decide +kernel) (Nat.le_of_ble_eq_true rfl) rfl ?_
  unfold FX11_told at h
  refine mx_aload_n (mx_d tX11_told_0 0 rfl) rfl rfl ?_
  refine mx_getR (mx_d tX11_told_0 1 rfl) fX11_72 rfl rfl (ly11_o h0) (ly11_r10 h0) ?_
  refine mx_iload_n (mx_d tX11_told_0 2 rfl) rfl rfl ?_
  obtain ⟨r1, h_r1, h⟩ := Option.bind_eq_some_iff.mp h
  refine mx_cVi (mx_d tX11_told_0 3 rfl) iX11_397 rfl vX0_toldOf ⟨_, rfl, rfl⟩ (ly0_o (ly11_s10 h0)) (CX0_toldOf (ly11_s10 h0) h_r1) (by decide) rfl rfl (Nat.le_of_ble_eq_true rfl) ?_
  obtain rfl := Option.some.inj h
  exact mx_ireturn (mx_d tX11_told_0 4 rfl) rfl ⟨rfl, rfl⟩
def FX11_sentence (a : Nat) (m : mB) : Option (Int32 × mB) := Option.bind (FX8_read (a + 179) (a + 1) (a + 4) m) (fun r1 => Option.bind (FX10_cut (a + 1) 0 r1.2) (fun r2 => (if r1.1 = 0 then Option.bind (FX10_faultAt (a + 1) r2) (fun r6 => (some (((-1) - r6), r2))) else Option.bind (FX8_copyFrom (a + 174) (a + 179) r2) (fun r4 => Option.bind (FX8_ones (a + 174) r4) (fun r5 => (some (r5, r4)))))))
set_option maxRecDepth 20000 in
theorem CX11_sentence {G : mG} {l : Launch} {e : mE} {a : Nat} {m : mB} {r : (Int32 × mB)} (h0 : ly11 e a) (h : FX11_sentence a m = some r) : mx_Call G l MX11_sentence 326 0 0 [.ref a] (e, m) (fun v z => v = some (.int r.1) ∧ z = (e, r.2)) := by
  refine mx_entry (L := [.ref a, .float 0]) (by decide +kernel) (Nat.le_of_ble_eq_true rfl) rfl ?_
  unfold FX11_sentence at h
  refine mx_aload_n (mx_d tX11_sentence_0 0 rfl) rfl rfl ?_
  refine mx_getR (mx_d tX11_sentence_0 1 rfl) fX11_83 rfl rfl (ly11_o h0) (ly11_r12 h0) ?_
  refine mx_aload_n (mx_d tX11_sentence_0 2 rfl) rfl rfl ?_
  refine mx_getR (mx_d tX11_sentence_0 3 rfl) fX11_10 rfl rfl (ly11_o h0) (ly11_r0 h0) ?_
  refine mx_aload_n (mx_d tX11_sentence_0 4 rfl) rfl rfl ?_
  refine mx_getR (mx_d tX11_sentence_0 5 rfl) fX11_19 rfl rfl (ly11_o h0) (ly11_r1 h0) ?_
  obtain ⟨r1, h_r1, h⟩ := Option.bind_eq_some_iff.mp h
  refine mx_cVi (mx_d tX11_sentence_0 6 rfl) iX11_400 rfl vX8_read ⟨_, rfl, rfl⟩ (ly8_o (ly11_s12 h0)) (CX8_read (ly11_s12 h0) (ly11_s0 h0) (ly11_s1 h0) h_r1) (by decide) rfl rfl (Nat.le_of_ble_eq_true rfl) ?_
  refine mx_istore_n (L2 := [.ref a, .int r1.1]) (mx_d tX11_sentence_0 7 rfl) rfl (by decide) (by rfl) ?_
  refine mx_aload_n (mx_d tX11_sentence_0 8 rfl) rfl rfl ?_
  refine mx_getR (mx_d tX11_sentence_0 9 rfl) fX11_10 rfl rfl (ly11_o h0) (ly11_r0 h0) ?_
  refine mx_iconst (0) (mx_d tX11_sentence_0 10 rfl) (by decide) ?_
  obtain ⟨r2, h_r2, h⟩ := Option.bind_eq_some_iff.mp h
  refine mx_cVv (mx_d tX11_sentence_0 11 rfl) iX11_117 rfl vX10_cut ⟨_, rfl, rfl⟩ (ly10_o (ly11_s0 h0)) (CX10_cut (ly11_s0 h0) h_r2) (by decide) rfl rfl (Nat.le_of_ble_eq_true rfl) ?_
  refine mx_iload_n (mx_d tX11_sentence_0 12 rfl) rfl rfl ?_
  refine mx_if_ne (tgt := 38) (mx_d tX11_sentence_0 13 rfl) (by decide) (fun hc3 => ?_) (fun hc3 => ?_)
  · rw [if_neg hc3] at h
    refine mx_aload_n (mx_d tX11_sentence_0 20 rfl) rfl rfl ?_
    refine mx_getR (mx_d tX11_sentence_0 21 rfl) fX11_79 rfl rfl (ly11_o h0) (ly11_r11 h0) ?_
    refine mx_aload_n (mx_d tX11_sentence_0 22 rfl) rfl rfl ?_
    refine mx_getR (mx_d tX11_sentence_0 23 rfl) fX11_83 rfl rfl (ly11_o h0) (ly11_r12 h0) ?_
    obtain ⟨r4, h_r4, h⟩ := Option.bind_eq_some_iff.mp h
    refine mx_cVv (mx_d tX11_sentence_0 24 rfl) iX11_401 rfl vX8_copyFrom ⟨_, rfl, rfl⟩ (ly8_o (ly11_s11 h0)) (CX8_copyFrom (ly11_s11 h0) (ly11_s12 h0) h_r4) (by decide) rfl rfl (Nat.le_of_ble_eq_true rfl) ?_
    refine mx_aload_n (mx_d tX11_sentence_0 25 rfl) rfl rfl ?_
    refine mx_getR (mx_d tX11_sentence_0 26 rfl) fX11_79 rfl rfl (ly11_o h0) (ly11_r11 h0) ?_
    obtain ⟨r5, h_r5, h⟩ := Option.bind_eq_some_iff.mp h
    refine mx_cVi (mx_d tX11_sentence_0 27 rfl) iX11_404 rfl vX8_ones ⟨_, rfl, rfl⟩ (ly8_o (ly11_s11 h0)) (CX8_ones (ly11_s11 h0) h_r5) (by decide) rfl rfl (Nat.le_of_ble_eq_true rfl) ?_
    obtain rfl := Option.some.inj h
    exact mx_ireturn (mx_d tX11_sentence_0 28 rfl) rfl ⟨rfl, rfl⟩
  · rw [if_pos hc3] at h
    refine mx_iconst ((-1)) (mx_d tX11_sentence_0 14 rfl) (by decide) ?_
    refine mx_aload_n (mx_d tX11_sentence_0 15 rfl) rfl rfl ?_
    refine mx_getR (mx_d tX11_sentence_0 16 rfl) fX11_10 rfl rfl (ly11_o h0) (ly11_r0 h0) ?_
    obtain ⟨r6, h_r6, h⟩ := Option.bind_eq_some_iff.mp h
    refine mx_cVi (mx_d tX11_sentence_0 17 rfl) iX11_124 rfl vX10_faultAt ⟨_, rfl, rfl⟩ (ly10_o (ly11_s0 h0)) (CX10_faultAt (ly11_s0 h0) h_r6) (by decide) rfl rfl (Nat.le_of_ble_eq_true rfl) ?_
    refine mx_isub (mx_d tX11_sentence_0 18 rfl) ?_
    obtain rfl := Option.some.inj h
    exact mx_ireturn (mx_d tX11_sentence_0 19 rfl) rfl ⟨rfl, rfl⟩
def FX11_bitNumbered_L4 (y0 : Int32) (m : mB) : Nat → Int32 → Int32 → Option (Int32 ⊕ (Unit))
  | 0, _, _ => none
  | f + 1, y2, y3 => (if 10 ≤ y3 then (some (.inr ())) else (if ((y0 >>> (y3 &&& 31)) &&& 1) = 0 then mx_let (y3 + 1) (fun v3 => (FX11_bitNumbered_L4 y0 m f y2 v3)) else (if y2 = 0 then (some (.inl y3)) else mx_let (y2 + (-1)) (fun v5 => mx_let (y3 + 1) (fun v6 => (FX11_bitNumbered_L4 y0 m f v5 v6))))))
set_option maxRecDepth 20000 in
theorem CX11_bitNumbered_L4 {G : mG} {l : Launch} {e : mE} {Post : Option Value → mS → Prop} {y0 : Int32} {m : mB}  : ∀ (f : Nat) {y2 : Int32} {y3 : Int32} {q : (Int32 ⊕ (Unit))}, FX11_bitNumbered_L4 y0 m f y2 y3 = some q → (∀ rr, q = .inl rr → Post (some (.int rr)) (e, m)) → (∀ u, q = .inr u → mx_Fr G l MX11_bitNumbered 1 0 0 Post 33 [.float 0, .float 0, .float 0, .float 0] [] (e, m)) → mx_Fr G l MX11_bitNumbered 1 0 0 Post 4 [.int y0, .float 0, .int y2, .int y3] [] (e, m) := by
  intro f
  induction f with
  | zero => intro _ _ _ h; cases h
  | succ f ih =>
    intro y2 y3 q h hret hex
    rw [FX11_bitNumbered_L4] at h
    refine mx_iload_n (mx_d tX11_bitNumbered_0 4 rfl) rfl rfl ?_
    refine mx_bipush (10) (mx_d tX11_bitNumbered_0 5 rfl) (by decide) ?_
    refine mx_icmp_ge (tgt := 33) (mx_d tX11_bitNumbered_0 6 rfl) (by decide) (fun hc1 => ?_) (fun hc1 => ?_)
    · rw [if_pos hc1] at h
      obtain rfl := Option.some.inj h
      refine mx_forget (L' := [.float 0, .float 0, .float 0, .float 0]) trivial ?_
      exact (hex _ rfl)
    · rw [if_neg hc1] at h
      refine mx_iload_n (mx_d tX11_bitNumbered_0 7 rfl) rfl rfl ?_
      refine mx_iload_n (mx_d tX11_bitNumbered_0 8 rfl) rfl rfl ?_
      refine mx_ishr (mx_d tX11_bitNumbered_0 9 rfl) ?_
      refine mx_iconst (1) (mx_d tX11_bitNumbered_0 10 rfl) (by decide) ?_
      refine mx_iand (mx_d tX11_bitNumbered_0 11 rfl) ?_
      refine mx_if_eq (tgt := 27) (mx_d tX11_bitNumbered_0 12 rfl) (by decide) (fun hc2 => ?_) (fun hc2 => ?_)
      · rw [if_pos hc2] at h
        obtain ⟨v3, e_v3, h⟩ := mx_letE h
        refine mx_iinc v3 (L2 := [.int y0, .float 0, .int y2, .int v3]) (mx_d tX11_bitNumbered_0 18 rfl) rfl (by rw [e_v3]; rfl) (by decide) rfl ?_
        refine mx_goto (tgt := 4) (mx_d tX11_bitNumbered_0 19 rfl) (by decide) ?_
        exact ih h hret hex
      · rw [if_neg hc2] at h
        refine mx_iload_n (mx_d tX11_bitNumbered_0 13 rfl) rfl rfl ?_
        refine mx_if_ne (tgt := 24) (mx_d tX11_bitNumbered_0 14 rfl) (by decide) (fun hc4 => ?_) (fun hc4 => ?_)
        · rw [if_neg hc4] at h
          obtain ⟨v5, e_v5, h⟩ := mx_letE h
          refine mx_iinc v5 (L2 := [.int y0, .float 0, .int v5, .int y3]) (mx_d tX11_bitNumbered_0 17 rfl) rfl (by rw [e_v5]; rfl) (by decide) rfl ?_
          obtain ⟨v6, e_v6, h⟩ := mx_letE h
          refine mx_iinc v6 (L2 := [.int y0, .float 0, .int v5, .int v6]) (mx_d tX11_bitNumbered_0 18 rfl) rfl (by rw [e_v6]; rfl) (by decide) rfl ?_
          refine mx_goto (tgt := 4) (mx_d tX11_bitNumbered_0 19 rfl) (by decide) ?_
          exact ih h hret hex
        · rw [if_pos hc4] at h
          refine mx_iload_n (mx_d tX11_bitNumbered_0 15 rfl) rfl rfl ?_
          obtain rfl := Option.some.inj h
          exact mx_ireturn (mx_d tX11_bitNumbered_0 16 rfl) rfl (hret _ rfl)
def FX11_bitNumbered (x0 : Int32) (x1 : Int32) (m : mB) : Option Int32 := Option.bind (FX11_bitNumbered_L4 x0 m mx_FU x1 0) (fun q7 => Sum.elim (fun rr => some rr) (fun u8 => (some (-1))) q7)
set_option maxRecDepth 20000 in
theorem CX11_bitNumbered {G : mG} {l : Launch} {e : mE} {x0 : Int32} {x1 : Int32} {m : mB} {r : Int32}  (h : FX11_bitNumbered x0 x1 m = some r) : mx_Call G l MX11_bitNumbered 1 0 0 [.int x0, .int x1] (e, m) (fun v z => v = some (.int r) ∧ z = (e, m)) := by
  refine mx_entry (L := [.int x0, .int x1, .float 0, .float 0]) (by decide +kernel) (Nat.le_of_ble_eq_true rfl) rfl ?_
  unfold FX11_bitNumbered at h
  refine mx_iload_n (mx_d tX11_bitNumbered_0 0 rfl) rfl rfl ?_
  refine mx_istore_n (L2 := [.int x0, .int x1, .int x1, .float 0]) (mx_d tX11_bitNumbered_0 1 rfl) rfl (by decide) (by rfl) ?_
  refine mx_iconst (0) (mx_d tX11_bitNumbered_0 2 rfl) (by decide) ?_
  refine mx_istore_n (L2 := [.int x0, .int x1, .int x1, .int 0]) (mx_d tX11_bitNumbered_0 3 rfl) rfl (by decide) (by rfl) ?_
  obtain ⟨q7, h_q7, h⟩ := Option.bind_eq_some_iff.mp h
  refine mx_forget (L' := [.int x0, .float 0, .int x1, .int 0]) ⟨rfl, rfl, rfl, trivial⟩ ?_
  refine CX11_bitNumbered_L4  mx_FU h_q7 (fun rr9 e_rr9 => ?_) (fun u8 e_u8 => ?_)
  · subst e_rr9
    rw [Sum.elim_inl] at h
    obtain rfl := Option.some.inj h
    exact ⟨rfl, rfl⟩
  · subst e_u8
    rw [Sum.elim_inr] at h
    refine mx_iconst ((-1)) (mx_d tX11_bitNumbered_0 20 rfl) (by decide) ?_
    obtain rfl := Option.some.inj h
    exact mx_ireturn (mx_d tX11_bitNumbered_0 21 rfl) rfl ⟨rfl, rfl⟩
def FX11_said (a : Nat) (x0 : Int32) (m : mB) : Option (Int32 × mB) := Option.bind (FX8_stands (a + 174) m) (fun r1 => (if r1 = 0 then (some ((-1), m)) else Option.bind (FX8_pointsOf (a + 174) (a + 4) m) (fun r3 => (if x0 = (-1) then Option.bind (FJ6_bitCount_0f7a4 r3.1 r3.2) (fun r6 => (some (r6, r3.2))) else Option.bind (FX11_bitNumbered r3.1 x0 r3.2) (fun r5 => (some (r5, r3.2)))))))
set_option maxRecDepth 20000 in
theorem CX11_said {G : mG} {l : Launch} {e : mE} {a : Nat} {x0 : Int32} {m : mB} {r : (Int32 × mB)} (h0 : ly11 e a) (h : FX11_said a x0 m = some r) : mx_Call G l MX11_said 8 0 0 [.ref a, .int x0] (e, m) (fun v z => v = some (.int r.1) ∧ z = (e, r.2)) := by
  refine mx_entry (L := [.ref a, .int x0, .float 0]) (by decide +kernel) (Nat.le_of_ble_eq_true rfl) rfl ?_
  unfold FX11_said at h
  refine mx_aload_n (mx_d tX11_said_0 0 rfl) rfl rfl ?_
  refine mx_getR (mx_d tX11_said_0 1 rfl) fX11_79 rfl rfl (ly11_o h0) (ly11_r11 h0) ?_
  obtain ⟨r1, h_r1, h⟩ := Option.bind_eq_some_iff.mp h
  refine mx_cVi (mx_d tX11_said_0 2 rfl) iX11_407 rfl vX8_stands ⟨_, rfl, rfl⟩ (ly8_o (ly11_s11 h0)) (CX8_stands (ly11_s11 h0) h_r1) (by decide) rfl rfl (Nat.le_of_ble_eq_true rfl) ?_
  refine mx_if_ne (tgt := 12) (mx_d tX11_said_0 3 rfl) (by decide) (fun hc2 => ?_) (fun hc2 => ?_)
  · rw [if_neg hc2] at h
    refine mx_aload_n (mx_d tX11_said_0 6 rfl) rfl rfl ?_
    refine mx_getR (mx_d tX11_said_0 7 rfl) fX11_79 rfl rfl (ly11_o h0) (ly11_r11 h0) ?_
    refine mx_aload_n (mx_d tX11_said_0 8 rfl) rfl rfl ?_
    refine mx_getR (mx_d tX11_said_0 9 rfl) fX11_19 rfl rfl (ly11_o h0) (ly11_r1 h0) ?_
    obtain ⟨r3, h_r3, h⟩ := Option.bind_eq_some_iff.mp h
    refine mx_cVi (mx_d tX11_said_0 10 rfl) iX11_410 rfl vX8_pointsOf ⟨_, rfl, rfl⟩ (ly8_o (ly11_s11 h0)) (CX8_pointsOf (ly11_s11 h0) (ly11_s1 h0) h_r3) (by decide) rfl rfl (Nat.le_of_ble_eq_true rfl) ?_
    refine mx_istore_n (L2 := [.ref a, .int x0, .int r3.1]) (mx_d tX11_said_0 11 rfl) rfl (by decide) (by rfl) ?_
    refine mx_iload_n (mx_d tX11_said_0 12 rfl) rfl rfl ?_
    refine mx_iconst ((-1)) (mx_d tX11_said_0 13 rfl) (by decide) ?_
    refine mx_icmp_ne (tgt := 36) (mx_d tX11_said_0 14 rfl) (by decide) (fun hc4 => ?_) (fun hc4 => ?_)
    · rw [if_neg hc4] at h
      refine mx_iload_n (mx_d tX11_said_0 18 rfl) rfl rfl ?_
      refine mx_iload_n (mx_d tX11_said_0 19 rfl) rfl rfl ?_
      obtain ⟨r5, h_r5, h⟩ := Option.bind_eq_some_iff.mp h
      refine mx_cSi (mx_d tX11_said_0 20 rfl) iX11_418 rfl sX11_bitNumbered (CX11_bitNumbered  h_r5) (by decide) rfl rfl (Nat.le_of_ble_eq_true rfl) ?_
      obtain rfl := Option.some.inj h
      exact mx_ireturn (mx_d tX11_said_0 21 rfl) rfl ⟨rfl, rfl⟩
    · rw [if_pos hc4] at h
      refine mx_iload_n (mx_d tX11_said_0 15 rfl) rfl rfl ?_
      obtain ⟨r6, h_r6, h⟩ := Option.bind_eq_some_iff.mp h
      refine mx_cSi (mx_d tX11_said_0 16 rfl) iX11_413 rfl sJ6_bitCount_0f7a4 (CJ6_bitCount_0f7a4  h_r6) (by decide) rfl rfl (Nat.le_of_ble_eq_true rfl) ?_
      refine mx_goto (tgt := 41) (mx_d tX11_said_0 17 rfl) (by decide) ?_
      obtain rfl := Option.some.inj h
      exact mx_ireturn (mx_d tX11_said_0 21 rfl) rfl ⟨rfl, rfl⟩
  · rw [if_pos hc2] at h
    refine mx_iconst ((-1)) (mx_d tX11_said_0 4 rfl) (by decide) ?_
    obtain rfl := Option.some.inj h
    exact mx_ireturn (mx_d tX11_said_0 5 rfl) rfl ⟨rfl, rfl⟩
def FX11_count (a : Nat) (x0 : Int32) (m : mB) : Option Int32 := (if x0 = 0 then Option.bind (FX4_points (a + 4) m) (fun r2 => (some r2)) else if x0 = 1 then Option.bind (FX4_links (a + 4) m) (fun r4 => (some r4)) else if x0 = 2 then Option.bind (FX4_sets (a + 4) m) (fun r6 => (some r6)) else if x0 = 3 then Option.bind (FX10_length (a + 1) m) (fun r8 => (some r8)) else (some (-1)))
set_option maxRecDepth 20000 in
theorem CX11_count {G : mG} {l : Launch} {e : mE} {a : Nat} {x0 : Int32} {m : mB} {r : Int32} (h0 : ly11 e a) (h : FX11_count a x0 m = some r) : mx_Call G l MX11_count 2 0 0 [.ref a, .int x0] (e, m) (fun v z => v = some (.int r) ∧ z = (e, m)) := by
  refine mx_entry (L := [.ref a, .int x0]) (by decide +kernel) (Nat.le_of_ble_eq_true rfl) rfl ?_
  unfold FX11_count at h
  refine mx_iload_n (mx_d tX11_count_0 0 rfl) rfl rfl ?_
  by_cases hc1 : x0 = 0
  · rw [if_pos hc1] at h
    refine mx_tableIn (tgt := 32) (mx_d tX11_count_0 1 rfl) (by rw [hc1]; decide) (by rw [hc1]; decide) (by rw [hc1]; rfl) (by decide) ?_
    refine mx_aload_n (mx_d tX11_count_0 2 rfl) rfl rfl ?_
    refine mx_getR (mx_d tX11_count_0 3 rfl) fX11_19 rfl rfl (ly11_o h0) (ly11_r1 h0) ?_
    obtain ⟨r2, h_r2, h⟩ := Option.bind_eq_some_iff.mp h
    refine mx_cVi (mx_d tX11_count_0 4 rfl) iX11_433 rfl vX4_points ⟨_, rfl, rfl⟩ (ly4_o (ly11_s1 h0)) (CX4_points (ly11_s1 h0) h_r2) (by decide) rfl rfl (Nat.le_of_ble_eq_true rfl) ?_
    obtain rfl := Option.some.inj h
    exact mx_ireturn (mx_d tX11_count_0 5 rfl) rfl ⟨rfl, rfl⟩
  · rw [if_neg hc1] at h
    by_cases hc3 : x0 = 1
    · rw [if_pos hc3] at h
      refine mx_tableIn (tgt := 40) (mx_d tX11_count_0 1 rfl) (by rw [hc3]; decide) (by rw [hc3]; decide) (by rw [hc3]; rfl) (by decide) ?_
      refine mx_aload_n (mx_d tX11_count_0 6 rfl) rfl rfl ?_
      refine mx_getR (mx_d tX11_count_0 7 rfl) fX11_19 rfl rfl (ly11_o h0) (ly11_r1 h0) ?_
      obtain ⟨r4, h_r4, h⟩ := Option.bind_eq_some_iff.mp h
      refine mx_cVi (mx_d tX11_count_0 8 rfl) iX11_436 rfl vX4_links ⟨_, rfl, rfl⟩ (ly4_o (ly11_s1 h0)) (CX4_links (ly11_s1 h0) h_r4) (by decide) rfl rfl (Nat.le_of_ble_eq_true rfl) ?_
      obtain rfl := Option.some.inj h
      exact mx_ireturn (mx_d tX11_count_0 9 rfl) rfl ⟨rfl, rfl⟩
    · rw [if_neg hc3] at h
      by_cases hc5 : x0 = 2
      · rw [if_pos hc5] at h
        refine mx_tableIn (tgt := 48) (mx_d tX11_count_0 1 rfl) (by rw [hc5]; decide) (by rw [hc5]; decide) (by rw [hc5]; rfl) (by decide) ?_
        refine mx_aload_n (mx_d tX11_count_0 10 rfl) rfl rfl ?_
        refine mx_getR (mx_d tX11_count_0 11 rfl) fX11_19 rfl rfl (ly11_o h0) (ly11_r1 h0) ?_
        obtain ⟨r6, h_r6, h⟩ := Option.bind_eq_some_iff.mp h
        refine mx_cVi (mx_d tX11_count_0 12 rfl) iX11_439 rfl vX4_sets ⟨_, rfl, rfl⟩ (ly4_o (ly11_s1 h0)) (CX4_sets (ly11_s1 h0) h_r6) (by decide) rfl rfl (Nat.le_of_ble_eq_true rfl) ?_
        obtain rfl := Option.some.inj h
        exact mx_ireturn (mx_d tX11_count_0 13 rfl) rfl ⟨rfl, rfl⟩
      · rw [if_neg hc5] at h
        by_cases hc7 : x0 = 3
        · rw [if_pos hc7] at h
          refine mx_tableIn (tgt := 56) (mx_d tX11_count_0 1 rfl) (by rw [hc7]; decide) (by rw [hc7]; decide) (by rw [hc7]; rfl) (by decide) ?_
          refine mx_aload_n (mx_d tX11_count_0 14 rfl) rfl rfl ?_
          refine mx_getR (mx_d tX11_count_0 15 rfl) fX11_10 rfl rfl (ly11_o h0) (ly11_r0 h0) ?_
          obtain ⟨r8, h_r8, h⟩ := Option.bind_eq_some_iff.mp h
          refine mx_cVi (mx_d tX11_count_0 16 rfl) iX11_110 rfl vX10_length ⟨_, rfl, rfl⟩ (ly10_o (ly11_s0 h0)) (CX10_length (ly11_s0 h0) h_r8) (by decide) rfl rfl (Nat.le_of_ble_eq_true rfl) ?_
          obtain rfl := Option.some.inj h
          exact mx_ireturn (mx_d tX11_count_0 17 rfl) rfl ⟨rfl, rfl⟩
        · rw [if_neg hc7] at h
          have z_hc1 := lv_neT hc1 (a := 0) (by decide)
          have z_hc3 := lv_neT hc3 (a := 1) (by decide)
          have z_hc5 := lv_neT hc5 (a := 2) (by decide)
          have z_hc7 := lv_neT hc7 (a := 3) (by decide)
          refine mx_tableOut (tgt := 64) (mx_d tX11_count_0 1 rfl) (by omega) (by decide) ?_
          refine mx_iconst ((-1)) (mx_d tX11_count_0 18 rfl) (by decide) ?_
          obtain rfl := Option.some.inj h
          exact mx_ireturn (mx_d tX11_count_0 19 rfl) rfl ⟨rfl, rfl⟩
def FX11_commonDivisor_L7  (m : mB) : Nat → Int32 → Int32 → Int32 → Option (Int32)
  | 0, _, _, _ => none
  | f + 1, y2, y3, y4 => (if 50 ≤ y4 then (some (y2)) else (if y3 ≤ 0 then (some (y2)) else mx_chk (mx_nz y3) (mx_let (y2 - y2 / y3 * y3) (fun v4 => mx_let (y4 + 1) (fun v5 => (FX11_commonDivisor_L7  m f y3 v4 v5))))))
set_option maxRecDepth 20000 in
theorem CX11_commonDivisor_L7 {G : mG} {l : Launch} {e : mE} {Post : Option Value → mS → Prop}  {m : mB}  : ∀ (f : Nat) {y2 : Int32} {y3 : Int32} {y4 : Int32} {q : (Int32)}, FX11_commonDivisor_L7  m f y2 y3 y4 = some q → (mx_Fr G l MX11_commonDivisor 1 0 0 Post 34 [.float 0, .float 0, .int q, .float 0, .float 0, .float 0] [] (e, m)) → mx_Fr G l MX11_commonDivisor 1 0 0 Post 7 [.float 0, .float 0, .int y2, .int y3, .int y4, .float 0] [] (e, m) := by
  intro f
  induction f with
  | zero => intro _ _ _ _ h; cases h
  | succ f ih =>
    intro y2 y3 y4 q h hex
    rw [FX11_commonDivisor_L7] at h
    refine mx_iload (mx_d tX11_commonDivisor_0 6 rfl) rfl ?_
    refine mx_bipush (50) (mx_d tX11_commonDivisor_0 7 rfl) (by decide) ?_
    refine mx_icmp_ge (tgt := 34) (mx_d tX11_commonDivisor_0 8 rfl) (by decide) (fun hc1 => ?_) (fun hc1 => ?_)
    · rw [if_pos hc1] at h
      obtain rfl := Option.some.inj h
      refine mx_forget (L' := [.float 0, .float 0, .int y2, .float 0, .float 0, .float 0]) ⟨rfl, trivial⟩ ?_
      exact hex
    · rw [if_neg hc1] at h
      refine mx_iload_n (mx_d tX11_commonDivisor_0 9 rfl) rfl rfl ?_
      refine mx_if_le (tgt := 34) (mx_d tX11_commonDivisor_0 10 rfl) (by decide) (fun hc2 => ?_) (fun hc2 => ?_)
      · rw [if_pos hc2] at h
        obtain rfl := Option.some.inj h
        refine mx_forget (L' := [.float 0, .float 0, .int y2, .float 0, .float 0, .float 0]) ⟨rfl, trivial⟩ ?_
        exact hex
      · rw [if_neg hc2] at h
        refine mx_iload_n (mx_d tX11_commonDivisor_0 11 rfl) rfl rfl ?_
        refine mx_iload_n (mx_d tX11_commonDivisor_0 12 rfl) rfl rfl ?_
        obtain ⟨hz3, h⟩ := mx_chkE h
        refine mx_irem (mx_d tX11_commonDivisor_0 13 rfl) (mx_nzE hz3) ?_
        obtain ⟨v4, e_v4, h⟩ := mx_letE h
        refine mx_istore (L2 := [.float 0, .float 0, .int y2, .int y3, .int y4, .int v4]) (mx_d tX11_commonDivisor_0 14 rfl) (by decide) (by rw [e_v4]; rfl) ?_
        refine mx_iload_n (mx_d tX11_commonDivisor_0 15 rfl) rfl rfl ?_
        refine mx_istore_n (L2 := [.float 0, .float 0, .int y3, .int y3, .int y4, .int v4]) (mx_d tX11_commonDivisor_0 16 rfl) rfl (by decide) (by rfl) ?_
        refine mx_iload (mx_d tX11_commonDivisor_0 17 rfl) rfl ?_
        refine mx_istore_n (L2 := [.float 0, .float 0, .int y3, .int v4, .int y4, .int v4]) (mx_d tX11_commonDivisor_0 18 rfl) rfl (by decide) (by rfl) ?_
        obtain ⟨v5, e_v5, h⟩ := mx_letE h
        refine mx_iinc v5 (L2 := [.float 0, .float 0, .int y3, .int v4, .int v5, .int v4]) (mx_d tX11_commonDivisor_0 19 rfl) rfl (by rw [e_v5]; rfl) (by decide) rfl ?_
        refine mx_goto (tgt := 7) (mx_d tX11_commonDivisor_0 20 rfl) (by decide) ?_
        refine mx_forget (L' := [.float 0, .float 0, .int y3, .int v4, .int v5, .float 0]) ⟨rfl, rfl, rfl, trivial⟩ ?_
        exact ih h hex
def FX11_commonDivisor (x0 : Int32) (x1 : Int32) (m : mB) : Option Int32 := Option.bind (FX11_commonDivisor_L7  m mx_FU x0 x1 0) (fun q6 => (some q6))
set_option maxRecDepth 20000 in
theorem CX11_commonDivisor {G : mG} {l : Launch} {e : mE} {x0 : Int32} {x1 : Int32} {m : mB} {r : Int32}  (h : FX11_commonDivisor x0 x1 m = some r) : mx_Call G l MX11_commonDivisor 1 0 0 [.int x0, .int x1] (e, m) (fun v z => v = some (.int r) ∧ z = (e, m)) := by
  refine mx_entry (L := [.int x0, .int x1, .float 0, .float 0, .float 0, .float 0]) (by decide +kernel) (Nat.le_of_ble_eq_true rfl) rfl ?_
  unfold FX11_commonDivisor at h
  refine mx_iload_n (mx_d tX11_commonDivisor_0 0 rfl) rfl rfl ?_
  refine mx_istore_n (L2 := [.int x0, .int x1, .int x0, .float 0, .float 0, .float 0]) (mx_d tX11_commonDivisor_0 1 rfl) rfl (by decide) (by rfl) ?_
  refine mx_iload_n (mx_d tX11_commonDivisor_0 2 rfl) rfl rfl ?_
  refine mx_istore_n (L2 := [.int x0, .int x1, .int x0, .int x1, .float 0, .float 0]) (mx_d tX11_commonDivisor_0 3 rfl) rfl (by decide) (by rfl) ?_
  refine mx_iconst (0) (mx_d tX11_commonDivisor_0 4 rfl) (by decide) ?_
  refine mx_istore (L2 := [.int x0, .int x1, .int x0, .int x1, .int 0, .float 0]) (mx_d tX11_commonDivisor_0 5 rfl) (by decide) (by rfl) ?_
  obtain ⟨q6, h_q6, h⟩ := Option.bind_eq_some_iff.mp h
  refine mx_forget (L' := [.float 0, .float 0, .int x0, .int x1, .int 0, .float 0]) ⟨rfl, rfl, rfl, trivial⟩ ?_
  refine CX11_commonDivisor_L7  mx_FU h_q6 ?_
  refine mx_iload_n (mx_d tX11_commonDivisor_0 21 rfl) rfl rfl ?_
  obtain rfl := Option.some.inj h
  exact mx_ireturn (mx_d tX11_commonDivisor_0 22 rfl) rfl ⟨rfl, rfl⟩
