def FX4_clear_L27 (q0 : Nat) : Nat → Int32 → mB → Option (mB)
  | 0, _, _ => none
  | f + 1, y1, m => (if 100 ≤ y1 then (some (m)) else mx_chk (mx_inb y1 100) (mx_let (mx_up m.1 (q0 + 8) (Int32.toNatClampNeg y1) 0, m.2) (fun m7 => mx_let (y1 + 1) (fun v9 => (FX4_clear_L27 q0 f v9 m7)))))
set_option maxRecDepth 20000 in
theorem CX4_clear_L27 {G : mG} {l : Launch} {e : mE} {Post : Option Value → mS → Prop} {q0 : Nat} (g0 : ly4 e q0) : ∀ (f : Nat) {y1 : Int32} {m : mB} {q : (mB)}, FX4_clear_L27 q0 f y1 m = some q → (mx_Fr G l MX4_clear 1 0 0 Post 49 [.float 0, .float 0] [] (e, q)) → mx_Fr G l MX4_clear 1 0 0 Post 27 [.ref q0, .int y1] [] (e, m) := by
  intro f
  induction f with
  | zero => intro _ _ _ h; cases h
  | succ f ih =>
    intro y1 m q h hex
    rw [FX4_clear_L27] at h
    refine mx_iload_n (mx_d tX4_clear_0 17 rfl) rfl rfl ?_
    refine mx_aload_n (mx_d tX4_clear_0 18 rfl) rfl rfl ?_
    refine mx_getR (mx_d tX4_clear_0 19 rfl) fX4_34 rfl rfl (ly4_o g0) (ly4_r12 g0) ?_
    refine mx_alen 100 (mx_d tX4_clear_0 20 rfl) (ly4_s12 g0) (Or.inl rfl) (by decide) ?_
    refine mx_icmp_ge (tgt := 49) (mx_d tX4_clear_0 21 rfl) (by decide) (fun hc6 => ?_) (fun hc6 => ?_)
    · rw [if_pos hc6] at h
      obtain rfl := Option.some.inj h
      refine mx_forget (L' := [.float 0, .float 0]) trivial ?_
      exact hex
    · rw [if_neg hc6] at h
      refine mx_aload_n (mx_d tX4_clear_0 22 rfl) rfl rfl ?_
      refine mx_getR (mx_d tX4_clear_0 23 rfl) fX4_34 rfl rfl (ly4_o g0) (ly4_r12 g0) ?_
      refine mx_iload_n (mx_d tX4_clear_0 24 rfl) rfl rfl ?_
      refine mx_iconst (0) (mx_d tX4_clear_0 25 rfl) (by decide) ?_
      obtain ⟨hi8, h⟩ := mx_chkE h
      obtain ⟨m7, e_m7, h⟩ := mx_letE h
      refine mx_iastore (mx_d tX4_clear_0 26 rfl) (ly4_s12 g0) (mx_inbE hi8) (mx_eqz (z' := (e, m7)) (by rw [e_m7]) ?_)
      obtain ⟨v9, e_v9, h⟩ := mx_letE h
      refine mx_iinc v9 (L2 := [.ref q0, .int v9]) (mx_d tX4_clear_0 27 rfl) rfl (by rw [e_v9]; rfl) (by decide) rfl ?_
      refine mx_goto (tgt := 27) (mx_d tX4_clear_0 28 rfl) (by decide) ?_
      exact ih h hex
def FX4_clear (a : Nat) (m : mB) : Option mB := mx_let (mx_up m.1 a 0 0, m.2) (fun m1 => mx_let (mx_up m1.1 a 1 0, m1.2) (fun m2 => mx_let (mx_up m2.1 a 2 0, m2.2) (fun m3 => mx_let (mx_up m3.1 a 3 0, m3.2) (fun m4 => mx_let (mx_up m4.1 a 4 0, m4.2) (fun m5 => Option.bind (FX4_clear_L27 a mx_FU 0 m5) (fun q10 => (some q10)))))))
set_option maxRecDepth 20000 in
theorem CX4_clear {G : mG} {l : Launch} {e : mE} {a : Nat} {m : mB} {r : mB} (h0 : ly4 e a) (h : FX4_clear a m = some r) : mx_Call G l MX4_clear 1 0 0 [.ref a] (e, m) (fun v z => v = none ∧ z = (e, r)) := by
  refine mx_entry (L := [.ref a, .float 0]) (by decide +kernel) (Nat.le_of_ble_eq_true rfl) rfl ?_
  unfold FX4_clear at h
  refine mx_aload_n (mx_d tX4_clear_0 0 rfl) rfl rfl ?_
  refine mx_iconst (0) (mx_d tX4_clear_0 1 rfl) (by decide) ?_
  obtain ⟨m1, e_m1, h⟩ := mx_letE h
  refine mx_putI (mx_d tX4_clear_0 2 rfl) fX4_43 rfl ⟨_, rfl, rfl⟩ rfl (ly4_o h0) (mx_eqz (z' := (e, m1)) (by rw [e_m1]) ?_)
  refine mx_aload_n (mx_d tX4_clear_0 3 rfl) rfl rfl ?_
  refine mx_iconst (0) (mx_d tX4_clear_0 4 rfl) (by decide) ?_
  obtain ⟨m2, e_m2, h⟩ := mx_letE h
  refine mx_putI (mx_d tX4_clear_0 5 rfl) fX4_47 rfl ⟨_, rfl, rfl⟩ rfl (ly4_o h0) (mx_eqz (z' := (e, m2)) (by rw [e_m2]) ?_)
  refine mx_aload_n (mx_d tX4_clear_0 6 rfl) rfl rfl ?_
  refine mx_iconst (0) (mx_d tX4_clear_0 7 rfl) (by decide) ?_
  obtain ⟨m3, e_m3, h⟩ := mx_letE h
  refine mx_putI (mx_d tX4_clear_0 8 rfl) fX4_50 rfl ⟨_, rfl, rfl⟩ rfl (ly4_o h0) (mx_eqz (z' := (e, m3)) (by rw [e_m3]) ?_)
  refine mx_aload_n (mx_d tX4_clear_0 9 rfl) rfl rfl ?_
  refine mx_iconst (0) (mx_d tX4_clear_0 10 rfl) (by decide) ?_
  obtain ⟨m4, e_m4, h⟩ := mx_letE h
  refine mx_putI (mx_d tX4_clear_0 11 rfl) fX4_53 rfl ⟨_, rfl, rfl⟩ rfl (ly4_o h0) (mx_eqz (z' := (e, m4)) (by rw [e_m4]) ?_)
  refine mx_aload_n (mx_d tX4_clear_0 12 rfl) rfl rfl ?_
  refine mx_iconst (0) (mx_d tX4_clear_0 13 rfl) (by decide) ?_
  obtain ⟨m5, e_m5, h⟩ := mx_letE h
  refine mx_putI (mx_d tX4_clear_0 14 rfl) fX4_56 rfl ⟨_, rfl, rfl⟩ rfl (ly4_o h0) (mx_eqz (z' := (e, m5)) (by rw [e_m5]) ?_)
  refine mx_iconst (0) (mx_d tX4_clear_0 15 rfl) (by decide) ?_
  refine mx_istore_n (L2 := [.ref a, .int 0]) (mx_d tX4_clear_0 16 rfl) rfl (by decide) (by rfl) ?_
  obtain ⟨q10, h_q10, h⟩ := Option.bind_eq_some_iff.mp h
  refine CX4_clear_L27 h0 mx_FU h_q10 ?_
  obtain rfl := Option.some.inj h
  exact mx_return (mx_d tX4_clear_0 29 rfl) rfl ⟨rfl, rfl⟩
def FX4_copyLinksFrom (a : Nat) (p0 : Nat) (m : mB) : Option mB := mx_let (mx_up m.1 a 0 (m.1 p0 0), m.2) (fun m1 => mx_let (mx_up m1.1 a 1 (m1.1 p0 1), m1.2) (fun m2 => mx_let (mx_cp m2.1 (p0 + 2) (a + 2) 10, m2.2) (fun m3 => mx_let (mx_cp m3.1 (p0 + 5) (a + 5) 30, m3.2) (fun m4 => mx_let (mx_cp m4.1 (p0 + 6) (a + 6) 30, m4.2) (fun m5 => mx_let (mx_cp m5.1 (p0 + 7) (a + 7) 30, m5.2) (fun m6 => mx_let (mx_cp m6.1 (p0 + 8) (a + 8) 100, m6.2) (fun m7 => (some m7))))))))
set_option maxRecDepth 20000 in
theorem CX4_copyLinksFrom {G : mG} {l : Launch} {e : mE} {a : Nat} {p0 : Nat} {m : mB} {r : mB} (h0 : ly4 e a) (h1 : ly4 e p0) (h : FX4_copyLinksFrom a p0 m = some r) : mx_Call G l MX4_copyLinksFrom 1 0 0 [.ref a, .ref p0] (e, m) (fun v z => v = none ∧ z = (e, r)) := by
  refine mx_entry (L := [.ref a, .ref p0]) (by decide +kernel) (Nat.le_of_ble_eq_true rfl) rfl ?_
  unfold FX4_copyLinksFrom at h
  refine mx_aload_n (mx_d tX4_copyLinksFrom_0 0 rfl) rfl rfl ?_
  refine mx_aload_n (mx_d tX4_copyLinksFrom_0 1 rfl) rfl rfl ?_
  refine mx_getI (mx_d tX4_copyLinksFrom_0 2 rfl) fX4_43 rfl (Or.inl rfl) (ly4_o h1) ?_
  obtain ⟨m1, e_m1, h⟩ := mx_letE h
  refine mx_putI (mx_d tX4_copyLinksFrom_0 3 rfl) fX4_43 rfl ⟨_, rfl, rfl⟩ rfl (ly4_o h0) (mx_eqz (z' := (e, m1)) (by rw [e_m1]) ?_)
  refine mx_aload_n (mx_d tX4_copyLinksFrom_0 4 rfl) rfl rfl ?_
  refine mx_aload_n (mx_d tX4_copyLinksFrom_0 5 rfl) rfl rfl ?_
  refine mx_getI (mx_d tX4_copyLinksFrom_0 6 rfl) fX4_47 rfl (Or.inl rfl) (ly4_o h1) ?_
  obtain ⟨m2, e_m2, h⟩ := mx_letE h
  refine mx_putI (mx_d tX4_copyLinksFrom_0 7 rfl) fX4_47 rfl ⟨_, rfl, rfl⟩ rfl (ly4_o h0) (mx_eqz (z' := (e, m2)) (by rw [e_m2]) ?_)
  refine mx_aload_n (mx_d tX4_copyLinksFrom_0 8 rfl) rfl rfl ?_
  refine mx_getR (mx_d tX4_copyLinksFrom_0 9 rfl) fX4_15 rfl rfl (ly4_o h1) (ly4_r6 h1) ?_
  refine mx_iconst (0) (mx_d tX4_copyLinksFrom_0 10 rfl) (by decide) ?_
  refine mx_aload_n (mx_d tX4_copyLinksFrom_0 11 rfl) rfl rfl ?_
  refine mx_getR (mx_d tX4_copyLinksFrom_0 12 rfl) fX4_15 rfl rfl (ly4_o h0) (ly4_r6 h0) ?_
  refine mx_iconst (0) (mx_d tX4_copyLinksFrom_0 13 rfl) (by decide) ?_
  refine mx_bipush (10) (mx_d tX4_copyLinksFrom_0 14 rfl) (by decide) ?_
  obtain ⟨m3, e_m3, h⟩ := mx_letE h
  refine mx_copyI (mx_d tX4_copyLinksFrom_0 15 rfl) aX4_63 rfl (ly4_s6 h1) (ly4_s6 h0) (by decide) (by decide) (by decide) (Nat.le_of_ble_eq_true rfl) (mx_eqz (z' := (e, m3)) (by rw [e_m3]) ?_)
  refine mx_aload_n (mx_d tX4_copyLinksFrom_0 16 rfl) rfl rfl ?_
  refine mx_getR (mx_d tX4_copyLinksFrom_0 17 rfl) fX4_25 rfl rfl (ly4_o h1) (ly4_r9 h1) ?_
  refine mx_iconst (0) (mx_d tX4_copyLinksFrom_0 18 rfl) (by decide) ?_
  refine mx_aload_n (mx_d tX4_copyLinksFrom_0 19 rfl) rfl rfl ?_
  refine mx_getR (mx_d tX4_copyLinksFrom_0 20 rfl) fX4_25 rfl rfl (ly4_o h0) (ly4_r9 h0) ?_
  refine mx_iconst (0) (mx_d tX4_copyLinksFrom_0 21 rfl) (by decide) ?_
  refine mx_bipush (30) (mx_d tX4_copyLinksFrom_0 22 rfl) (by decide) ?_
  obtain ⟨m4, e_m4, h⟩ := mx_letE h
  refine mx_copyI (mx_d tX4_copyLinksFrom_0 23 rfl) aX4_63 rfl (ly4_s9 h1) (ly4_s9 h0) (by decide) (by decide) (by decide) (Nat.le_of_ble_eq_true rfl) (mx_eqz (z' := (e, m4)) (by rw [e_m4]) ?_)
  refine mx_aload_n (mx_d tX4_copyLinksFrom_0 24 rfl) rfl rfl ?_
  refine mx_getR (mx_d tX4_copyLinksFrom_0 25 rfl) fX4_28 rfl rfl (ly4_o h1) (ly4_r10 h1) ?_
  refine mx_iconst (0) (mx_d tX4_copyLinksFrom_0 26 rfl) (by decide) ?_
  refine mx_aload_n (mx_d tX4_copyLinksFrom_0 27 rfl) rfl rfl ?_
  refine mx_getR (mx_d tX4_copyLinksFrom_0 28 rfl) fX4_28 rfl rfl (ly4_o h0) (ly4_r10 h0) ?_
  refine mx_iconst (0) (mx_d tX4_copyLinksFrom_0 29 rfl) (by decide) ?_
  refine mx_bipush (30) (mx_d tX4_copyLinksFrom_0 30 rfl) (by decide) ?_
  obtain ⟨m5, e_m5, h⟩ := mx_letE h
  refine mx_copyI (mx_d tX4_copyLinksFrom_0 31 rfl) aX4_63 rfl (ly4_s10 h1) (ly4_s10 h0) (by decide) (by decide) (by decide) (Nat.le_of_ble_eq_true rfl) (mx_eqz (z' := (e, m5)) (by rw [e_m5]) ?_)
  refine mx_aload_n (mx_d tX4_copyLinksFrom_0 32 rfl) rfl rfl ?_
  refine mx_getR (mx_d tX4_copyLinksFrom_0 33 rfl) fX4_31 rfl rfl (ly4_o h1) (ly4_r11 h1) ?_
  refine mx_iconst (0) (mx_d tX4_copyLinksFrom_0 34 rfl) (by decide) ?_
  refine mx_aload_n (mx_d tX4_copyLinksFrom_0 35 rfl) rfl rfl ?_
  refine mx_getR (mx_d tX4_copyLinksFrom_0 36 rfl) fX4_31 rfl rfl (ly4_o h0) (ly4_r11 h0) ?_
  refine mx_iconst (0) (mx_d tX4_copyLinksFrom_0 37 rfl) (by decide) ?_
  refine mx_bipush (30) (mx_d tX4_copyLinksFrom_0 38 rfl) (by decide) ?_
  obtain ⟨m6, e_m6, h⟩ := mx_letE h
  refine mx_copyI (mx_d tX4_copyLinksFrom_0 39 rfl) aX4_63 rfl (ly4_s11 h1) (ly4_s11 h0) (by decide) (by decide) (by decide) (Nat.le_of_ble_eq_true rfl) (mx_eqz (z' := (e, m6)) (by rw [e_m6]) ?_)
  refine mx_aload_n (mx_d tX4_copyLinksFrom_0 40 rfl) rfl rfl ?_
  refine mx_getR (mx_d tX4_copyLinksFrom_0 41 rfl) fX4_34 rfl rfl (ly4_o h1) (ly4_r12 h1) ?_
  refine mx_iconst (0) (mx_d tX4_copyLinksFrom_0 42 rfl) (by decide) ?_
  refine mx_aload_n (mx_d tX4_copyLinksFrom_0 43 rfl) rfl rfl ?_
  refine mx_getR (mx_d tX4_copyLinksFrom_0 44 rfl) fX4_34 rfl rfl (ly4_o h0) (ly4_r12 h0) ?_
  refine mx_iconst (0) (mx_d tX4_copyLinksFrom_0 45 rfl) (by decide) ?_
  refine mx_bipush (100) (mx_d tX4_copyLinksFrom_0 46 rfl) (by decide) ?_
  obtain ⟨m7, e_m7, h⟩ := mx_letE h
  refine mx_copyI (mx_d tX4_copyLinksFrom_0 47 rfl) aX4_63 rfl (ly4_s12 h1) (ly4_s12 h0) (by decide) (by decide) (by decide) (Nat.le_of_ble_eq_true rfl) (mx_eqz (z' := (e, m7)) (by rw [e_m7]) ?_)
  obtain rfl := Option.some.inj h
  exact mx_return (mx_d tX4_copyLinksFrom_0 48 rfl) rfl ⟨rfl, rfl⟩
def FX4_copyFrom (a : Nat) (p0 : Nat) (m : mB) : Option mB := Option.bind (FX4_copyLinksFrom a p0 m) (fun r1 => mx_let (mx_up r1.1 a 2 (r1.1 p0 2), r1.2) (fun m2 => mx_let (mx_up m2.1 a 3 (m2.1 p0 3), m2.2) (fun m3 => mx_let (mx_up m3.1 a 4 (m3.1 p0 4), m3.2) (fun m4 => mx_let (m4.1, mx_cl m4.2 (p0 + 1) (a + 1) 10) (fun m5 => mx_let (mx_cp m5.1 (p0 + 3) (a + 3) 10, m5.2) (fun m6 => mx_let (mx_cp m6.1 (p0 + 4) (a + 4) 10, m6.2) (fun m7 => mx_let (mx_cp m7.1 (p0 + 9) (a + 9) 6, m7.2) (fun m8 => mx_let (mx_cp m8.1 (p0 + 10) (a + 10) 6, m8.2) (fun m9 => (some m9))))))))))
set_option maxRecDepth 20000 in
theorem CX4_copyFrom {G : mG} {l : Launch} {e : mE} {a : Nat} {p0 : Nat} {m : mB} {r : mB} (h0 : ly4 e a) (h1 : ly4 e p0) (h : FX4_copyFrom a p0 m = some r) : mx_Call G l MX4_copyFrom 2 0 0 [.ref a, .ref p0] (e, m) (fun v z => v = none ∧ z = (e, r)) := by
  refine mx_entry (L := [.ref a, .ref p0]) (by decide +kernel) (Nat.le_of_ble_eq_true rfl) rfl ?_
  unfold FX4_copyFrom at h
  refine mx_aload_n (mx_d tX4_copyFrom_0 0 rfl) rfl rfl ?_
  refine mx_aload_n (mx_d tX4_copyFrom_0 1 rfl) rfl rfl ?_
  obtain ⟨r1, h_r1, h⟩ := Option.bind_eq_some_iff.mp h
  refine mx_cVv (mx_d tX4_copyFrom_0 2 rfl) iX4_59 rfl vX4_copyLinksFrom ⟨_, rfl, rfl⟩ (ly4_o h0) (CX4_copyLinksFrom h0 h1 h_r1) (by decide) rfl rfl (Nat.le_of_ble_eq_true rfl) ?_
  refine mx_aload_n (mx_d tX4_copyFrom_0 3 rfl) rfl rfl ?_
  refine mx_aload_n (mx_d tX4_copyFrom_0 4 rfl) rfl rfl ?_
  refine mx_getI (mx_d tX4_copyFrom_0 5 rfl) fX4_50 rfl (Or.inl rfl) (ly4_o h1) ?_
  obtain ⟨m2, e_m2, h⟩ := mx_letE h
  refine mx_putI (mx_d tX4_copyFrom_0 6 rfl) fX4_50 rfl ⟨_, rfl, rfl⟩ rfl (ly4_o h0) (mx_eqz (z' := (e, m2)) (by rw [e_m2]) ?_)
  refine mx_aload_n (mx_d tX4_copyFrom_0 7 rfl) rfl rfl ?_
  refine mx_aload_n (mx_d tX4_copyFrom_0 8 rfl) rfl rfl ?_
  refine mx_getI (mx_d tX4_copyFrom_0 9 rfl) fX4_53 rfl (Or.inl rfl) (ly4_o h1) ?_
  obtain ⟨m3, e_m3, h⟩ := mx_letE h
  refine mx_putI (mx_d tX4_copyFrom_0 10 rfl) fX4_53 rfl ⟨_, rfl, rfl⟩ rfl (ly4_o h0) (mx_eqz (z' := (e, m3)) (by rw [e_m3]) ?_)
  refine mx_aload_n (mx_d tX4_copyFrom_0 11 rfl) rfl rfl ?_
  refine mx_aload_n (mx_d tX4_copyFrom_0 12 rfl) rfl rfl ?_
  refine mx_getI (mx_d tX4_copyFrom_0 13 rfl) fX4_56 rfl (Or.inl rfl) (ly4_o h1) ?_
  obtain ⟨m4, e_m4, h⟩ := mx_letE h
  refine mx_putI (mx_d tX4_copyFrom_0 14 rfl) fX4_56 rfl ⟨_, rfl, rfl⟩ rfl (ly4_o h0) (mx_eqz (z' := (e, m4)) (by rw [e_m4]) ?_)
  refine mx_aload_n (mx_d tX4_copyFrom_0 15 rfl) rfl rfl ?_
  refine mx_getR (mx_d tX4_copyFrom_0 16 rfl) fX4_9 rfl rfl (ly4_o h1) (ly4_r5 h1) ?_
  refine mx_iconst (0) (mx_d tX4_copyFrom_0 17 rfl) (by decide) ?_
  refine mx_aload_n (mx_d tX4_copyFrom_0 18 rfl) rfl rfl ?_
  refine mx_getR (mx_d tX4_copyFrom_0 19 rfl) fX4_9 rfl rfl (ly4_o h0) (ly4_r5 h0) ?_
  refine mx_iconst (0) (mx_d tX4_copyFrom_0 20 rfl) (by decide) ?_
  refine mx_bipush (10) (mx_d tX4_copyFrom_0 21 rfl) (by decide) ?_
  obtain ⟨m5, e_m5, h⟩ := mx_letE h
  refine mx_copyJ (mx_d tX4_copyFrom_0 22 rfl) aX4_63 rfl (ly4_s5 h1) (ly4_s5 h0) (by decide) (by decide) (by decide) (Nat.le_of_ble_eq_true rfl) (mx_eqz (z' := (e, m5)) (by rw [e_m5]) ?_)
  refine mx_aload_n (mx_d tX4_copyFrom_0 23 rfl) rfl rfl ?_
  refine mx_getR (mx_d tX4_copyFrom_0 24 rfl) fX4_19 rfl rfl (ly4_o h1) (ly4_r7 h1) ?_
  refine mx_iconst (0) (mx_d tX4_copyFrom_0 25 rfl) (by decide) ?_
  refine mx_aload_n (mx_d tX4_copyFrom_0 26 rfl) rfl rfl ?_
  refine mx_getR (mx_d tX4_copyFrom_0 27 rfl) fX4_19 rfl rfl (ly4_o h0) (ly4_r7 h0) ?_
  refine mx_iconst (0) (mx_d tX4_copyFrom_0 28 rfl) (by decide) ?_
  refine mx_bipush (10) (mx_d tX4_copyFrom_0 29 rfl) (by decide) ?_
  obtain ⟨m6, e_m6, h⟩ := mx_letE h
  refine mx_copyI (mx_d tX4_copyFrom_0 30 rfl) aX4_63 rfl (ly4_s7 h1) (ly4_s7 h0) (by decide) (by decide) (by decide) (Nat.le_of_ble_eq_true rfl) (mx_eqz (z' := (e, m6)) (by rw [e_m6]) ?_)
  refine mx_aload_n (mx_d tX4_copyFrom_0 31 rfl) rfl rfl ?_
  refine mx_getR (mx_d tX4_copyFrom_0 32 rfl) fX4_22 rfl rfl (ly4_o h1) (ly4_r8 h1) ?_
  refine mx_iconst (0) (mx_d tX4_copyFrom_0 33 rfl) (by decide) ?_
  refine mx_aload_n (mx_d tX4_copyFrom_0 34 rfl) rfl rfl ?_
  refine mx_getR (mx_d tX4_copyFrom_0 35 rfl) fX4_22 rfl rfl (ly4_o h0) (ly4_r8 h0) ?_
  refine mx_iconst (0) (mx_d tX4_copyFrom_0 36 rfl) (by decide) ?_
  refine mx_bipush (10) (mx_d tX4_copyFrom_0 37 rfl) (by decide) ?_
  obtain ⟨m7, e_m7, h⟩ := mx_letE h
  refine mx_copyI (mx_d tX4_copyFrom_0 38 rfl) aX4_63 rfl (ly4_s8 h1) (ly4_s8 h0) (by decide) (by decide) (by decide) (Nat.le_of_ble_eq_true rfl) (mx_eqz (z' := (e, m7)) (by rw [e_m7]) ?_)
  refine mx_aload_n (mx_d tX4_copyFrom_0 39 rfl) rfl rfl ?_
  refine mx_getR (mx_d tX4_copyFrom_0 40 rfl) fX4_37 rfl rfl (ly4_o h1) (ly4_r13 h1) ?_
  refine mx_iconst (0) (mx_d tX4_copyFrom_0 41 rfl) (by decide) ?_
  refine mx_aload_n (mx_d tX4_copyFrom_0 42 rfl) rfl rfl ?_
  refine mx_getR (mx_d tX4_copyFrom_0 43 rfl) fX4_37 rfl rfl (ly4_o h0) (ly4_r13 h0) ?_
  refine mx_iconst (0) (mx_d tX4_copyFrom_0 44 rfl) (by decide) ?_
  refine mx_bipush (6) (mx_d tX4_copyFrom_0 45 rfl) (by decide) ?_
  obtain ⟨m8, e_m8, h⟩ := mx_letE h
  refine mx_copyI (mx_d tX4_copyFrom_0 46 rfl) aX4_63 rfl (ly4_s13 h1) (ly4_s13 h0) (by decide) (by decide) (by decide) (Nat.le_of_ble_eq_true rfl) (mx_eqz (z' := (e, m8)) (by rw [e_m8]) ?_)
  refine mx_aload_n (mx_d tX4_copyFrom_0 47 rfl) rfl rfl ?_
  refine mx_getR (mx_d tX4_copyFrom_0 48 rfl) fX4_40 rfl rfl (ly4_o h1) (ly4_r14 h1) ?_
  refine mx_iconst (0) (mx_d tX4_copyFrom_0 49 rfl) (by decide) ?_
  refine mx_aload_n (mx_d tX4_copyFrom_0 50 rfl) rfl rfl ?_
  refine mx_getR (mx_d tX4_copyFrom_0 51 rfl) fX4_40 rfl rfl (ly4_o h0) (ly4_r14 h0) ?_
  refine mx_iconst (0) (mx_d tX4_copyFrom_0 52 rfl) (by decide) ?_
  refine mx_bipush (6) (mx_d tX4_copyFrom_0 53 rfl) (by decide) ?_
  obtain ⟨m9, e_m9, h⟩ := mx_letE h
  refine mx_copyI (mx_d tX4_copyFrom_0 54 rfl) aX4_63 rfl (ly4_s14 h1) (ly4_s14 h0) (by decide) (by decide) (by decide) (Nat.le_of_ble_eq_true rfl) (mx_eqz (z' := (e, m9)) (by rw [e_m9]) ?_)
  obtain rfl := Option.some.inj h
  exact mx_return (mx_d tX4_copyFrom_0 55 rfl) rfl ⟨rfl, rfl⟩
def FX4_hasLinksOf_L26 (q0 : Nat) (q1 : Nat) (m : mB) : Nat → Int32 → Option (Int32 ⊕ (Unit))
  | 0, _ => none
  | f + 1, y2 => (if (m.1 q0 1) ≤ y2 then (some (.inr ())) else (if 30 ≤ y2 then (some (.inr ())) else mx_chk (mx_inb y2 30) ((if (m.1 (q0 + 5) (Int32.toNatClampNeg y2)) = (m.1 (q1 + 5) (Int32.toNatClampNeg y2)) then (if (m.1 (q0 + 6) (Int32.toNatClampNeg y2)) = (m.1 (q1 + 6) (Int32.toNatClampNeg y2)) then (if (m.1 (q0 + 7) (Int32.toNatClampNeg y2)) = (m.1 (q1 + 7) (Int32.toNatClampNeg y2)) then mx_let (y2 + 1) (fun v9 => (FX4_hasLinksOf_L26 q0 q1 m f v9)) else (some (.inl 0))) else (some (.inl 0))) else (some (.inl 0))))))
set_option maxRecDepth 20000 in
theorem CX4_hasLinksOf_L26 {G : mG} {l : Launch} {e : mE} {Post : Option Value → mS → Prop} {q0 : Nat} {q1 : Nat} {m : mB} (g0 : ly4 e q0) (g1 : ly4 e q1) : ∀ (f : Nat) {y2 : Int32} {q : (Int32 ⊕ (Unit))}, FX4_hasLinksOf_L26 q0 q1 m f y2 = some q → (∀ rr, q = .inl rr → Post (some (.int rr)) (e, m)) → (∀ u, q = .inr u → mx_Fr G l MX4_hasLinksOf 1 0 0 Post 93 [.float 0, .float 0, .float 0] [] (e, m)) → mx_Fr G l MX4_hasLinksOf 1 0 0 Post 26 [.ref q0, .ref q1, .int y2] [] (e, m) := by
  intro f
  induction f with
  | zero => intro _ _ h; cases h
  | succ f ih =>
    intro y2 q h hret hex
    rw [FX4_hasLinksOf_L26] at h
    refine mx_iload_n (mx_d tX4_hasLinksOf_0 14 rfl) rfl rfl ?_
    refine mx_aload_n (mx_d tX4_hasLinksOf_0 15 rfl) rfl rfl ?_
    refine mx_getI (mx_d tX4_hasLinksOf_0 16 rfl) fX4_47 rfl (Or.inl rfl) (ly4_o g0) ?_
    refine mx_icmp_ge (tgt := 93) (mx_d tX4_hasLinksOf_0 17 rfl) (by decide) (fun hc3 => ?_) (fun hc3 => ?_)
    · rw [if_pos hc3] at h
      obtain rfl := Option.some.inj h
      refine mx_forget (L' := [.float 0, .float 0, .float 0]) trivial ?_
      exact (hex _ rfl)
    · rw [if_neg hc3] at h
      refine mx_iload_n (mx_d tX4_hasLinksOf_0 18 rfl) rfl rfl ?_
      refine mx_bipush (30) (mx_d tX4_hasLinksOf_0 19 rfl) (by decide) ?_
      refine mx_icmp_ge (tgt := 93) (mx_d tX4_hasLinksOf_0 20 rfl) (by decide) (fun hc4 => ?_) (fun hc4 => ?_)
      · rw [if_pos hc4] at h
        obtain rfl := Option.some.inj h
        refine mx_forget (L' := [.float 0, .float 0, .float 0]) trivial ?_
        exact (hex _ rfl)
      · rw [if_neg hc4] at h
        refine mx_aload_n (mx_d tX4_hasLinksOf_0 21 rfl) rfl rfl ?_
        refine mx_getR (mx_d tX4_hasLinksOf_0 22 rfl) fX4_25 rfl rfl (ly4_o g0) (ly4_r9 g0) ?_
        refine mx_iload_n (mx_d tX4_hasLinksOf_0 23 rfl) rfl rfl ?_
        obtain ⟨hi5, h⟩ := mx_chkE h
        refine mx_iaload (mx_d tX4_hasLinksOf_0 24 rfl) (ly4_s9 g0) (mx_inbE hi5) ?_
        refine mx_aload_n (mx_d tX4_hasLinksOf_0 25 rfl) rfl rfl ?_
        refine mx_getR (mx_d tX4_hasLinksOf_0 26 rfl) fX4_25 rfl rfl (ly4_o g1) (ly4_r9 g1) ?_
        refine mx_iload_n (mx_d tX4_hasLinksOf_0 27 rfl) rfl rfl ?_
        refine mx_iaload (mx_d tX4_hasLinksOf_0 28 rfl) (ly4_s9 g1) (mx_inbE hi5) ?_
        refine mx_icmp_ne (tgt := 85) (mx_d tX4_hasLinksOf_0 29 rfl) (by decide) (fun hc6 => ?_) (fun hc6 => ?_)
        · rw [if_neg hc6] at h
          refine mx_iconst (0) (mx_d tX4_hasLinksOf_0 48 rfl) (by decide) ?_
          obtain rfl := Option.some.inj h
          exact mx_zreturn (mx_d tX4_hasLinksOf_0 49 rfl) rfl rfl (hret _ rfl)
        · rw [if_pos hc6] at h
          refine mx_aload_n (mx_d tX4_hasLinksOf_0 30 rfl) rfl rfl ?_
          refine mx_getR (mx_d tX4_hasLinksOf_0 31 rfl) fX4_28 rfl rfl (ly4_o g0) (ly4_r10 g0) ?_
          refine mx_iload_n (mx_d tX4_hasLinksOf_0 32 rfl) rfl rfl ?_
          refine mx_iaload (mx_d tX4_hasLinksOf_0 33 rfl) (ly4_s10 g0) (mx_inbE hi5) ?_
          refine mx_aload_n (mx_d tX4_hasLinksOf_0 34 rfl) rfl rfl ?_
          refine mx_getR (mx_d tX4_hasLinksOf_0 35 rfl) fX4_28 rfl rfl (ly4_o g1) (ly4_r10 g1) ?_
          refine mx_iload_n (mx_d tX4_hasLinksOf_0 36 rfl) rfl rfl ?_
          refine mx_iaload (mx_d tX4_hasLinksOf_0 37 rfl) (ly4_s10 g1) (mx_inbE hi5) ?_
          refine mx_icmp_ne (tgt := 85) (mx_d tX4_hasLinksOf_0 38 rfl) (by decide) (fun hc7 => ?_) (fun hc7 => ?_)
          · rw [if_neg hc7] at h
            refine mx_iconst (0) (mx_d tX4_hasLinksOf_0 48 rfl) (by decide) ?_
            obtain rfl := Option.some.inj h
            exact mx_zreturn (mx_d tX4_hasLinksOf_0 49 rfl) rfl rfl (hret _ rfl)
          · rw [if_pos hc7] at h
            refine mx_aload_n (mx_d tX4_hasLinksOf_0 39 rfl) rfl rfl ?_
            refine mx_getR (mx_d tX4_hasLinksOf_0 40 rfl) fX4_31 rfl rfl (ly4_o g0) (ly4_r11 g0) ?_
            refine mx_iload_n (mx_d tX4_hasLinksOf_0 41 rfl) rfl rfl ?_
            refine mx_iaload (mx_d tX4_hasLinksOf_0 42 rfl) (ly4_s11 g0) (mx_inbE hi5) ?_
            refine mx_aload_n (mx_d tX4_hasLinksOf_0 43 rfl) rfl rfl ?_
            refine mx_getR (mx_d tX4_hasLinksOf_0 44 rfl) fX4_31 rfl rfl (ly4_o g1) (ly4_r11 g1) ?_
            refine mx_iload_n (mx_d tX4_hasLinksOf_0 45 rfl) rfl rfl ?_
            refine mx_iaload (mx_d tX4_hasLinksOf_0 46 rfl) (ly4_s11 g1) (mx_inbE hi5) ?_
            refine mx_icmp_eq (tgt := 87) (mx_d tX4_hasLinksOf_0 47 rfl) (by decide) (fun hc8 => ?_) (fun hc8 => ?_)
            · rw [if_pos hc8] at h
              obtain ⟨v9, e_v9, h⟩ := mx_letE h
              refine mx_iinc v9 (L2 := [.ref q0, .ref q1, .int v9]) (mx_d tX4_hasLinksOf_0 50 rfl) rfl (by rw [e_v9]; rfl) (by decide) rfl ?_
              refine mx_goto (tgt := 26) (mx_d tX4_hasLinksOf_0 51 rfl) (by decide) ?_
              exact ih h hret hex
            · rw [if_neg hc8] at h
              refine mx_iconst (0) (mx_d tX4_hasLinksOf_0 48 rfl) (by decide) ?_
              obtain rfl := Option.some.inj h
              exact mx_zreturn (mx_d tX4_hasLinksOf_0 49 rfl) rfl rfl (hret _ rfl)
def FX4_hasLinksOf (a : Nat) (p0 : Nat) (m : mB) : Option Int32 := (if (m.1 a 0) = (m.1 p0 0) then (if (m.1 a 1) = (m.1 p0 1) then Option.bind (FX4_hasLinksOf_L26 a p0 m mx_FU 0) (fun q10 => Sum.elim (fun rr => some rr) (fun u11 => (some 1)) q10) else (some 0)) else (some 0))
set_option maxRecDepth 20000 in
theorem CX4_hasLinksOf {G : mG} {l : Launch} {e : mE} {a : Nat} {p0 : Nat} {m : mB} {r : Int32} (h0 : ly4 e a) (h1 : ly4 e p0) (h : FX4_hasLinksOf a p0 m = some r) : mx_Call G l MX4_hasLinksOf 1 0 0 [.ref a, .ref p0] (e, m) (fun v z => v = some (.int r) ∧ z = (e, m)) := by
  refine mx_entry (L := [.ref a, .ref p0, .float 0]) (by decide +kernel) (Nat.le_of_ble_eq_true rfl) rfl ?_
  unfold FX4_hasLinksOf at h
  refine mx_aload_n (mx_d tX4_hasLinksOf_0 0 rfl) rfl rfl ?_
  refine mx_getI (mx_d tX4_hasLinksOf_0 1 rfl) fX4_43 rfl (Or.inl rfl) (ly4_o h0) ?_
  refine mx_aload_n (mx_d tX4_hasLinksOf_0 2 rfl) rfl rfl ?_
  refine mx_getI (mx_d tX4_hasLinksOf_0 3 rfl) fX4_43 rfl (Or.inl rfl) (ly4_o h1) ?_
  refine mx_icmp_ne (tgt := 22) (mx_d tX4_hasLinksOf_0 4 rfl) (by decide) (fun hc1 => ?_) (fun hc1 => ?_)
  · rw [if_neg hc1] at h
    refine mx_iconst (0) (mx_d tX4_hasLinksOf_0 10 rfl) (by decide) ?_
    obtain rfl := Option.some.inj h
    exact mx_zreturn (mx_d tX4_hasLinksOf_0 11 rfl) rfl rfl ⟨rfl, rfl⟩
  · rw [if_pos hc1] at h
    refine mx_aload_n (mx_d tX4_hasLinksOf_0 5 rfl) rfl rfl ?_
    refine mx_getI (mx_d tX4_hasLinksOf_0 6 rfl) fX4_47 rfl (Or.inl rfl) (ly4_o h0) ?_
    refine mx_aload_n (mx_d tX4_hasLinksOf_0 7 rfl) rfl rfl ?_
    refine mx_getI (mx_d tX4_hasLinksOf_0 8 rfl) fX4_47 rfl (Or.inl rfl) (ly4_o h1) ?_
    refine mx_icmp_eq (tgt := 24) (mx_d tX4_hasLinksOf_0 9 rfl) (by decide) (fun hc2 => ?_) (fun hc2 => ?_)
    · rw [if_pos hc2] at h
      refine mx_iconst (0) (mx_d tX4_hasLinksOf_0 12 rfl) (by decide) ?_
      refine mx_istore_n (L2 := [.ref a, .ref p0, .int 0]) (mx_d tX4_hasLinksOf_0 13 rfl) rfl (by decide) (by rfl) ?_
      obtain ⟨q10, h_q10, h⟩ := Option.bind_eq_some_iff.mp h
      refine CX4_hasLinksOf_L26 h0 h1 mx_FU h_q10 (fun rr12 e_rr12 => ?_) (fun u11 e_u11 => ?_)
      · subst e_rr12
        rw [Sum.elim_inl] at h
        obtain rfl := Option.some.inj h
        exact ⟨rfl, rfl⟩
      · subst e_u11
        rw [Sum.elim_inr] at h
        refine mx_iconst (1) (mx_d tX4_hasLinksOf_0 52 rfl) (by decide) ?_
        obtain rfl := Option.some.inj h
        exact mx_zreturn (mx_d tX4_hasLinksOf_0 53 rfl) rfl rfl ⟨rfl, rfl⟩
    · rw [if_neg hc2] at h
      refine mx_iconst (0) (mx_d tX4_hasLinksOf_0 10 rfl) (by decide) ?_
      obtain rfl := Option.some.inj h
      exact mx_zreturn (mx_d tX4_hasLinksOf_0 11 rfl) rfl rfl ⟨rfl, rfl⟩
def FX4_points (a : Nat) (m : mB) : Option Int32 := (some (m.1 a 0))
set_option maxRecDepth 20000 in
theorem CX4_points {G : mG} {l : Launch} {e : mE} {a : Nat} {m : mB} {r : Int32} (h0 : ly4 e a) (h : FX4_points a m = some r) : mx_Call G l MX4_points 1 0 0 [.ref a] (e, m) (fun v z => v = some (.int r) ∧ z = (e, m)) := by
  refine mx_entry (L := [.ref a]) (by decide +kernel) (Nat.le_of_ble_eq_true rfl) rfl ?_
  unfold FX4_points at h
  refine mx_aload_n (mx_d tX4_points_0 0 rfl) rfl rfl ?_
  refine mx_getI (mx_d tX4_points_0 1 rfl) fX4_43 rfl (Or.inl rfl) (ly4_o h0) ?_
  obtain rfl := Option.some.inj h
  exact mx_ireturn (mx_d tX4_points_0 2 rfl) rfl ⟨rfl, rfl⟩
def FX4_links (a : Nat) (m : mB) : Option Int32 := (some (m.1 a 1))
set_option maxRecDepth 20000 in
theorem CX4_links {G : mG} {l : Launch} {e : mE} {a : Nat} {m : mB} {r : Int32} (h0 : ly4 e a) (h : FX4_links a m = some r) : mx_Call G l MX4_links 1 0 0 [.ref a] (e, m) (fun v z => v = some (.int r) ∧ z = (e, m)) := by
  refine mx_entry (L := [.ref a]) (by decide +kernel) (Nat.le_of_ble_eq_true rfl) rfl ?_
  unfold FX4_links at h
  refine mx_aload_n (mx_d tX4_links_0 0 rfl) rfl rfl ?_
  refine mx_getI (mx_d tX4_links_0 1 rfl) fX4_47 rfl (Or.inl rfl) (ly4_o h0) ?_
  obtain rfl := Option.some.inj h
  exact mx_ireturn (mx_d tX4_links_0 2 rfl) rfl ⟨rfl, rfl⟩
def FX4_sets (a : Nat) (m : mB) : Option Int32 := (some (m.1 a 2))
set_option maxRecDepth 20000 in
theorem CX4_sets {G : mG} {l : Launch} {e : mE} {a : Nat} {m : mB} {r : Int32} (h0 : ly4 e a) (h : FX4_sets a m = some r) : mx_Call G l MX4_sets 1 0 0 [.ref a] (e, m) (fun v z => v = some (.int r) ∧ z = (e, m)) := by
  refine mx_entry (L := [.ref a]) (by decide +kernel) (Nat.le_of_ble_eq_true rfl) rfl ?_
  unfold FX4_sets at h
  refine mx_aload_n (mx_d tX4_sets_0 0 rfl) rfl rfl ?_
  refine mx_getI (mx_d tX4_sets_0 1 rfl) fX4_50 rfl (Or.inl rfl) (ly4_o h0) ?_
  obtain rfl := Option.some.inj h
  exact mx_ireturn (mx_d tX4_sets_0 2 rfl) rfl ⟨rfl, rfl⟩
def FX4_turned (a : Nat) (m : mB) : Option Int32 := (some (m.1 a 3))
set_option maxRecDepth 20000 in
theorem CX4_turned {G : mG} {l : Launch} {e : mE} {a : Nat} {m : mB} {r : Int32} (h0 : ly4 e a) (h : FX4_turned a m = some r) : mx_Call G l MX4_turned 1 0 0 [.ref a] (e, m) (fun v z => v = some (.int r) ∧ z = (e, m)) := by
  refine mx_entry (L := [.ref a]) (by decide +kernel) (Nat.le_of_ble_eq_true rfl) rfl ?_
  unfold FX4_turned at h
  refine mx_aload_n (mx_d tX4_turned_0 0 rfl) rfl rfl ?_
  refine mx_getI (mx_d tX4_turned_0 1 rfl) fX4_53 rfl (Or.inl rfl) (ly4_o h0) ?_
  obtain rfl := Option.some.inj h
  exact mx_ireturn (mx_d tX4_turned_0 2 rfl) rfl ⟨rfl, rfl⟩
def FX4_shrunk (a : Nat) (m : mB) : Option Int32 := (some (m.1 a 4))
set_option maxRecDepth 20000 in
theorem CX4_shrunk {G : mG} {l : Launch} {e : mE} {a : Nat} {m : mB} {r : Int32} (h0 : ly4 e a) (h : FX4_shrunk a m = some r) : mx_Call G l MX4_shrunk 1 0 0 [.ref a] (e, m) (fun v z => v = some (.int r) ∧ z = (e, m)) := by
  refine mx_entry (L := [.ref a]) (by decide +kernel) (Nat.le_of_ble_eq_true rfl) rfl ?_
  unfold FX4_shrunk at h
  refine mx_aload_n (mx_d tX4_shrunk_0 0 rfl) rfl rfl ?_
  refine mx_getI (mx_d tX4_shrunk_0 1 rfl) fX4_56 rfl (Or.inl rfl) (ly4_o h0) ?_
  obtain rfl := Option.some.inj h
  exact mx_ireturn (mx_d tX4_shrunk_0 2 rfl) rfl ⟨rfl, rfl⟩
def FX4_hasPoint (a : Nat) (x0 : Int32) (m : mB) : Option Int32 := (if x0 < 0 then (some 0) else (if (m.1 a 0) ≤ x0 then (some 0) else (if 10 ≤ x0 then (some 0) else (some 1))))
set_option maxRecDepth 20000 in
theorem CX4_hasPoint {G : mG} {l : Launch} {e : mE} {a : Nat} {x0 : Int32} {m : mB} {r : Int32} (h0 : ly4 e a) (h : FX4_hasPoint a x0 m = some r) : mx_Call G l MX4_hasPoint 1 0 0 [.ref a, .int x0] (e, m) (fun v z => v = some (.int r) ∧ z = (e, m)) := by
  refine mx_entry (L := [.ref a, .int x0]) (by decide +kernel) (Nat.le_of_ble_eq_true rfl) rfl ?_
  unfold FX4_hasPoint at h
  refine mx_iload_n (mx_d tX4_hasPoint_0 0 rfl) rfl rfl ?_
  refine mx_if_lt (tgt := 22) (mx_d tX4_hasPoint_0 1 rfl) (by decide) (fun hc1 => ?_) (fun hc1 => ?_)
  · rw [if_pos hc1] at h
    refine mx_iconst (0) (mx_d tX4_hasPoint_0 11 rfl) (by decide) ?_
    obtain rfl := Option.some.inj h
    exact mx_zreturn (mx_d tX4_hasPoint_0 12 rfl) rfl rfl ⟨rfl, rfl⟩
  · rw [if_neg hc1] at h
    refine mx_iload_n (mx_d tX4_hasPoint_0 2 rfl) rfl rfl ?_
    refine mx_aload_n (mx_d tX4_hasPoint_0 3 rfl) rfl rfl ?_
    refine mx_getI (mx_d tX4_hasPoint_0 4 rfl) fX4_43 rfl (Or.inl rfl) (ly4_o h0) ?_
    refine mx_icmp_ge (tgt := 22) (mx_d tX4_hasPoint_0 5 rfl) (by decide) (fun hc2 => ?_) (fun hc2 => ?_)
    · rw [if_pos hc2] at h
      refine mx_iconst (0) (mx_d tX4_hasPoint_0 11 rfl) (by decide) ?_
      obtain rfl := Option.some.inj h
      exact mx_zreturn (mx_d tX4_hasPoint_0 12 rfl) rfl rfl ⟨rfl, rfl⟩
    · rw [if_neg hc2] at h
      refine mx_iload_n (mx_d tX4_hasPoint_0 6 rfl) rfl rfl ?_
      refine mx_bipush (10) (mx_d tX4_hasPoint_0 7 rfl) (by decide) ?_
      refine mx_icmp_ge (tgt := 22) (mx_d tX4_hasPoint_0 8 rfl) (by decide) (fun hc3 => ?_) (fun hc3 => ?_)
      · rw [if_pos hc3] at h
        refine mx_iconst (0) (mx_d tX4_hasPoint_0 11 rfl) (by decide) ?_
        obtain rfl := Option.some.inj h
        exact mx_zreturn (mx_d tX4_hasPoint_0 12 rfl) rfl rfl ⟨rfl, rfl⟩
      · rw [if_neg hc3] at h
        refine mx_iconst (1) (mx_d tX4_hasPoint_0 9 rfl) (by decide) ?_
        refine mx_goto (tgt := 23) (mx_d tX4_hasPoint_0 10 rfl) (by decide) ?_
        obtain rfl := Option.some.inj h
        exact mx_zreturn (mx_d tX4_hasPoint_0 12 rfl) rfl rfl ⟨rfl, rfl⟩
def FX4_hasLink (a : Nat) (x0 : Int32) (m : mB) : Option Int32 := (if x0 < 0 then (some 0) else (if (m.1 a 1) ≤ x0 then (some 0) else (if 30 ≤ x0 then (some 0) else (some 1))))
set_option maxRecDepth 20000 in
theorem CX4_hasLink {G : mG} {l : Launch} {e : mE} {a : Nat} {x0 : Int32} {m : mB} {r : Int32} (h0 : ly4 e a) (h : FX4_hasLink a x0 m = some r) : mx_Call G l MX4_hasLink 1 0 0 [.ref a, .int x0] (e, m) (fun v z => v = some (.int r) ∧ z = (e, m)) := by
  refine mx_entry (L := [.ref a, .int x0]) (by decide +kernel) (Nat.le_of_ble_eq_true rfl) rfl ?_
  unfold FX4_hasLink at h
  refine mx_iload_n (mx_d tX4_hasLink_0 0 rfl) rfl rfl ?_
  refine mx_if_lt (tgt := 22) (mx_d tX4_hasLink_0 1 rfl) (by decide) (fun hc1 => ?_) (fun hc1 => ?_)
  · rw [if_pos hc1] at h
    refine mx_iconst (0) (mx_d tX4_hasLink_0 11 rfl) (by decide) ?_
    obtain rfl := Option.some.inj h
    exact mx_zreturn (mx_d tX4_hasLink_0 12 rfl) rfl rfl ⟨rfl, rfl⟩
  · rw [if_neg hc1] at h
    refine mx_iload_n (mx_d tX4_hasLink_0 2 rfl) rfl rfl ?_
    refine mx_aload_n (mx_d tX4_hasLink_0 3 rfl) rfl rfl ?_
    refine mx_getI (mx_d tX4_hasLink_0 4 rfl) fX4_47 rfl (Or.inl rfl) (ly4_o h0) ?_
    refine mx_icmp_ge (tgt := 22) (mx_d tX4_hasLink_0 5 rfl) (by decide) (fun hc2 => ?_) (fun hc2 => ?_)
    · rw [if_pos hc2] at h
      refine mx_iconst (0) (mx_d tX4_hasLink_0 11 rfl) (by decide) ?_
      obtain rfl := Option.some.inj h
      exact mx_zreturn (mx_d tX4_hasLink_0 12 rfl) rfl rfl ⟨rfl, rfl⟩
    · rw [if_neg hc2] at h
      refine mx_iload_n (mx_d tX4_hasLink_0 6 rfl) rfl rfl ?_
      refine mx_bipush (30) (mx_d tX4_hasLink_0 7 rfl) (by decide) ?_
      refine mx_icmp_ge (tgt := 22) (mx_d tX4_hasLink_0 8 rfl) (by decide) (fun hc3 => ?_) (fun hc3 => ?_)
      · rw [if_pos hc3] at h
        refine mx_iconst (0) (mx_d tX4_hasLink_0 11 rfl) (by decide) ?_
        obtain rfl := Option.some.inj h
        exact mx_zreturn (mx_d tX4_hasLink_0 12 rfl) rfl rfl ⟨rfl, rfl⟩
      · rw [if_neg hc3] at h
        refine mx_iconst (1) (mx_d tX4_hasLink_0 9 rfl) (by decide) ?_
        refine mx_goto (tgt := 23) (mx_d tX4_hasLink_0 10 rfl) (by decide) ?_
        obtain rfl := Option.some.inj h
        exact mx_zreturn (mx_d tX4_hasLink_0 12 rfl) rfl rfl ⟨rfl, rfl⟩
def FX4_hasSet (a : Nat) (x0 : Int32) (m : mB) : Option Int32 := (if x0 < 0 then (some 0) else (if (m.1 a 2) ≤ x0 then (some 0) else (if 6 ≤ x0 then (some 0) else (some 1))))
set_option maxRecDepth 20000 in
theorem CX4_hasSet {G : mG} {l : Launch} {e : mE} {a : Nat} {x0 : Int32} {m : mB} {r : Int32} (h0 : ly4 e a) (h : FX4_hasSet a x0 m = some r) : mx_Call G l MX4_hasSet 1 0 0 [.ref a, .int x0] (e, m) (fun v z => v = some (.int r) ∧ z = (e, m)) := by
  refine mx_entry (L := [.ref a, .int x0]) (by decide +kernel) (Nat.le_of_ble_eq_true rfl) rfl ?_
  unfold FX4_hasSet at h
  refine mx_iload_n (mx_d tX4_hasSet_0 0 rfl) rfl rfl ?_
  refine mx_if_lt (tgt := 22) (mx_d tX4_hasSet_0 1 rfl) (by decide) (fun hc1 => ?_) (fun hc1 => ?_)
  · rw [if_pos hc1] at h
    refine mx_iconst (0) (mx_d tX4_hasSet_0 11 rfl) (by decide) ?_
    obtain rfl := Option.some.inj h
    exact mx_zreturn (mx_d tX4_hasSet_0 12 rfl) rfl rfl ⟨rfl, rfl⟩
  · rw [if_neg hc1] at h
    refine mx_iload_n (mx_d tX4_hasSet_0 2 rfl) rfl rfl ?_
    refine mx_aload_n (mx_d tX4_hasSet_0 3 rfl) rfl rfl ?_
    refine mx_getI (mx_d tX4_hasSet_0 4 rfl) fX4_50 rfl (Or.inl rfl) (ly4_o h0) ?_
    refine mx_icmp_ge (tgt := 22) (mx_d tX4_hasSet_0 5 rfl) (by decide) (fun hc2 => ?_) (fun hc2 => ?_)
    · rw [if_pos hc2] at h
      refine mx_iconst (0) (mx_d tX4_hasSet_0 11 rfl) (by decide) ?_
      obtain rfl := Option.some.inj h
      exact mx_zreturn (mx_d tX4_hasSet_0 12 rfl) rfl rfl ⟨rfl, rfl⟩
    · rw [if_neg hc2] at h
      refine mx_iload_n (mx_d tX4_hasSet_0 6 rfl) rfl rfl ?_
      refine mx_bipush (6) (mx_d tX4_hasSet_0 7 rfl) (by decide) ?_
      refine mx_icmp_ge (tgt := 22) (mx_d tX4_hasSet_0 8 rfl) (by decide) (fun hc3 => ?_) (fun hc3 => ?_)
      · rw [if_pos hc3] at h
        refine mx_iconst (0) (mx_d tX4_hasSet_0 11 rfl) (by decide) ?_
        obtain rfl := Option.some.inj h
        exact mx_zreturn (mx_d tX4_hasSet_0 12 rfl) rfl rfl ⟨rfl, rfl⟩
      · rw [if_neg hc3] at h
        refine mx_iconst (1) (mx_d tX4_hasSet_0 9 rfl) (by decide) ?_
        refine mx_goto (tgt := 23) (mx_d tX4_hasSet_0 10 rfl) (by decide) ?_
        obtain rfl := Option.some.inj h
        exact mx_zreturn (mx_d tX4_hasSet_0 12 rfl) rfl rfl ⟨rfl, rfl⟩
def FX4_addPoint (a : Nat) (x0 : Int64) (m : mB) : Option mB := (if (m.1 a 0) < 0 then (some m) else (if 10 ≤ (m.1 a 0) then (some m) else mx_chk (mx_inb (m.1 a 0) 10) (mx_let (m.1, mx_ul m.2 (a + 1) (Int32.toNatClampNeg (m.1 a 0)) x0) (fun m3 => mx_chk (mx_inb (m3.1 a 0) 10) (mx_let (mx_up m3.1 (a + 2) (Int32.toNatClampNeg (m3.1 a 0)) 0, m3.2) (fun m5 => mx_chk (mx_inb (m5.1 a 0) 10) (mx_let (mx_up m5.1 (a + 3) (Int32.toNatClampNeg (m5.1 a 0)) (-1), m5.2) (fun m7 => mx_chk (mx_inb (m7.1 a 0) 10) (mx_let (mx_up m7.1 (a + 4) (Int32.toNatClampNeg (m7.1 a 0)) 0, m7.2) (fun m9 => mx_let (mx_up m9.1 a 0 ((m9.1 a 0) + 1), m9.2) (fun m11 => (some m11))))))))))))
set_option maxRecDepth 20000 in
theorem CX4_addPoint {G : mG} {l : Launch} {e : mE} {a : Nat} {x0 : Int64} {m : mB} {r : mB} (h0 : ly4 e a) (h : FX4_addPoint a x0 m = some r) : mx_Call G l MX4_addPoint 1 0 0 [.ref a, .long x0] (e, m) (fun v z => v = none ∧ z = (e, r)) := by
  refine mx_entry (L := [.ref a, .long x0, .float 0]) (by decide +kernel) (Nat.le_of_ble_eq_true rfl) rfl ?_
  unfold FX4_addPoint at h
  refine mx_aload_n (mx_d tX4_addPoint_0 0 rfl) rfl rfl ?_
  refine mx_getI (mx_d tX4_addPoint_0 1 rfl) fX4_43 rfl (Or.inl rfl) (ly4_o h0) ?_
  refine mx_if_lt (tgt := 66) (mx_d tX4_addPoint_0 2 rfl) (by decide) (fun hc1 => ?_) (fun hc1 => ?_)
  · rw [if_pos hc1] at h
    obtain rfl := Option.some.inj h
    exact mx_return (mx_d tX4_addPoint_0 37 rfl) rfl ⟨rfl, rfl⟩
  · rw [if_neg hc1] at h
    refine mx_aload_n (mx_d tX4_addPoint_0 3 rfl) rfl rfl ?_
    refine mx_getI (mx_d tX4_addPoint_0 4 rfl) fX4_43 rfl (Or.inl rfl) (ly4_o h0) ?_
    refine mx_bipush (10) (mx_d tX4_addPoint_0 5 rfl) (by decide) ?_
    refine mx_icmp_ge (tgt := 66) (mx_d tX4_addPoint_0 6 rfl) (by decide) (fun hc2 => ?_) (fun hc2 => ?_)
    · rw [if_pos hc2] at h
      obtain rfl := Option.some.inj h
      exact mx_return (mx_d tX4_addPoint_0 37 rfl) rfl ⟨rfl, rfl⟩
    · rw [if_neg hc2] at h
      refine mx_aload_n (mx_d tX4_addPoint_0 7 rfl) rfl rfl ?_
      refine mx_getR (mx_d tX4_addPoint_0 8 rfl) fX4_9 rfl rfl (ly4_o h0) (ly4_r5 h0) ?_
      refine mx_aload_n (mx_d tX4_addPoint_0 9 rfl) rfl rfl ?_
      refine mx_getI (mx_d tX4_addPoint_0 10 rfl) fX4_43 rfl (Or.inl rfl) (ly4_o h0) ?_
      refine mx_lload_n (mx_d tX4_addPoint_0 11 rfl) rfl rfl ?_
      obtain ⟨hi4, h⟩ := mx_chkE h
      obtain ⟨m3, e_m3, h⟩ := mx_letE h
      refine mx_lastore (mx_d tX4_addPoint_0 12 rfl) (ly4_s5 h0) (mx_inbE hi4) (mx_eqz (z' := (e, m3)) (by rw [e_m3]) ?_)
      refine mx_aload_n (mx_d tX4_addPoint_0 13 rfl) rfl rfl ?_
      refine mx_getR (mx_d tX4_addPoint_0 14 rfl) fX4_15 rfl rfl (ly4_o h0) (ly4_r6 h0) ?_
      refine mx_aload_n (mx_d tX4_addPoint_0 15 rfl) rfl rfl ?_
      refine mx_getI (mx_d tX4_addPoint_0 16 rfl) fX4_43 rfl (Or.inl rfl) (ly4_o h0) ?_
      refine mx_iconst (0) (mx_d tX4_addPoint_0 17 rfl) (by decide) ?_
      obtain ⟨hi6, h⟩ := mx_chkE h
      obtain ⟨m5, e_m5, h⟩ := mx_letE h
      refine mx_iastore (mx_d tX4_addPoint_0 18 rfl) (ly4_s6 h0) (mx_inbE hi6) (mx_eqz (z' := (e, m5)) (by rw [e_m5]) ?_)
      refine mx_aload_n (mx_d tX4_addPoint_0 19 rfl) rfl rfl ?_
      refine mx_getR (mx_d tX4_addPoint_0 20 rfl) fX4_19 rfl rfl (ly4_o h0) (ly4_r7 h0) ?_
      refine mx_aload_n (mx_d tX4_addPoint_0 21 rfl) rfl rfl ?_
      refine mx_getI (mx_d tX4_addPoint_0 22 rfl) fX4_43 rfl (Or.inl rfl) (ly4_o h0) ?_
      refine mx_iconst ((-1)) (mx_d tX4_addPoint_0 23 rfl) (by decide) ?_
      obtain ⟨hi8, h⟩ := mx_chkE h
      obtain ⟨m7, e_m7, h⟩ := mx_letE h
      refine mx_iastore (mx_d tX4_addPoint_0 24 rfl) (ly4_s7 h0) (mx_inbE hi8) (mx_eqz (z' := (e, m7)) (by rw [e_m7]) ?_)
      refine mx_aload_n (mx_d tX4_addPoint_0 25 rfl) rfl rfl ?_
      refine mx_getR (mx_d tX4_addPoint_0 26 rfl) fX4_22 rfl rfl (ly4_o h0) (ly4_r8 h0) ?_
      refine mx_aload_n (mx_d tX4_addPoint_0 27 rfl) rfl rfl ?_
      refine mx_getI (mx_d tX4_addPoint_0 28 rfl) fX4_43 rfl (Or.inl rfl) (ly4_o h0) ?_
      refine mx_iconst (0) (mx_d tX4_addPoint_0 29 rfl) (by decide) ?_
      obtain ⟨hi10, h⟩ := mx_chkE h
      obtain ⟨m9, e_m9, h⟩ := mx_letE h
      refine mx_iastore (mx_d tX4_addPoint_0 30 rfl) (ly4_s8 h0) (mx_inbE hi10) (mx_eqz (z' := (e, m9)) (by rw [e_m9]) ?_)
      refine mx_aload_n (mx_d tX4_addPoint_0 31 rfl) rfl rfl ?_
      refine mx_dup (mx_d tX4_addPoint_0 32 rfl) rfl ?_
      refine mx_getI (mx_d tX4_addPoint_0 33 rfl) fX4_43 rfl (Or.inl rfl) (ly4_o h0) ?_
      refine mx_iconst (1) (mx_d tX4_addPoint_0 34 rfl) (by decide) ?_
      refine mx_iadd (mx_d tX4_addPoint_0 35 rfl) ?_
      obtain ⟨m11, e_m11, h⟩ := mx_letE h
      refine mx_putI (mx_d tX4_addPoint_0 36 rfl) fX4_43 rfl ⟨_, rfl, rfl⟩ rfl (ly4_o h0) (mx_eqz (z' := (e, m11)) (by rw [e_m11]) ?_)
      obtain rfl := Option.some.inj h
      exact mx_return (mx_d tX4_addPoint_0 37 rfl) rfl ⟨rfl, rfl⟩
def FX4_addLink (a : Nat) (x0 : Int32) (x1 : Int32) (x2 : Int32) (m : mB) : Option mB := (if (m.1 a 1) < 0 then (some m) else (if 30 ≤ (m.1 a 1) then (some m) else Option.bind (FX4_hasPoint a x0 m) (fun r3 => (if r3 = 0 then (some m) else Option.bind (FX4_hasPoint a x1 m) (fun r5 => (if r5 = 0 then (some m) else mx_chk (mx_inb (m.1 a 1) 30) (mx_let (mx_up m.1 (a + 5) (Int32.toNatClampNeg (m.1 a 1)) x0, m.2) (fun m7 => mx_chk (mx_inb (m7.1 a 1) 30) (mx_let (mx_up m7.1 (a + 6) (Int32.toNatClampNeg (m7.1 a 1)) x1, m7.2) (fun m9 => mx_chk (mx_inb (m9.1 a 1) 30) (mx_let (mx_up m9.1 (a + 7) (Int32.toNatClampNeg (m9.1 a 1)) x2, m9.2) (fun m11 => mx_chk (mx_inb x0 10) (mx_let (mx_up m11.1 (a + 2) (Int32.toNatClampNeg x0) ((m11.1 (a + 2) (Int32.toNatClampNeg x0)) ||| ((1 : Int32) <<< (x1 &&& 31))), m11.2) (fun m14 => mx_chk (mx_inb x1 10) (mx_let (mx_up m14.1 (a + 2) (Int32.toNatClampNeg x1) ((m14.1 (a + 2) (Int32.toNatClampNeg x1)) ||| ((1 : Int32) <<< (x0 &&& 31))), m14.2) (fun m16 => mx_let (mx_up m16.1 a 1 ((m16.1 a 1) + 1), m16.2) (fun m17 => mx_chk (mx_inb ((x0 * 10) + x1) 100) (mx_let (mx_up m17.1 (a + 8) (Int32.toNatClampNeg ((x0 * 10) + x1)) (m17.1 a 1), m17.2) (fun m18 => mx_chk (mx_inb ((x1 * 10) + x0) 100) (mx_let (mx_up m18.1 (a + 8) (Int32.toNatClampNeg ((x1 * 10) + x0)) (m18.1 a 1), m18.2) (fun m20 => (some m20))))))))))))))))))))))
set_option maxRecDepth 20000 in
theorem CX4_addLink {G : mG} {l : Launch} {e : mE} {a : Nat} {x0 : Int32} {x1 : Int32} {x2 : Int32} {m : mB} {r : mB} (h0 : ly4 e a) (h : FX4_addLink a x0 x1 x2 m = some r) : mx_Call G l MX4_addLink 2 0 0 [.ref a, .int x0, .int x1, .int x2] (e, m) (fun v z => v = none ∧ z = (e, r)) := by
  refine mx_entry (L := [.ref a, .int x0, .int x1, .int x2]) (by decide +kernel) (Nat.le_of_ble_eq_true rfl) rfl ?_
  unfold FX4_addLink at h
  refine mx_aload_n (mx_d tX4_addLink_0 0 rfl) rfl rfl ?_
  refine mx_getI (mx_d tX4_addLink_0 1 rfl) fX4_47 rfl (Or.inl rfl) (ly4_o h0) ?_
  refine mx_if_lt (tgt := 126) (mx_d tX4_addLink_0 2 rfl) (by decide) (fun hc1 => ?_) (fun hc1 => ?_)
  · rw [if_pos hc1] at h
    obtain rfl := Option.some.inj h
    exact mx_return (mx_d tX4_addLink_1 19 rfl) rfl ⟨rfl, rfl⟩
  · rw [if_neg hc1] at h
    refine mx_aload_n (mx_d tX4_addLink_0 3 rfl) rfl rfl ?_
    refine mx_getI (mx_d tX4_addLink_0 4 rfl) fX4_47 rfl (Or.inl rfl) (ly4_o h0) ?_
    refine mx_bipush (30) (mx_d tX4_addLink_0 5 rfl) (by decide) ?_
    refine mx_icmp_ge (tgt := 126) (mx_d tX4_addLink_0 6 rfl) (by decide) (fun hc2 => ?_) (fun hc2 => ?_)
    · rw [if_pos hc2] at h
      obtain rfl := Option.some.inj h
      exact mx_return (mx_d tX4_addLink_1 19 rfl) rfl ⟨rfl, rfl⟩
    · rw [if_neg hc2] at h
      refine mx_aload_n (mx_d tX4_addLink_0 7 rfl) rfl rfl ?_
      refine mx_iload_n (mx_d tX4_addLink_0 8 rfl) rfl rfl ?_
      obtain ⟨r3, h_r3, h⟩ := Option.bind_eq_some_iff.mp h
      refine mx_cVi (mx_d tX4_addLink_0 9 rfl) iX4_69 rfl vX4_hasPoint ⟨_, rfl, rfl⟩ (ly4_o h0) (CX4_hasPoint h0 h_r3) (by decide) rfl rfl (Nat.le_of_ble_eq_true rfl) ?_
      refine mx_if_eq (tgt := 126) (mx_d tX4_addLink_0 10 rfl) (by decide) (fun hc4 => ?_) (fun hc4 => ?_)
      · rw [if_pos hc4] at h
        obtain rfl := Option.some.inj h
        exact mx_return (mx_d tX4_addLink_1 19 rfl) rfl ⟨rfl, rfl⟩
      · rw [if_neg hc4] at h
        refine mx_aload_n (mx_d tX4_addLink_0 11 rfl) rfl rfl ?_
        refine mx_iload_n (mx_d tX4_addLink_0 12 rfl) rfl rfl ?_
        obtain ⟨r5, h_r5, h⟩ := Option.bind_eq_some_iff.mp h
        refine mx_cVi (mx_d tX4_addLink_0 13 rfl) iX4_69 rfl vX4_hasPoint ⟨_, rfl, rfl⟩ (ly4_o h0) (CX4_hasPoint h0 h_r5) (by decide) rfl rfl (Nat.le_of_ble_eq_true rfl) ?_
        refine mx_if_eq (tgt := 126) (mx_d tX4_addLink_0 14 rfl) (by decide) (fun hc6 => ?_) (fun hc6 => ?_)
        · rw [if_pos hc6] at h
          obtain rfl := Option.some.inj h
          exact mx_return (mx_d tX4_addLink_1 19 rfl) rfl ⟨rfl, rfl⟩
        · rw [if_neg hc6] at h
          refine mx_aload_n (mx_d tX4_addLink_0 15 rfl) rfl rfl ?_
          refine mx_getR (mx_d tX4_addLink_0 16 rfl) fX4_25 rfl rfl (ly4_o h0) (ly4_r9 h0) ?_
          refine mx_aload_n (mx_d tX4_addLink_0 17 rfl) rfl rfl ?_
          refine mx_getI (mx_d tX4_addLink_0 18 rfl) fX4_47 rfl (Or.inl rfl) (ly4_o h0) ?_
          refine mx_iload_n (mx_d tX4_addLink_0 19 rfl) rfl rfl ?_
          obtain ⟨hi8, h⟩ := mx_chkE h
          obtain ⟨m7, e_m7, h⟩ := mx_letE h
          refine mx_iastore (mx_d tX4_addLink_0 20 rfl) (ly4_s9 h0) (mx_inbE hi8) (mx_eqz (z' := (e, m7)) (by rw [e_m7]) ?_)
          refine mx_aload_n (mx_d tX4_addLink_0 21 rfl) rfl rfl ?_
          refine mx_getR (mx_d tX4_addLink_0 22 rfl) fX4_28 rfl rfl (ly4_o h0) (ly4_r10 h0) ?_
          refine mx_aload_n (mx_d tX4_addLink_0 23 rfl) rfl rfl ?_
          refine mx_getI (mx_d tX4_addLink_0 24 rfl) fX4_47 rfl (Or.inl rfl) (ly4_o h0) ?_
          refine mx_iload_n (mx_d tX4_addLink_0 25 rfl) rfl rfl ?_
          obtain ⟨hi10, h⟩ := mx_chkE h
          obtain ⟨m9, e_m9, h⟩ := mx_letE h
          refine mx_iastore (mx_d tX4_addLink_0 26 rfl) (ly4_s10 h0) (mx_inbE hi10) (mx_eqz (z' := (e, m9)) (by rw [e_m9]) ?_)
          refine mx_aload_n (mx_d tX4_addLink_0 27 rfl) rfl rfl ?_
          refine mx_getR (mx_d tX4_addLink_0 28 rfl) fX4_31 rfl rfl (ly4_o h0) (ly4_r11 h0) ?_
          refine mx_aload_n (mx_d tX4_addLink_0 29 rfl) rfl rfl ?_
          refine mx_getI (mx_d tX4_addLink_0 30 rfl) fX4_47 rfl (Or.inl rfl) (ly4_o h0) ?_
          refine mx_iload_n (mx_d tX4_addLink_0 31 rfl) rfl rfl ?_
          obtain ⟨hi12, h⟩ := mx_chkE h
          obtain ⟨m11, e_m11, h⟩ := mx_letE h
          refine mx_iastore (mx_d tX4_addLink_0 32 rfl) (ly4_s11 h0) (mx_inbE hi12) (mx_eqz (z' := (e, m11)) (by rw [e_m11]) ?_)
          refine mx_aload_n (mx_d tX4_addLink_0 33 rfl) rfl rfl ?_
          refine mx_getR (mx_d tX4_addLink_0 34 rfl) fX4_15 rfl rfl (ly4_o h0) (ly4_r6 h0) ?_
          refine mx_iload_n (mx_d tX4_addLink_0 35 rfl) rfl rfl ?_
          refine mx_dup2 (mx_d tX4_addLink_0 36 rfl) rfl rfl ?_
          obtain ⟨hi13, h⟩ := mx_chkE h
          refine mx_iaload (mx_d tX4_addLink_0 37 rfl) (ly4_s6 h0) (mx_inbE hi13) ?_
          refine mx_iconst (1) (mx_d tX4_addLink_0 38 rfl) (by decide) ?_
          refine mx_iload_n (mx_d tX4_addLink_0 39 rfl) rfl rfl ?_
          refine mx_ishl (mx_d tX4_addLink_0 40 rfl) ?_
          refine mx_ior (mx_d tX4_addLink_0 41 rfl) ?_
          obtain ⟨m14, e_m14, h⟩ := mx_letE h
          refine mx_iastore (mx_d tX4_addLink_0 42 rfl) (ly4_s6 h0) (mx_inbE hi13) (mx_eqz (z' := (e, m14)) (by rw [e_m14]) ?_)
          refine mx_aload_n (mx_d tX4_addLink_0 43 rfl) rfl rfl ?_
          refine mx_getR (mx_d tX4_addLink_0 44 rfl) fX4_15 rfl rfl (ly4_o h0) (ly4_r6 h0) ?_
          refine mx_iload_n (mx_d tX4_addLink_0 45 rfl) rfl rfl ?_
          refine mx_dup2 (mx_d tX4_addLink_0 46 rfl) rfl rfl ?_
          obtain ⟨hi15, h⟩ := mx_chkE h
          refine mx_iaload (mx_d tX4_addLink_0 47 rfl) (ly4_s6 h0) (mx_inbE hi15) ?_
          refine mx_iconst (1) (mx_d tX4_addLink_0 48 rfl) (by decide) ?_
          refine mx_iload_n (mx_d tX4_addLink_0 49 rfl) rfl rfl ?_
          refine mx_ishl (mx_d tX4_addLink_0 50 rfl) ?_
          refine mx_ior (mx_d tX4_addLink_0 51 rfl) ?_
          obtain ⟨m16, e_m16, h⟩ := mx_letE h
          refine mx_iastore (mx_d tX4_addLink_0 52 rfl) (ly4_s6 h0) (mx_inbE hi15) (mx_eqz (z' := (e, m16)) (by rw [e_m16]) ?_)
          refine mx_aload_n (mx_d tX4_addLink_0 53 rfl) rfl rfl ?_
          refine mx_dup (mx_d tX4_addLink_0 54 rfl) rfl ?_
          refine mx_getI (mx_d tX4_addLink_0 55 rfl) fX4_47 rfl (Or.inl rfl) (ly4_o h0) ?_
          refine mx_iconst (1) (mx_d tX4_addLink_0 56 rfl) (by decide) ?_
          refine mx_iadd (mx_d tX4_addLink_0 57 rfl) ?_
          obtain ⟨m17, e_m17, h⟩ := mx_letE h
          refine mx_putI (mx_d tX4_addLink_0 58 rfl) fX4_47 rfl ⟨_, rfl, rfl⟩ rfl (ly4_o h0) (mx_eqz (z' := (e, m17)) (by rw [e_m17]) ?_)
          refine mx_aload_n (mx_d tX4_addLink_0 59 rfl) rfl rfl ?_
          refine mx_getR (mx_d tX4_addLink_1 0 rfl) fX4_34 rfl rfl (ly4_o h0) (ly4_r12 h0) ?_
          refine mx_iload_n (mx_d tX4_addLink_1 1 rfl) rfl rfl ?_
          refine mx_bipush (10) (mx_d tX4_addLink_1 2 rfl) (by decide) ?_
          refine mx_imul (mx_d tX4_addLink_1 3 rfl) ?_
          refine mx_iload_n (mx_d tX4_addLink_1 4 rfl) rfl rfl ?_
          refine mx_iadd (mx_d tX4_addLink_1 5 rfl) ?_
          refine mx_aload_n (mx_d tX4_addLink_1 6 rfl) rfl rfl ?_
          refine mx_getI (mx_d tX4_addLink_1 7 rfl) fX4_47 rfl (Or.inl rfl) (ly4_o h0) ?_
          obtain ⟨hi19, h⟩ := mx_chkE h
          obtain ⟨m18, e_m18, h⟩ := mx_letE h
          refine mx_iastore (mx_d tX4_addLink_1 8 rfl) (ly4_s12 h0) (mx_inbE hi19) (mx_eqz (z' := (e, m18)) (by rw [e_m18]) ?_)
          refine mx_aload_n (mx_d tX4_addLink_1 9 rfl) rfl rfl ?_
          refine mx_getR (mx_d tX4_addLink_1 10 rfl) fX4_34 rfl rfl (ly4_o h0) (ly4_r12 h0) ?_
          refine mx_iload_n (mx_d tX4_addLink_1 11 rfl) rfl rfl ?_
          refine mx_bipush (10) (mx_d tX4_addLink_1 12 rfl) (by decide) ?_
          refine mx_imul (mx_d tX4_addLink_1 13 rfl) ?_
          refine mx_iload_n (mx_d tX4_addLink_1 14 rfl) rfl rfl ?_
          refine mx_iadd (mx_d tX4_addLink_1 15 rfl) ?_
          refine mx_aload_n (mx_d tX4_addLink_1 16 rfl) rfl rfl ?_
          refine mx_getI (mx_d tX4_addLink_1 17 rfl) fX4_47 rfl (Or.inl rfl) (ly4_o h0) ?_
          obtain ⟨hi21, h⟩ := mx_chkE h
          obtain ⟨m20, e_m20, h⟩ := mx_letE h
          refine mx_iastore (mx_d tX4_addLink_1 18 rfl) (ly4_s12 h0) (mx_inbE hi21) (mx_eqz (z' := (e, m20)) (by rw [e_m20]) ?_)
          obtain rfl := Option.some.inj h
          exact mx_return (mx_d tX4_addLink_1 19 rfl) rfl ⟨rfl, rfl⟩
def FX4_addSet (a : Nat) (x0 : Int32) (x1 : Int32) (m : mB) : Option mB := (if (m.1 a 2) < 0 then (some m) else (if 6 ≤ (m.1 a 2) then (some m) else mx_chk (mx_inb (m.1 a 2) 6) (mx_let (mx_up m.1 (a + 9) (Int32.toNatClampNeg (m.1 a 2)) x0, m.2) (fun m3 => mx_chk (mx_inb (m3.1 a 2) 6) (mx_let (mx_up m3.1 (a + 10) (Int32.toNatClampNeg (m3.1 a 2)) x1, m3.2) (fun m5 => mx_let (mx_up m5.1 a 2 ((m5.1 a 2) + 1), m5.2) (fun m7 => (some m7))))))))
set_option maxRecDepth 20000 in
theorem CX4_addSet {G : mG} {l : Launch} {e : mE} {a : Nat} {x0 : Int32} {x1 : Int32} {m : mB} {r : mB} (h0 : ly4 e a) (h : FX4_addSet a x0 x1 m = some r) : mx_Call G l MX4_addSet 1 0 0 [.ref a, .int x0, .int x1] (e, m) (fun v z => v = none ∧ z = (e, r)) := by
  refine mx_entry (L := [.ref a, .int x0, .int x1]) (by decide +kernel) (Nat.le_of_ble_eq_true rfl) rfl ?_
  unfold FX4_addSet at h
  refine mx_aload_n (mx_d tX4_addSet_0 0 rfl) rfl rfl ?_
  refine mx_getI (mx_d tX4_addSet_0 1 rfl) fX4_50 rfl (Or.inl rfl) (ly4_o h0) ?_
  refine mx_if_lt (tgt := 46) (mx_d tX4_addSet_0 2 rfl) (by decide) (fun hc1 => ?_) (fun hc1 => ?_)
  · rw [if_pos hc1] at h
    obtain rfl := Option.some.inj h
    exact mx_return (mx_d tX4_addSet_0 25 rfl) rfl ⟨rfl, rfl⟩
  · rw [if_neg hc1] at h
    refine mx_aload_n (mx_d tX4_addSet_0 3 rfl) rfl rfl ?_
    refine mx_getI (mx_d tX4_addSet_0 4 rfl) fX4_50 rfl (Or.inl rfl) (ly4_o h0) ?_
    refine mx_bipush (6) (mx_d tX4_addSet_0 5 rfl) (by decide) ?_
    refine mx_icmp_ge (tgt := 46) (mx_d tX4_addSet_0 6 rfl) (by decide) (fun hc2 => ?_) (fun hc2 => ?_)
    · rw [if_pos hc2] at h
      obtain rfl := Option.some.inj h
      exact mx_return (mx_d tX4_addSet_0 25 rfl) rfl ⟨rfl, rfl⟩
    · rw [if_neg hc2] at h
      refine mx_aload_n (mx_d tX4_addSet_0 7 rfl) rfl rfl ?_
      refine mx_getR (mx_d tX4_addSet_0 8 rfl) fX4_37 rfl rfl (ly4_o h0) (ly4_r13 h0) ?_
      refine mx_aload_n (mx_d tX4_addSet_0 9 rfl) rfl rfl ?_
      refine mx_getI (mx_d tX4_addSet_0 10 rfl) fX4_50 rfl (Or.inl rfl) (ly4_o h0) ?_
      refine mx_iload_n (mx_d tX4_addSet_0 11 rfl) rfl rfl ?_
      obtain ⟨hi4, h⟩ := mx_chkE h
      obtain ⟨m3, e_m3, h⟩ := mx_letE h
      refine mx_iastore (mx_d tX4_addSet_0 12 rfl) (ly4_s13 h0) (mx_inbE hi4) (mx_eqz (z' := (e, m3)) (by rw [e_m3]) ?_)
      refine mx_aload_n (mx_d tX4_addSet_0 13 rfl) rfl rfl ?_
      refine mx_getR (mx_d tX4_addSet_0 14 rfl) fX4_40 rfl rfl (ly4_o h0) (ly4_r14 h0) ?_
      refine mx_aload_n (mx_d tX4_addSet_0 15 rfl) rfl rfl ?_
      refine mx_getI (mx_d tX4_addSet_0 16 rfl) fX4_50 rfl (Or.inl rfl) (ly4_o h0) ?_
      refine mx_iload_n (mx_d tX4_addSet_0 17 rfl) rfl rfl ?_
      obtain ⟨hi6, h⟩ := mx_chkE h
      obtain ⟨m5, e_m5, h⟩ := mx_letE h
      refine mx_iastore (mx_d tX4_addSet_0 18 rfl) (ly4_s14 h0) (mx_inbE hi6) (mx_eqz (z' := (e, m5)) (by rw [e_m5]) ?_)
      refine mx_aload_n (mx_d tX4_addSet_0 19 rfl) rfl rfl ?_
      refine mx_dup (mx_d tX4_addSet_0 20 rfl) rfl ?_
      refine mx_getI (mx_d tX4_addSet_0 21 rfl) fX4_50 rfl (Or.inl rfl) (ly4_o h0) ?_
      refine mx_iconst (1) (mx_d tX4_addSet_0 22 rfl) (by decide) ?_
      refine mx_iadd (mx_d tX4_addSet_0 23 rfl) ?_
      obtain ⟨m7, e_m7, h⟩ := mx_letE h
      refine mx_putI (mx_d tX4_addSet_0 24 rfl) fX4_50 rfl ⟨_, rfl, rfl⟩ rfl (ly4_o h0) (mx_eqz (z' := (e, m7)) (by rw [e_m7]) ?_)
      obtain rfl := Option.some.inj h
      exact mx_return (mx_d tX4_addSet_0 25 rfl) rfl ⟨rfl, rfl⟩
def FX4_pointNamed_L2 (q0 : Nat) (y1 : Int64) (m : mB) : Nat → Int32 → Option (Int32 ⊕ (Unit))
  | 0, _ => none
  | f + 1, y3 => (if (m.1 q0 0) ≤ y3 then (some (.inr ())) else (if 10 ≤ y3 then (some (.inr ())) else mx_chk (mx_inb y3 10) ((if (lg_cmp (m.2 (q0 + 1) (Int32.toNatClampNeg y3)) y1) = 0 then (some (.inl y3)) else mx_let (y3 + 1) (fun v5 => (FX4_pointNamed_L2 q0 y1 m f v5))))))
set_option maxRecDepth 20000 in
theorem CX4_pointNamed_L2 {G : mG} {l : Launch} {e : mE} {Post : Option Value → mS → Prop} {q0 : Nat} {y1 : Int64} {m : mB} (g0 : ly4 e q0) : ∀ (f : Nat) {y3 : Int32} {q : (Int32 ⊕ (Unit))}, FX4_pointNamed_L2 q0 y1 m f y3 = some q → (∀ rr, q = .inl rr → Post (some (.int rr)) (e, m)) → (∀ u, q = .inr u → mx_Fr G l MX4_pointNamed 1 0 0 Post 35 [.float 0, .float 0, .float 0, .float 0] [] (e, m)) → mx_Fr G l MX4_pointNamed 1 0 0 Post 2 [.ref q0, .long y1, .float 0, .int y3] [] (e, m) := by
  intro f
  induction f with
  | zero => intro _ _ h; cases h
  | succ f ih =>
    intro y3 q h hret hex
    rw [FX4_pointNamed_L2] at h
    refine mx_iload_n (mx_d tX4_pointNamed_0 2 rfl) rfl rfl ?_
    refine mx_aload_n (mx_d tX4_pointNamed_0 3 rfl) rfl rfl ?_
    refine mx_getI (mx_d tX4_pointNamed_0 4 rfl) fX4_43 rfl (Or.inl rfl) (ly4_o g0) ?_
    refine mx_icmp_ge (tgt := 35) (mx_d tX4_pointNamed_0 5 rfl) (by decide) (fun hc1 => ?_) (fun hc1 => ?_)
    · rw [if_pos hc1] at h
      obtain rfl := Option.some.inj h
      refine mx_forget (L' := [.float 0, .float 0, .float 0, .float 0]) trivial ?_
      exact (hex _ rfl)
    · rw [if_neg hc1] at h
      refine mx_iload_n (mx_d tX4_pointNamed_0 6 rfl) rfl rfl ?_
      refine mx_bipush (10) (mx_d tX4_pointNamed_0 7 rfl) (by decide) ?_
      refine mx_icmp_ge (tgt := 35) (mx_d tX4_pointNamed_0 8 rfl) (by decide) (fun hc2 => ?_) (fun hc2 => ?_)
      · rw [if_pos hc2] at h
        obtain rfl := Option.some.inj h
        refine mx_forget (L' := [.float 0, .float 0, .float 0, .float 0]) trivial ?_
        exact (hex _ rfl)
      · rw [if_neg hc2] at h
        refine mx_aload_n (mx_d tX4_pointNamed_0 9 rfl) rfl rfl ?_
        refine mx_getR (mx_d tX4_pointNamed_0 10 rfl) fX4_9 rfl rfl (ly4_o g0) (ly4_r5 g0) ?_
        refine mx_iload_n (mx_d tX4_pointNamed_0 11 rfl) rfl rfl ?_
        obtain ⟨hi3, h⟩ := mx_chkE h
        refine mx_laload (mx_d tX4_pointNamed_0 12 rfl) (ly4_s5 g0) (mx_inbE hi3) ?_
        refine mx_lload_n (mx_d tX4_pointNamed_0 13 rfl) rfl rfl ?_
        refine mx_lcmp (mx_d tX4_pointNamed_0 14 rfl) ?_
        refine mx_if_ne (tgt := 29) (mx_d tX4_pointNamed_0 15 rfl) (by decide) (fun hc4 => ?_) (fun hc4 => ?_)
        · rw [if_neg hc4] at h
          obtain ⟨v5, e_v5, h⟩ := mx_letE h
          refine mx_iinc v5 (L2 := [.ref q0, .long y1, .float 0, .int v5]) (mx_d tX4_pointNamed_0 18 rfl) rfl (by rw [e_v5]; rfl) (by decide) rfl ?_
          refine mx_goto (tgt := 2) (mx_d tX4_pointNamed_0 19 rfl) (by decide) ?_
          exact ih h hret hex
        · rw [if_pos hc4] at h
          refine mx_iload_n (mx_d tX4_pointNamed_0 16 rfl) rfl rfl ?_
          obtain rfl := Option.some.inj h
          exact mx_ireturn (mx_d tX4_pointNamed_0 17 rfl) rfl (hret _ rfl)
def FX4_pointNamed (a : Nat) (x0 : Int64) (m : mB) : Option Int32 := Option.bind (FX4_pointNamed_L2 a x0 m mx_FU 0) (fun q6 => Sum.elim (fun rr => some rr) (fun u7 => (some (-1))) q6)
set_option maxRecDepth 20000 in
theorem CX4_pointNamed {G : mG} {l : Launch} {e : mE} {a : Nat} {x0 : Int64} {m : mB} {r : Int32} (h0 : ly4 e a) (h : FX4_pointNamed a x0 m = some r) : mx_Call G l MX4_pointNamed 1 0 0 [.ref a, .long x0] (e, m) (fun v z => v = some (.int r) ∧ z = (e, m)) := by
  refine mx_entry (L := [.ref a, .long x0, .float 0, .float 0]) (by decide +kernel) (Nat.le_of_ble_eq_true rfl) rfl ?_
  unfold FX4_pointNamed at h
  refine mx_iconst (0) (mx_d tX4_pointNamed_0 0 rfl) (by decide) ?_
  refine mx_istore_n (L2 := [.ref a, .long x0, .float 0, .int 0]) (mx_d tX4_pointNamed_0 1 rfl) rfl (by decide) (by rfl) ?_
  obtain ⟨q6, h_q6, h⟩ := Option.bind_eq_some_iff.mp h
  refine CX4_pointNamed_L2 h0 mx_FU h_q6 (fun rr8 e_rr8 => ?_) (fun u7 e_u7 => ?_)
  · subst e_rr8
    rw [Sum.elim_inl] at h
    obtain rfl := Option.some.inj h
    exact ⟨rfl, rfl⟩
  · subst e_u7
    rw [Sum.elim_inr] at h
    refine mx_iconst ((-1)) (mx_d tX4_pointNamed_0 20 rfl) (by decide) ?_
    obtain rfl := Option.some.inj h
    exact mx_ireturn (mx_d tX4_pointNamed_0 21 rfl) rfl ⟨rfl, rfl⟩
def FX4_nameOf (a : Nat) (x0 : Int32) (m : mB) : Option Int64 := Option.bind (FX4_hasPoint a x0 m) (fun r1 => (if r1 = 0 then (some 0) else mx_chk (mx_inb x0 10) ((some (m.2 (a + 1) (Int32.toNatClampNeg x0))))))
set_option maxRecDepth 20000 in
theorem CX4_nameOf {G : mG} {l : Launch} {e : mE} {a : Nat} {x0 : Int32} {m : mB} {r : Int64} (h0 : ly4 e a) (h : FX4_nameOf a x0 m = some r) : mx_Call G l MX4_nameOf 2 0 0 [.ref a, .int x0] (e, m) (fun v z => v = some (.long r) ∧ z = (e, m)) := by
  refine mx_entry (L := [.ref a, .int x0]) (by decide +kernel) (Nat.le_of_ble_eq_true rfl) rfl ?_
  unfold FX4_nameOf at h
  refine mx_aload_n (mx_d tX4_nameOf_0 0 rfl) rfl rfl ?_
  refine mx_iload_n (mx_d tX4_nameOf_0 1 rfl) rfl rfl ?_
  obtain ⟨r1, h_r1, h⟩ := Option.bind_eq_some_iff.mp h
  refine mx_cVi (mx_d tX4_nameOf_0 2 rfl) iX4_69 rfl vX4_hasPoint ⟨_, rfl, rfl⟩ (ly4_o h0) (CX4_hasPoint h0 h_r1) (by decide) rfl rfl (Nat.le_of_ble_eq_true rfl) ?_
  refine mx_if_eq (tgt := 17) (mx_d tX4_nameOf_0 3 rfl) (by decide) (fun hc2 => ?_) (fun hc2 => ?_)
  · rw [if_pos hc2] at h
    refine mx_lconst (0) (mx_d tX4_nameOf_0 9 rfl) (by decide) ?_
    obtain rfl := Option.some.inj h
    exact mx_lreturn (mx_d tX4_nameOf_0 10 rfl) rfl ⟨rfl, rfl⟩
  · rw [if_neg hc2] at h
    refine mx_aload_n (mx_d tX4_nameOf_0 4 rfl) rfl rfl ?_
    refine mx_getR (mx_d tX4_nameOf_0 5 rfl) fX4_9 rfl rfl (ly4_o h0) (ly4_r5 h0) ?_
    refine mx_iload_n (mx_d tX4_nameOf_0 6 rfl) rfl rfl ?_
    obtain ⟨hi3, h⟩ := mx_chkE h
    refine mx_laload (mx_d tX4_nameOf_0 7 rfl) (ly4_s5 h0) (mx_inbE hi3) ?_
    refine mx_goto (tgt := 18) (mx_d tX4_nameOf_0 8 rfl) (by decide) ?_
    obtain rfl := Option.some.inj h
    exact mx_lreturn (mx_d tX4_nameOf_0 10 rfl) rfl ⟨rfl, rfl⟩
def FX4_nearTo (a : Nat) (x0 : Int32) (m : mB) : Option Int32 := Option.bind (FX4_hasPoint a x0 m) (fun r1 => (if r1 = 0 then (some 0) else mx_chk (mx_inb x0 10) ((some (m.1 (a + 2) (Int32.toNatClampNeg x0))))))
set_option maxRecDepth 20000 in
theorem CX4_nearTo {G : mG} {l : Launch} {e : mE} {a : Nat} {x0 : Int32} {m : mB} {r : Int32} (h0 : ly4 e a) (h : FX4_nearTo a x0 m = some r) : mx_Call G l MX4_nearTo 2 0 0 [.ref a, .int x0] (e, m) (fun v z => v = some (.int r) ∧ z = (e, m)) := by
  refine mx_entry (L := [.ref a, .int x0]) (by decide +kernel) (Nat.le_of_ble_eq_true rfl) rfl ?_
  unfold FX4_nearTo at h
  refine mx_aload_n (mx_d tX4_nearTo_0 0 rfl) rfl rfl ?_
  refine mx_iload_n (mx_d tX4_nearTo_0 1 rfl) rfl rfl ?_
  obtain ⟨r1, h_r1, h⟩ := Option.bind_eq_some_iff.mp h
  refine mx_cVi (mx_d tX4_nearTo_0 2 rfl) iX4_69 rfl vX4_hasPoint ⟨_, rfl, rfl⟩ (ly4_o h0) (CX4_hasPoint h0 h_r1) (by decide) rfl rfl (Nat.le_of_ble_eq_true rfl) ?_
  refine mx_if_eq (tgt := 17) (mx_d tX4_nearTo_0 3 rfl) (by decide) (fun hc2 => ?_) (fun hc2 => ?_)
  · rw [if_pos hc2] at h
    refine mx_iconst (0) (mx_d tX4_nearTo_0 9 rfl) (by decide) ?_
    obtain rfl := Option.some.inj h
    exact mx_ireturn (mx_d tX4_nearTo_0 10 rfl) rfl ⟨rfl, rfl⟩
  · rw [if_neg hc2] at h
    refine mx_aload_n (mx_d tX4_nearTo_0 4 rfl) rfl rfl ?_
    refine mx_getR (mx_d tX4_nearTo_0 5 rfl) fX4_15 rfl rfl (ly4_o h0) (ly4_r6 h0) ?_
    refine mx_iload_n (mx_d tX4_nearTo_0 6 rfl) rfl rfl ?_
    obtain ⟨hi3, h⟩ := mx_chkE h
    refine mx_iaload (mx_d tX4_nearTo_0 7 rfl) (ly4_s6 h0) (mx_inbE hi3) ?_
    refine mx_goto (tgt := 18) (mx_d tX4_nearTo_0 8 rfl) (by decide) ?_
    obtain rfl := Option.some.inj h
    exact mx_ireturn (mx_d tX4_nearTo_0 10 rfl) rfl ⟨rfl, rfl⟩
def FX4_partnerOf (a : Nat) (x0 : Int32) (m : mB) : Option Int32 := Option.bind (FX4_hasPoint a x0 m) (fun r1 => (if r1 = 0 then (some (-1)) else mx_chk (mx_inb x0 10) ((some (m.1 (a + 3) (Int32.toNatClampNeg x0))))))
set_option maxRecDepth 20000 in
theorem CX4_partnerOf {G : mG} {l : Launch} {e : mE} {a : Nat} {x0 : Int32} {m : mB} {r : Int32} (h0 : ly4 e a) (h : FX4_partnerOf a x0 m = some r) : mx_Call G l MX4_partnerOf 2 0 0 [.ref a, .int x0] (e, m) (fun v z => v = some (.int r) ∧ z = (e, m)) := by
  refine mx_entry (L := [.ref a, .int x0]) (by decide +kernel) (Nat.le_of_ble_eq_true rfl) rfl ?_
  unfold FX4_partnerOf at h
  refine mx_aload_n (mx_d tX4_partnerOf_0 0 rfl) rfl rfl ?_
  refine mx_iload_n (mx_d tX4_partnerOf_0 1 rfl) rfl rfl ?_
  obtain ⟨r1, h_r1, h⟩ := Option.bind_eq_some_iff.mp h
  refine mx_cVi (mx_d tX4_partnerOf_0 2 rfl) iX4_69 rfl vX4_hasPoint ⟨_, rfl, rfl⟩ (ly4_o h0) (CX4_hasPoint h0 h_r1) (by decide) rfl rfl (Nat.le_of_ble_eq_true rfl) ?_
  refine mx_if_eq (tgt := 17) (mx_d tX4_partnerOf_0 3 rfl) (by decide) (fun hc2 => ?_) (fun hc2 => ?_)
  · rw [if_pos hc2] at h
    refine mx_iconst ((-1)) (mx_d tX4_partnerOf_0 9 rfl) (by decide) ?_
    obtain rfl := Option.some.inj h
    exact mx_ireturn (mx_d tX4_partnerOf_0 10 rfl) rfl ⟨rfl, rfl⟩
  · rw [if_neg hc2] at h
    refine mx_aload_n (mx_d tX4_partnerOf_0 4 rfl) rfl rfl ?_
    refine mx_getR (mx_d tX4_partnerOf_0 5 rfl) fX4_19 rfl rfl (ly4_o h0) (ly4_r7 h0) ?_
    refine mx_iload_n (mx_d tX4_partnerOf_0 6 rfl) rfl rfl ?_
    obtain ⟨hi3, h⟩ := mx_chkE h
    refine mx_iaload (mx_d tX4_partnerOf_0 7 rfl) (ly4_s7 h0) (mx_inbE hi3) ?_
    refine mx_goto (tgt := 18) (mx_d tX4_partnerOf_0 8 rfl) (by decide) ?_
    obtain rfl := Option.some.inj h
    exact mx_ireturn (mx_d tX4_partnerOf_0 10 rfl) rfl ⟨rfl, rfl⟩
def FX4_isLone (a : Nat) (x0 : Int32) (m : mB) : Option Int32 := Option.bind (FX4_hasPoint a x0 m) (fun r1 => (if r1 = 0 then (some 0) else mx_chk (mx_inb x0 10) ((if (m.1 (a + 3) (Int32.toNatClampNeg x0)) = (-1) then (some 1) else (some 0)))))
set_option maxRecDepth 20000 in
theorem CX4_isLone {G : mG} {l : Launch} {e : mE} {a : Nat} {x0 : Int32} {m : mB} {r : Int32} (h0 : ly4 e a) (h : FX4_isLone a x0 m = some r) : mx_Call G l MX4_isLone 2 0 0 [.ref a, .int x0] (e, m) (fun v z => v = some (.int r) ∧ z = (e, m)) := by
  refine mx_entry (L := [.ref a, .int x0]) (by decide +kernel) (Nat.le_of_ble_eq_true rfl) rfl ?_
  unfold FX4_isLone at h
  refine mx_aload_n (mx_d tX4_isLone_0 0 rfl) rfl rfl ?_
  refine mx_iload_n (mx_d tX4_isLone_0 1 rfl) rfl rfl ?_
  obtain ⟨r1, h_r1, h⟩ := Option.bind_eq_some_iff.mp h
  refine mx_cVi (mx_d tX4_isLone_0 2 rfl) iX4_69 rfl vX4_hasPoint ⟨_, rfl, rfl⟩ (ly4_o h0) (CX4_hasPoint h0 h_r1) (by decide) rfl rfl (Nat.le_of_ble_eq_true rfl) ?_
  refine mx_if_eq (tgt := 22) (mx_d tX4_isLone_0 3 rfl) (by decide) (fun hc2 => ?_) (fun hc2 => ?_)
  · rw [if_pos hc2] at h
    refine mx_iconst (0) (mx_d tX4_isLone_0 12 rfl) (by decide) ?_
    obtain rfl := Option.some.inj h
    exact mx_zreturn (mx_d tX4_isLone_0 13 rfl) rfl rfl ⟨rfl, rfl⟩
  · rw [if_neg hc2] at h
    refine mx_aload_n (mx_d tX4_isLone_0 4 rfl) rfl rfl ?_
    refine mx_getR (mx_d tX4_isLone_0 5 rfl) fX4_19 rfl rfl (ly4_o h0) (ly4_r7 h0) ?_
    refine mx_iload_n (mx_d tX4_isLone_0 6 rfl) rfl rfl ?_
    obtain ⟨hi3, h⟩ := mx_chkE h
    refine mx_iaload (mx_d tX4_isLone_0 7 rfl) (ly4_s7 h0) (mx_inbE hi3) ?_
    refine mx_iconst ((-1)) (mx_d tX4_isLone_0 8 rfl) (by decide) ?_
    refine mx_icmp_ne (tgt := 22) (mx_d tX4_isLone_0 9 rfl) (by decide) (fun hc4 => ?_) (fun hc4 => ?_)
    · rw [if_neg hc4] at h
      refine mx_iconst (0) (mx_d tX4_isLone_0 12 rfl) (by decide) ?_
      obtain rfl := Option.some.inj h
      exact mx_zreturn (mx_d tX4_isLone_0 13 rfl) rfl rfl ⟨rfl, rfl⟩
    · rw [if_pos hc4] at h
      refine mx_iconst (1) (mx_d tX4_isLone_0 10 rfl) (by decide) ?_
      refine mx_goto (tgt := 23) (mx_d tX4_isLone_0 11 rfl) (by decide) ?_
      obtain rfl := Option.some.inj h
      exact mx_zreturn (mx_d tX4_isLone_0 13 rfl) rfl rfl ⟨rfl, rfl⟩
def FX4_priceOf (a : Nat) (x0 : Int32) (m : mB) : Option Int32 := Option.bind (FX4_hasPoint a x0 m) (fun r1 => (if r1 = 0 then (some 0) else mx_chk (mx_inb x0 10) ((some (m.1 (a + 4) (Int32.toNatClampNeg x0))))))
set_option maxRecDepth 20000 in
theorem CX4_priceOf {G : mG} {l : Launch} {e : mE} {a : Nat} {x0 : Int32} {m : mB} {r : Int32} (h0 : ly4 e a) (h : FX4_priceOf a x0 m = some r) : mx_Call G l MX4_priceOf 2 0 0 [.ref a, .int x0] (e, m) (fun v z => v = some (.int r) ∧ z = (e, m)) := by
  refine mx_entry (L := [.ref a, .int x0]) (by decide +kernel) (Nat.le_of_ble_eq_true rfl) rfl ?_
  unfold FX4_priceOf at h
  refine mx_aload_n (mx_d tX4_priceOf_0 0 rfl) rfl rfl ?_
  refine mx_iload_n (mx_d tX4_priceOf_0 1 rfl) rfl rfl ?_
  obtain ⟨r1, h_r1, h⟩ := Option.bind_eq_some_iff.mp h
  refine mx_cVi (mx_d tX4_priceOf_0 2 rfl) iX4_69 rfl vX4_hasPoint ⟨_, rfl, rfl⟩ (ly4_o h0) (CX4_hasPoint h0 h_r1) (by decide) rfl rfl (Nat.le_of_ble_eq_true rfl) ?_
  refine mx_if_eq (tgt := 17) (mx_d tX4_priceOf_0 3 rfl) (by decide) (fun hc2 => ?_) (fun hc2 => ?_)
  · rw [if_pos hc2] at h
    refine mx_iconst (0) (mx_d tX4_priceOf_0 9 rfl) (by decide) ?_
    obtain rfl := Option.some.inj h
    exact mx_ireturn (mx_d tX4_priceOf_0 10 rfl) rfl ⟨rfl, rfl⟩
  · rw [if_neg hc2] at h
    refine mx_aload_n (mx_d tX4_priceOf_0 4 rfl) rfl rfl ?_
    refine mx_getR (mx_d tX4_priceOf_0 5 rfl) fX4_22 rfl rfl (ly4_o h0) (ly4_r8 h0) ?_
    refine mx_iload_n (mx_d tX4_priceOf_0 6 rfl) rfl rfl ?_
    obtain ⟨hi3, h⟩ := mx_chkE h
    refine mx_iaload (mx_d tX4_priceOf_0 7 rfl) (ly4_s8 h0) (mx_inbE hi3) ?_
    refine mx_goto (tgt := 18) (mx_d tX4_priceOf_0 8 rfl) (by decide) ?_
    obtain rfl := Option.some.inj h
    exact mx_ireturn (mx_d tX4_priceOf_0 10 rfl) rfl ⟨rfl, rfl⟩
def FX4_fromOf (a : Nat) (x0 : Int32) (m : mB) : Option Int32 := Option.bind (FX4_hasLink a x0 m) (fun r1 => (if r1 = 0 then (some (-1)) else mx_chk (mx_inb x0 30) ((some (m.1 (a + 5) (Int32.toNatClampNeg x0))))))
set_option maxRecDepth 20000 in
theorem CX4_fromOf {G : mG} {l : Launch} {e : mE} {a : Nat} {x0 : Int32} {m : mB} {r : Int32} (h0 : ly4 e a) (h : FX4_fromOf a x0 m = some r) : mx_Call G l MX4_fromOf 2 0 0 [.ref a, .int x0] (e, m) (fun v z => v = some (.int r) ∧ z = (e, m)) := by
  refine mx_entry (L := [.ref a, .int x0]) (by decide +kernel) (Nat.le_of_ble_eq_true rfl) rfl ?_
  unfold FX4_fromOf at h
  refine mx_aload_n (mx_d tX4_fromOf_0 0 rfl) rfl rfl ?_
  refine mx_iload_n (mx_d tX4_fromOf_0 1 rfl) rfl rfl ?_
  obtain ⟨r1, h_r1, h⟩ := Option.bind_eq_some_iff.mp h
  refine mx_cVi (mx_d tX4_fromOf_0 2 rfl) iX4_73 rfl vX4_hasLink ⟨_, rfl, rfl⟩ (ly4_o h0) (CX4_hasLink h0 h_r1) (by decide) rfl rfl (Nat.le_of_ble_eq_true rfl) ?_
  refine mx_if_eq (tgt := 17) (mx_d tX4_fromOf_0 3 rfl) (by decide) (fun hc2 => ?_) (fun hc2 => ?_)
  · rw [if_pos hc2] at h
    refine mx_iconst ((-1)) (mx_d tX4_fromOf_0 9 rfl) (by decide) ?_
    obtain rfl := Option.some.inj h
    exact mx_ireturn (mx_d tX4_fromOf_0 10 rfl) rfl ⟨rfl, rfl⟩
  · rw [if_neg hc2] at h
    refine mx_aload_n (mx_d tX4_fromOf_0 4 rfl) rfl rfl ?_
    refine mx_getR (mx_d tX4_fromOf_0 5 rfl) fX4_25 rfl rfl (ly4_o h0) (ly4_r9 h0) ?_
    refine mx_iload_n (mx_d tX4_fromOf_0 6 rfl) rfl rfl ?_
    obtain ⟨hi3, h⟩ := mx_chkE h
    refine mx_iaload (mx_d tX4_fromOf_0 7 rfl) (ly4_s9 h0) (mx_inbE hi3) ?_
    refine mx_goto (tgt := 18) (mx_d tX4_fromOf_0 8 rfl) (by decide) ?_
    obtain rfl := Option.some.inj h
    exact mx_ireturn (mx_d tX4_fromOf_0 10 rfl) rfl ⟨rfl, rfl⟩
def FX4_toOf (a : Nat) (x0 : Int32) (m : mB) : Option Int32 := Option.bind (FX4_hasLink a x0 m) (fun r1 => (if r1 = 0 then (some (-1)) else mx_chk (mx_inb x0 30) ((some (m.1 (a + 6) (Int32.toNatClampNeg x0))))))
set_option maxRecDepth 20000 in
theorem CX4_toOf {G : mG} {l : Launch} {e : mE} {a : Nat} {x0 : Int32} {m : mB} {r : Int32} (h0 : ly4 e a) (h : FX4_toOf a x0 m = some r) : mx_Call G l MX4_toOf 2 0 0 [.ref a, .int x0] (e, m) (fun v z => v = some (.int r) ∧ z = (e, m)) := by
  refine mx_entry (L := [.ref a, .int x0]) (by decide +kernel) (Nat.le_of_ble_eq_true rfl) rfl ?_
  unfold FX4_toOf at h
  refine mx_aload_n (mx_d tX4_toOf_0 0 rfl) rfl rfl ?_
  refine mx_iload_n (mx_d tX4_toOf_0 1 rfl) rfl rfl ?_
  obtain ⟨r1, h_r1, h⟩ := Option.bind_eq_some_iff.mp h
  refine mx_cVi (mx_d tX4_toOf_0 2 rfl) iX4_73 rfl vX4_hasLink ⟨_, rfl, rfl⟩ (ly4_o h0) (CX4_hasLink h0 h_r1) (by decide) rfl rfl (Nat.le_of_ble_eq_true rfl) ?_
  refine mx_if_eq (tgt := 17) (mx_d tX4_toOf_0 3 rfl) (by decide) (fun hc2 => ?_) (fun hc2 => ?_)
  · rw [if_pos hc2] at h
    refine mx_iconst ((-1)) (mx_d tX4_toOf_0 9 rfl) (by decide) ?_
    obtain rfl := Option.some.inj h
    exact mx_ireturn (mx_d tX4_toOf_0 10 rfl) rfl ⟨rfl, rfl⟩
  · rw [if_neg hc2] at h
    refine mx_aload_n (mx_d tX4_toOf_0 4 rfl) rfl rfl ?_
    refine mx_getR (mx_d tX4_toOf_0 5 rfl) fX4_28 rfl rfl (ly4_o h0) (ly4_r10 h0) ?_
    refine mx_iload_n (mx_d tX4_toOf_0 6 rfl) rfl rfl ?_
    obtain ⟨hi3, h⟩ := mx_chkE h
    refine mx_iaload (mx_d tX4_toOf_0 7 rfl) (ly4_s10 h0) (mx_inbE hi3) ?_
    refine mx_goto (tgt := 18) (mx_d tX4_toOf_0 8 rfl) (by decide) ?_
    obtain rfl := Option.some.inj h
    exact mx_ireturn (mx_d tX4_toOf_0 10 rfl) rfl ⟨rfl, rfl⟩
def FX4_weightAt (a : Nat) (x0 : Int32) (m : mB) : Option Int32 := Option.bind (FX4_hasLink a x0 m) (fun r1 => (if r1 = 0 then (some 0) else mx_chk (mx_inb x0 30) ((some (m.1 (a + 7) (Int32.toNatClampNeg x0))))))
set_option maxRecDepth 20000 in
theorem CX4_weightAt {G : mG} {l : Launch} {e : mE} {a : Nat} {x0 : Int32} {m : mB} {r : Int32} (h0 : ly4 e a) (h : FX4_weightAt a x0 m = some r) : mx_Call G l MX4_weightAt 2 0 0 [.ref a, .int x0] (e, m) (fun v z => v = some (.int r) ∧ z = (e, m)) := by
  refine mx_entry (L := [.ref a, .int x0]) (by decide +kernel) (Nat.le_of_ble_eq_true rfl) rfl ?_
  unfold FX4_weightAt at h
  refine mx_aload_n (mx_d tX4_weightAt_0 0 rfl) rfl rfl ?_
  refine mx_iload_n (mx_d tX4_weightAt_0 1 rfl) rfl rfl ?_
  obtain ⟨r1, h_r1, h⟩ := Option.bind_eq_some_iff.mp h
  refine mx_cVi (mx_d tX4_weightAt_0 2 rfl) iX4_73 rfl vX4_hasLink ⟨_, rfl, rfl⟩ (ly4_o h0) (CX4_hasLink h0 h_r1) (by decide) rfl rfl (Nat.le_of_ble_eq_true rfl) ?_
  refine mx_if_eq (tgt := 17) (mx_d tX4_weightAt_0 3 rfl) (by decide) (fun hc2 => ?_) (fun hc2 => ?_)
  · rw [if_pos hc2] at h
    refine mx_iconst (0) (mx_d tX4_weightAt_0 9 rfl) (by decide) ?_
    obtain rfl := Option.some.inj h
    exact mx_ireturn (mx_d tX4_weightAt_0 10 rfl) rfl ⟨rfl, rfl⟩
  · rw [if_neg hc2] at h
    refine mx_aload_n (mx_d tX4_weightAt_0 4 rfl) rfl rfl ?_
    refine mx_getR (mx_d tX4_weightAt_0 5 rfl) fX4_31 rfl rfl (ly4_o h0) (ly4_r11 h0) ?_
    refine mx_iload_n (mx_d tX4_weightAt_0 6 rfl) rfl rfl ?_
    obtain ⟨hi3, h⟩ := mx_chkE h
    refine mx_iaload (mx_d tX4_weightAt_0 7 rfl) (ly4_s11 h0) (mx_inbE hi3) ?_
    refine mx_goto (tgt := 18) (mx_d tX4_weightAt_0 8 rfl) (by decide) ?_
    obtain rfl := Option.some.inj h
    exact mx_ireturn (mx_d tX4_weightAt_0 10 rfl) rfl ⟨rfl, rfl⟩
def FX4_isPair (a : Nat) (x0 : Int32) (m : mB) : Option Int32 := Option.bind (FX4_hasLink a x0 m) (fun r1 => (if r1 = 0 then (some 0) else mx_chk (mx_inb x0 30) (Option.bind (FX4_partnerOf a (m.1 (a + 5) (Int32.toNatClampNeg x0)) m) (fun r4 => (if r4 = (m.1 (a + 6) (Int32.toNatClampNeg x0)) then (some 1) else (some 0))))))
set_option maxRecDepth 20000 in
theorem CX4_isPair {G : mG} {l : Launch} {e : mE} {a : Nat} {x0 : Int32} {m : mB} {r : Int32} (h0 : ly4 e a) (h : FX4_isPair a x0 m = some r) : mx_Call G l MX4_isPair 3 0 0 [.ref a, .int x0] (e, m) (fun v z => v = some (.int r) ∧ z = (e, m)) := by
  refine mx_entry (L := [.ref a, .int x0]) (by decide +kernel) (Nat.le_of_ble_eq_true rfl) rfl ?_
  unfold FX4_isPair at h
  refine mx_aload_n (mx_d tX4_isPair_0 0 rfl) rfl rfl ?_
  refine mx_iload_n (mx_d tX4_isPair_0 1 rfl) rfl rfl ?_
  obtain ⟨r1, h_r1, h⟩ := Option.bind_eq_some_iff.mp h
  refine mx_cVi (mx_d tX4_isPair_0 2 rfl) iX4_73 rfl vX4_hasLink ⟨_, rfl, rfl⟩ (ly4_o h0) (CX4_hasLink h0 h_r1) (by decide) rfl rfl (Nat.le_of_ble_eq_true rfl) ?_
  refine mx_if_eq (tgt := 31) (mx_d tX4_isPair_0 3 rfl) (by decide) (fun hc2 => ?_) (fun hc2 => ?_)
  · rw [if_pos hc2] at h
    refine mx_iconst (0) (mx_d tX4_isPair_0 17 rfl) (by decide) ?_
    obtain rfl := Option.some.inj h
    exact mx_zreturn (mx_d tX4_isPair_0 18 rfl) rfl rfl ⟨rfl, rfl⟩
  · rw [if_neg hc2] at h
    refine mx_aload_n (mx_d tX4_isPair_0 4 rfl) rfl rfl ?_
    refine mx_aload_n (mx_d tX4_isPair_0 5 rfl) rfl rfl ?_
    refine mx_getR (mx_d tX4_isPair_0 6 rfl) fX4_25 rfl rfl (ly4_o h0) (ly4_r9 h0) ?_
    refine mx_iload_n (mx_d tX4_isPair_0 7 rfl) rfl rfl ?_
    obtain ⟨hi3, h⟩ := mx_chkE h
    refine mx_iaload (mx_d tX4_isPair_0 8 rfl) (ly4_s9 h0) (mx_inbE hi3) ?_
    obtain ⟨r4, h_r4, h⟩ := Option.bind_eq_some_iff.mp h
    refine mx_cVi (mx_d tX4_isPair_0 9 rfl) iX4_76 rfl vX4_partnerOf ⟨_, rfl, rfl⟩ (ly4_o h0) (CX4_partnerOf h0 h_r4) (by decide) rfl rfl (Nat.le_of_ble_eq_true rfl) ?_
    refine mx_aload_n (mx_d tX4_isPair_0 10 rfl) rfl rfl ?_
    refine mx_getR (mx_d tX4_isPair_0 11 rfl) fX4_28 rfl rfl (ly4_o h0) (ly4_r10 h0) ?_
    refine mx_iload_n (mx_d tX4_isPair_0 12 rfl) rfl rfl ?_
    refine mx_iaload (mx_d tX4_isPair_0 13 rfl) (ly4_s10 h0) (mx_inbE hi3) ?_
    refine mx_icmp_ne (tgt := 31) (mx_d tX4_isPair_0 14 rfl) (by decide) (fun hc5 => ?_) (fun hc5 => ?_)
    · rw [if_neg hc5] at h
      refine mx_iconst (0) (mx_d tX4_isPair_0 17 rfl) (by decide) ?_
      obtain rfl := Option.some.inj h
      exact mx_zreturn (mx_d tX4_isPair_0 18 rfl) rfl rfl ⟨rfl, rfl⟩
    · rw [if_pos hc5] at h
      refine mx_iconst (1) (mx_d tX4_isPair_0 15 rfl) (by decide) ?_
      refine mx_goto (tgt := 32) (mx_d tX4_isPair_0 16 rfl) (by decide) ?_
      obtain rfl := Option.some.inj h
      exact mx_zreturn (mx_d tX4_isPair_0 18 rfl) rfl rfl ⟨rfl, rfl⟩
def FX4_membersOf (a : Nat) (x0 : Int32) (m : mB) : Option Int32 := Option.bind (FX4_hasSet a x0 m) (fun r1 => (if r1 = 0 then (some 0) else mx_chk (mx_inb x0 6) ((some (m.1 (a + 9) (Int32.toNatClampNeg x0))))))
set_option maxRecDepth 20000 in
theorem CX4_membersOf {G : mG} {l : Launch} {e : mE} {a : Nat} {x0 : Int32} {m : mB} {r : Int32} (h0 : ly4 e a) (h : FX4_membersOf a x0 m = some r) : mx_Call G l MX4_membersOf 2 0 0 [.ref a, .int x0] (e, m) (fun v z => v = some (.int r) ∧ z = (e, m)) := by
  refine mx_entry (L := [.ref a, .int x0]) (by decide +kernel) (Nat.le_of_ble_eq_true rfl) rfl ?_
  unfold FX4_membersOf at h
  refine mx_aload_n (mx_d tX4_membersOf_0 0 rfl) rfl rfl ?_
  refine mx_iload_n (mx_d tX4_membersOf_0 1 rfl) rfl rfl ?_
  obtain ⟨r1, h_r1, h⟩ := Option.bind_eq_some_iff.mp h
  refine mx_cVi (mx_d tX4_membersOf_0 2 rfl) iX4_80 rfl vX4_hasSet ⟨_, rfl, rfl⟩ (ly4_o h0) (CX4_hasSet h0 h_r1) (by decide) rfl rfl (Nat.le_of_ble_eq_true rfl) ?_
  refine mx_if_eq (tgt := 17) (mx_d tX4_membersOf_0 3 rfl) (by decide) (fun hc2 => ?_) (fun hc2 => ?_)
  · rw [if_pos hc2] at h
    refine mx_iconst (0) (mx_d tX4_membersOf_0 9 rfl) (by decide) ?_
    obtain rfl := Option.some.inj h
    exact mx_ireturn (mx_d tX4_membersOf_0 10 rfl) rfl ⟨rfl, rfl⟩
  · rw [if_neg hc2] at h
    refine mx_aload_n (mx_d tX4_membersOf_0 4 rfl) rfl rfl ?_
    refine mx_getR (mx_d tX4_membersOf_0 5 rfl) fX4_37 rfl rfl (ly4_o h0) (ly4_r13 h0) ?_
    refine mx_iload_n (mx_d tX4_membersOf_0 6 rfl) rfl rfl ?_
    obtain ⟨hi3, h⟩ := mx_chkE h
    refine mx_iaload (mx_d tX4_membersOf_0 7 rfl) (ly4_s13 h0) (mx_inbE hi3) ?_
    refine mx_goto (tgt := 18) (mx_d tX4_membersOf_0 8 rfl) (by decide) ?_
    obtain rfl := Option.some.inj h
    exact mx_ireturn (mx_d tX4_membersOf_0 10 rfl) rfl ⟨rfl, rfl⟩
def FX4_crownOf (a : Nat) (x0 : Int32) (m : mB) : Option Int32 := Option.bind (FX4_hasSet a x0 m) (fun r1 => (if r1 = 0 then (some 0) else mx_chk (mx_inb x0 6) ((some (m.1 (a + 10) (Int32.toNatClampNeg x0))))))
set_option maxRecDepth 20000 in
theorem CX4_crownOf {G : mG} {l : Launch} {e : mE} {a : Nat} {x0 : Int32} {m : mB} {r : Int32} (h0 : ly4 e a) (h : FX4_crownOf a x0 m = some r) : mx_Call G l MX4_crownOf 2 0 0 [.ref a, .int x0] (e, m) (fun v z => v = some (.int r) ∧ z = (e, m)) := by
  refine mx_entry (L := [.ref a, .int x0]) (by decide +kernel) (Nat.le_of_ble_eq_true rfl) rfl ?_
  unfold FX4_crownOf at h
  refine mx_aload_n (mx_d tX4_crownOf_0 0 rfl) rfl rfl ?_
  refine mx_iload_n (mx_d tX4_crownOf_0 1 rfl) rfl rfl ?_
  obtain ⟨r1, h_r1, h⟩ := Option.bind_eq_some_iff.mp h
  refine mx_cVi (mx_d tX4_crownOf_0 2 rfl) iX4_80 rfl vX4_hasSet ⟨_, rfl, rfl⟩ (ly4_o h0) (CX4_hasSet h0 h_r1) (by decide) rfl rfl (Nat.le_of_ble_eq_true rfl) ?_
  refine mx_if_eq (tgt := 17) (mx_d tX4_crownOf_0 3 rfl) (by decide) (fun hc2 => ?_) (fun hc2 => ?_)
  · rw [if_pos hc2] at h
    refine mx_iconst (0) (mx_d tX4_crownOf_0 9 rfl) (by decide) ?_
    obtain rfl := Option.some.inj h
    exact mx_ireturn (mx_d tX4_crownOf_0 10 rfl) rfl ⟨rfl, rfl⟩
  · rw [if_neg hc2] at h
    refine mx_aload_n (mx_d tX4_crownOf_0 4 rfl) rfl rfl ?_
    refine mx_getR (mx_d tX4_crownOf_0 5 rfl) fX4_40 rfl rfl (ly4_o h0) (ly4_r14 h0) ?_
    refine mx_iload_n (mx_d tX4_crownOf_0 6 rfl) rfl rfl ?_
    obtain ⟨hi3, h⟩ := mx_chkE h
    refine mx_iaload (mx_d tX4_crownOf_0 7 rfl) (ly4_s14 h0) (mx_inbE hi3) ?_
    refine mx_goto (tgt := 18) (mx_d tX4_crownOf_0 8 rfl) (by decide) ?_
    obtain rfl := Option.some.inj h
    exact mx_ireturn (mx_d tX4_crownOf_0 10 rfl) rfl ⟨rfl, rfl⟩
def FX4_areLinked (a : Nat) (x0 : Int32) (x1 : Int32) (m : mB) : Option Int32 := Option.bind (FX4_hasPoint a x0 m) (fun r1 => (if r1 = 0 then (some 0) else Option.bind (FX4_hasPoint a x1 m) (fun r3 => (if r3 = 0 then (some 0) else mx_chk (mx_inb x0 10) ((if (((m.1 (a + 2) (Int32.toNatClampNeg x0)) >>> (x1 &&& 31)) &&& 1) = 0 then (some 0) else (some 1)))))))
set_option maxRecDepth 20000 in
theorem CX4_areLinked {G : mG} {l : Launch} {e : mE} {a : Nat} {x0 : Int32} {x1 : Int32} {m : mB} {r : Int32} (h0 : ly4 e a) (h : FX4_areLinked a x0 x1 m = some r) : mx_Call G l MX4_areLinked 2 0 0 [.ref a, .int x0, .int x1] (e, m) (fun v z => v = some (.int r) ∧ z = (e, m)) := by
  refine mx_entry (L := [.ref a, .int x0, .int x1]) (by decide +kernel) (Nat.le_of_ble_eq_true rfl) rfl ?_
  unfold FX4_areLinked at h
  refine mx_aload_n (mx_d tX4_areLinked_0 0 rfl) rfl rfl ?_
  refine mx_iload_n (mx_d tX4_areLinked_0 1 rfl) rfl rfl ?_
  obtain ⟨r1, h_r1, h⟩ := Option.bind_eq_some_iff.mp h
  refine mx_cVi (mx_d tX4_areLinked_0 2 rfl) iX4_69 rfl vX4_hasPoint ⟨_, rfl, rfl⟩ (ly4_o h0) (CX4_hasPoint h0 h_r1) (by decide) rfl rfl (Nat.le_of_ble_eq_true rfl) ?_
  refine mx_if_eq (tgt := 33) (mx_d tX4_areLinked_0 3 rfl) (by decide) (fun hc2 => ?_) (fun hc2 => ?_)
  · rw [if_pos hc2] at h
    refine mx_iconst (0) (mx_d tX4_areLinked_0 19 rfl) (by decide) ?_
    obtain rfl := Option.some.inj h
    exact mx_zreturn (mx_d tX4_areLinked_0 20 rfl) rfl rfl ⟨rfl, rfl⟩
  · rw [if_neg hc2] at h
    refine mx_aload_n (mx_d tX4_areLinked_0 4 rfl) rfl rfl ?_
    refine mx_iload_n (mx_d tX4_areLinked_0 5 rfl) rfl rfl ?_
    obtain ⟨r3, h_r3, h⟩ := Option.bind_eq_some_iff.mp h
    refine mx_cVi (mx_d tX4_areLinked_0 6 rfl) iX4_69 rfl vX4_hasPoint ⟨_, rfl, rfl⟩ (ly4_o h0) (CX4_hasPoint h0 h_r3) (by decide) rfl rfl (Nat.le_of_ble_eq_true rfl) ?_
    refine mx_if_eq (tgt := 33) (mx_d tX4_areLinked_0 7 rfl) (by decide) (fun hc4 => ?_) (fun hc4 => ?_)
    · rw [if_pos hc4] at h
      refine mx_iconst (0) (mx_d tX4_areLinked_0 19 rfl) (by decide) ?_
      obtain rfl := Option.some.inj h
      exact mx_zreturn (mx_d tX4_areLinked_0 20 rfl) rfl rfl ⟨rfl, rfl⟩
    · rw [if_neg hc4] at h
      refine mx_aload_n (mx_d tX4_areLinked_0 8 rfl) rfl rfl ?_
      refine mx_getR (mx_d tX4_areLinked_0 9 rfl) fX4_15 rfl rfl (ly4_o h0) (ly4_r6 h0) ?_
      refine mx_iload_n (mx_d tX4_areLinked_0 10 rfl) rfl rfl ?_
      obtain ⟨hi5, h⟩ := mx_chkE h
      refine mx_iaload (mx_d tX4_areLinked_0 11 rfl) (ly4_s6 h0) (mx_inbE hi5) ?_
      refine mx_iload_n (mx_d tX4_areLinked_0 12 rfl) rfl rfl ?_
      refine mx_ishr (mx_d tX4_areLinked_0 13 rfl) ?_
      refine mx_iconst (1) (mx_d tX4_areLinked_0 14 rfl) (by decide) ?_
      refine mx_iand (mx_d tX4_areLinked_0 15 rfl) ?_
      refine mx_if_eq (tgt := 33) (mx_d tX4_areLinked_0 16 rfl) (by decide) (fun hc6 => ?_) (fun hc6 => ?_)
      · rw [if_pos hc6] at h
        refine mx_iconst (0) (mx_d tX4_areLinked_0 19 rfl) (by decide) ?_
        obtain rfl := Option.some.inj h
        exact mx_zreturn (mx_d tX4_areLinked_0 20 rfl) rfl rfl ⟨rfl, rfl⟩
      · rw [if_neg hc6] at h
        refine mx_iconst (1) (mx_d tX4_areLinked_0 17 rfl) (by decide) ?_
        refine mx_goto (tgt := 34) (mx_d tX4_areLinked_0 18 rfl) (by decide) ?_
        obtain rfl := Option.some.inj h
        exact mx_zreturn (mx_d tX4_areLinked_0 20 rfl) rfl rfl ⟨rfl, rfl⟩
def FX4_linkOf (a : Nat) (x0 : Int32) (x1 : Int32) (m : mB) : Option Int32 := Option.bind (FX4_hasPoint a x0 m) (fun r1 => (if r1 = 0 then (some (-1)) else Option.bind (FX4_hasPoint a x1 m) (fun r3 => (if r3 = 0 then (some (-1)) else mx_chk (mx_inb ((x0 * 10) + x1) 100) ((some ((m.1 (a + 8) (Int32.toNatClampNeg ((x0 * 10) + x1))) - 1)))))))
set_option maxRecDepth 20000 in
theorem CX4_linkOf {G : mG} {l : Launch} {e : mE} {a : Nat} {x0 : Int32} {x1 : Int32} {m : mB} {r : Int32} (h0 : ly4 e a) (h : FX4_linkOf a x0 x1 m = some r) : mx_Call G l MX4_linkOf 2 0 0 [.ref a, .int x0, .int x1] (e, m) (fun v z => v = some (.int r) ∧ z = (e, m)) := by
  refine mx_entry (L := [.ref a, .int x0, .int x1]) (by decide +kernel) (Nat.le_of_ble_eq_true rfl) rfl ?_
  unfold FX4_linkOf at h
  refine mx_aload_n (mx_d tX4_linkOf_0 0 rfl) rfl rfl ?_
  refine mx_iload_n (mx_d tX4_linkOf_0 1 rfl) rfl rfl ?_
  obtain ⟨r1, h_r1, h⟩ := Option.bind_eq_some_iff.mp h
  refine mx_cVi (mx_d tX4_linkOf_0 2 rfl) iX4_69 rfl vX4_hasPoint ⟨_, rfl, rfl⟩ (ly4_o h0) (CX4_hasPoint h0 h_r1) (by decide) rfl rfl (Nat.le_of_ble_eq_true rfl) ?_
  refine mx_if_eq (tgt := 32) (mx_d tX4_linkOf_0 3 rfl) (by decide) (fun hc2 => ?_) (fun hc2 => ?_)
  · rw [if_pos hc2] at h
    refine mx_iconst ((-1)) (mx_d tX4_linkOf_0 19 rfl) (by decide) ?_
    obtain rfl := Option.some.inj h
    exact mx_ireturn (mx_d tX4_linkOf_0 20 rfl) rfl ⟨rfl, rfl⟩
  · rw [if_neg hc2] at h
    refine mx_aload_n (mx_d tX4_linkOf_0 4 rfl) rfl rfl ?_
    refine mx_iload_n (mx_d tX4_linkOf_0 5 rfl) rfl rfl ?_
    obtain ⟨r3, h_r3, h⟩ := Option.bind_eq_some_iff.mp h
    refine mx_cVi (mx_d tX4_linkOf_0 6 rfl) iX4_69 rfl vX4_hasPoint ⟨_, rfl, rfl⟩ (ly4_o h0) (CX4_hasPoint h0 h_r3) (by decide) rfl rfl (Nat.le_of_ble_eq_true rfl) ?_
    refine mx_if_eq (tgt := 32) (mx_d tX4_linkOf_0 7 rfl) (by decide) (fun hc4 => ?_) (fun hc4 => ?_)
    · rw [if_pos hc4] at h
      refine mx_iconst ((-1)) (mx_d tX4_linkOf_0 19 rfl) (by decide) ?_
      obtain rfl := Option.some.inj h
      exact mx_ireturn (mx_d tX4_linkOf_0 20 rfl) rfl ⟨rfl, rfl⟩
    · rw [if_neg hc4] at h
      refine mx_aload_n (mx_d tX4_linkOf_0 8 rfl) rfl rfl ?_
      refine mx_getR (mx_d tX4_linkOf_0 9 rfl) fX4_34 rfl rfl (ly4_o h0) (ly4_r12 h0) ?_
      refine mx_iload_n (mx_d tX4_linkOf_0 10 rfl) rfl rfl ?_
      refine mx_bipush (10) (mx_d tX4_linkOf_0 11 rfl) (by decide) ?_
      refine mx_imul (mx_d tX4_linkOf_0 12 rfl) ?_
      refine mx_iload_n (mx_d tX4_linkOf_0 13 rfl) rfl rfl ?_
      refine mx_iadd (mx_d tX4_linkOf_0 14 rfl) ?_
      obtain ⟨hi5, h⟩ := mx_chkE h
      refine mx_iaload (mx_d tX4_linkOf_0 15 rfl) (ly4_s12 h0) (mx_inbE hi5) ?_
      refine mx_iconst (1) (mx_d tX4_linkOf_0 16 rfl) (by decide) ?_
      refine mx_isub (mx_d tX4_linkOf_0 17 rfl) ?_
      refine mx_goto (tgt := 33) (mx_d tX4_linkOf_0 18 rfl) (by decide) ?_
      obtain rfl := Option.some.inj h
      exact mx_ireturn (mx_d tX4_linkOf_0 20 rfl) rfl ⟨rfl, rfl⟩
def FX4_weightOf (a : Nat) (x0 : Int32) (x1 : Int32) (m : mB) : Option Int32 := Option.bind (FX4_linkOf a x0 x1 m) (fun r1 => Option.bind (FX4_weightAt a r1 m) (fun r2 => (some r2)))
set_option maxRecDepth 20000 in
theorem CX4_weightOf {G : mG} {l : Launch} {e : mE} {a : Nat} {x0 : Int32} {x1 : Int32} {m : mB} {r : Int32} (h0 : ly4 e a) (h : FX4_weightOf a x0 x1 m = some r) : mx_Call G l MX4_weightOf 3 0 0 [.ref a, .int x0, .int x1] (e, m) (fun v z => v = some (.int r) ∧ z = (e, m)) := by
  refine mx_entry (L := [.ref a, .int x0, .int x1]) (by decide +kernel) (Nat.le_of_ble_eq_true rfl) rfl ?_
  unfold FX4_weightOf at h
  refine mx_aload_n (mx_d tX4_weightOf_0 0 rfl) rfl rfl ?_
  refine mx_aload_n (mx_d tX4_weightOf_0 1 rfl) rfl rfl ?_
  refine mx_iload_n (mx_d tX4_weightOf_0 2 rfl) rfl rfl ?_
  refine mx_iload_n (mx_d tX4_weightOf_0 3 rfl) rfl rfl ?_
  obtain ⟨r1, h_r1, h⟩ := Option.bind_eq_some_iff.mp h
  refine mx_cVi (mx_d tX4_weightOf_0 4 rfl) iX4_83 rfl vX4_linkOf ⟨_, rfl, rfl⟩ (ly4_o h0) (CX4_linkOf h0 h_r1) (by decide) rfl rfl (Nat.le_of_ble_eq_true rfl) ?_
  obtain ⟨r2, h_r2, h⟩ := Option.bind_eq_some_iff.mp h
  refine mx_cVi (mx_d tX4_weightOf_0 5 rfl) iX4_87 rfl vX4_weightAt ⟨_, rfl, rfl⟩ (ly4_o h0) (CX4_weightAt h0 h_r2) (by decide) rfl rfl (Nat.le_of_ble_eq_true rfl) ?_
  obtain rfl := Option.some.inj h
  exact mx_ireturn (mx_d tX4_weightOf_0 6 rfl) rfl ⟨rfl, rfl⟩
def FX4_setOf_L2 (q0 : Nat) (y1 : Int32) (m : mB) : Nat → Int32 → Option (Int32 ⊕ (Unit))
  | 0, _ => none
  | f + 1, y2 => (if (m.1 q0 2) ≤ y2 then (some (.inr ())) else (if 6 ≤ y2 then (some (.inr ())) else mx_chk (mx_inb y2 6) ((if (m.1 (q0 + 9) (Int32.toNatClampNeg y2)) = y1 then (some (.inl y2)) else mx_let (y2 + 1) (fun v5 => (FX4_setOf_L2 q0 y1 m f v5))))))
set_option maxRecDepth 20000 in
theorem CX4_setOf_L2 {G : mG} {l : Launch} {e : mE} {Post : Option Value → mS → Prop} {q0 : Nat} {y1 : Int32} {m : mB} (g0 : ly4 e q0) : ∀ (f : Nat) {y2 : Int32} {q : (Int32 ⊕ (Unit))}, FX4_setOf_L2 q0 y1 m f y2 = some q → (∀ rr, q = .inl rr → Post (some (.int rr)) (e, m)) → (∀ u, q = .inr u → mx_Fr G l MX4_setOf 1 0 0 Post 34 [.float 0, .float 0, .float 0] [] (e, m)) → mx_Fr G l MX4_setOf 1 0 0 Post 2 [.ref q0, .int y1, .int y2] [] (e, m) := by
  intro f
  induction f with
  | zero => intro _ _ h; cases h
  | succ f ih =>
    intro y2 q h hret hex
    rw [FX4_setOf_L2] at h
    refine mx_iload_n (mx_d tX4_setOf_0 2 rfl) rfl rfl ?_
    refine mx_aload_n (mx_d tX4_setOf_0 3 rfl) rfl rfl ?_
    refine mx_getI (mx_d tX4_setOf_0 4 rfl) fX4_50 rfl (Or.inl rfl) (ly4_o g0) ?_
    refine mx_icmp_ge (tgt := 34) (mx_d tX4_setOf_0 5 rfl) (by decide) (fun hc1 => ?_) (fun hc1 => ?_)
    · rw [if_pos hc1] at h
      obtain rfl := Option.some.inj h
      refine mx_forget (L' := [.float 0, .float 0, .float 0]) trivial ?_
      exact (hex _ rfl)
    · rw [if_neg hc1] at h
      refine mx_iload_n (mx_d tX4_setOf_0 6 rfl) rfl rfl ?_
      refine mx_bipush (6) (mx_d tX4_setOf_0 7 rfl) (by decide) ?_
      refine mx_icmp_ge (tgt := 34) (mx_d tX4_setOf_0 8 rfl) (by decide) (fun hc2 => ?_) (fun hc2 => ?_)
      · rw [if_pos hc2] at h
        obtain rfl := Option.some.inj h
        refine mx_forget (L' := [.float 0, .float 0, .float 0]) trivial ?_
        exact (hex _ rfl)
      · rw [if_neg hc2] at h
        refine mx_aload_n (mx_d tX4_setOf_0 9 rfl) rfl rfl ?_
        refine mx_getR (mx_d tX4_setOf_0 10 rfl) fX4_37 rfl rfl (ly4_o g0) (ly4_r13 g0) ?_
        refine mx_iload_n (mx_d tX4_setOf_0 11 rfl) rfl rfl ?_
        obtain ⟨hi3, h⟩ := mx_chkE h
        refine mx_iaload (mx_d tX4_setOf_0 12 rfl) (ly4_s13 g0) (mx_inbE hi3) ?_
        refine mx_iload_n (mx_d tX4_setOf_0 13 rfl) rfl rfl ?_
        refine mx_icmp_ne (tgt := 28) (mx_d tX4_setOf_0 14 rfl) (by decide) (fun hc4 => ?_) (fun hc4 => ?_)
        · rw [if_neg hc4] at h
          obtain ⟨v5, e_v5, h⟩ := mx_letE h
          refine mx_iinc v5 (L2 := [.ref q0, .int y1, .int v5]) (mx_d tX4_setOf_0 17 rfl) rfl (by rw [e_v5]; rfl) (by decide) rfl ?_
          refine mx_goto (tgt := 2) (mx_d tX4_setOf_0 18 rfl) (by decide) ?_
          exact ih h hret hex
        · rw [if_pos hc4] at h
          refine mx_iload_n (mx_d tX4_setOf_0 15 rfl) rfl rfl ?_
          obtain rfl := Option.some.inj h
          exact mx_ireturn (mx_d tX4_setOf_0 16 rfl) rfl (hret _ rfl)
def FX4_setOf (a : Nat) (x0 : Int32) (m : mB) : Option Int32 := Option.bind (FX4_setOf_L2 a x0 m mx_FU 0) (fun q6 => Sum.elim (fun rr => some rr) (fun u7 => (some (-1))) q6)
set_option maxRecDepth 20000 in
theorem CX4_setOf {G : mG} {l : Launch} {e : mE} {a : Nat} {x0 : Int32} {m : mB} {r : Int32} (h0 : ly4 e a) (h : FX4_setOf a x0 m = some r) : mx_Call G l MX4_setOf 1 0 0 [.ref a, .int x0] (e, m) (fun v z => v = some (.int r) ∧ z = (e, m)) := by
  refine mx_entry (L := [.ref a, .int x0, .float 0]) (by decide +kernel) (Nat.le_of_ble_eq_true rfl) rfl ?_
  unfold FX4_setOf at h
  refine mx_iconst (0) (mx_d tX4_setOf_0 0 rfl) (by decide) ?_
  refine mx_istore_n (L2 := [.ref a, .int x0, .int 0]) (mx_d tX4_setOf_0 1 rfl) rfl (by decide) (by rfl) ?_
  obtain ⟨q6, h_q6, h⟩ := Option.bind_eq_some_iff.mp h
  refine CX4_setOf_L2 h0 mx_FU h_q6 (fun rr8 e_rr8 => ?_) (fun u7 e_u7 => ?_)
  · subst e_rr8
    rw [Sum.elim_inl] at h
    obtain rfl := Option.some.inj h
    exact ⟨rfl, rfl⟩
  · subst e_u7
    rw [Sum.elim_inr] at h
    refine mx_iconst ((-1)) (mx_d tX4_setOf_0 19 rfl) (by decide) ?_
    obtain rfl := Option.some.inj h
    exact mx_ireturn (mx_d tX4_setOf_0 20 rfl) rfl ⟨rfl, rfl⟩
def FX4_setsWith_L4 (q0 : Nat) (y1 : Int32) (m : mB) : Nat → Int32 → Int32 → Option (Int32)
  | 0, _, _ => none
  | f + 1, y2, y3 => (if (m.1 q0 2) ≤ y3 then (some (y2)) else (if 6 ≤ y3 then (some (y2)) else mx_chk (mx_inb y3 6) ((if (((m.1 (q0 + 9) (Int32.toNatClampNeg y3)) >>> (y1 &&& 31)) &&& 1) = 0 then mx_let (y3 + 1) (fun v5 => (FX4_setsWith_L4 q0 y1 m f y2 v5)) else mx_let (y2 ||| ((1 : Int32) <<< (y3 &&& 31))) (fun v6 => mx_let (y3 + 1) (fun v7 => (FX4_setsWith_L4 q0 y1 m f v6 v7)))))))
set_option maxRecDepth 20000 in
theorem CX4_setsWith_L4 {G : mG} {l : Launch} {e : mE} {Post : Option Value → mS → Prop} {q0 : Nat} {y1 : Int32} {m : mB} (g0 : ly4 e q0) : ∀ (f : Nat) {y2 : Int32} {y3 : Int32} {q : (Int32)}, FX4_setsWith_L4 q0 y1 m f y2 y3 = some q → (mx_Fr G l MX4_setsWith 1 0 0 Post 43 [.float 0, .float 0, .int q, .float 0] [] (e, m)) → mx_Fr G l MX4_setsWith 1 0 0 Post 4 [.ref q0, .int y1, .int y2, .int y3] [] (e, m) := by
  intro f
  induction f with
  | zero => intro _ _ _ h; cases h
  | succ f ih =>
    intro y2 y3 q h hex
    rw [FX4_setsWith_L4] at h
    refine mx_iload_n (mx_d tX4_setsWith_0 4 rfl) rfl rfl ?_
    refine mx_aload_n (mx_d tX4_setsWith_0 5 rfl) rfl rfl ?_
    refine mx_getI (mx_d tX4_setsWith_0 6 rfl) fX4_50 rfl (Or.inl rfl) (ly4_o g0) ?_
    refine mx_icmp_ge (tgt := 43) (mx_d tX4_setsWith_0 7 rfl) (by decide) (fun hc1 => ?_) (fun hc1 => ?_)
    · rw [if_pos hc1] at h
      obtain rfl := Option.some.inj h
      refine mx_forget (L' := [.float 0, .float 0, .int y2, .float 0]) ⟨rfl, trivial⟩ ?_
      exact hex
    · rw [if_neg hc1] at h
      refine mx_iload_n (mx_d tX4_setsWith_0 8 rfl) rfl rfl ?_
      refine mx_bipush (6) (mx_d tX4_setsWith_0 9 rfl) (by decide) ?_
      refine mx_icmp_ge (tgt := 43) (mx_d tX4_setsWith_0 10 rfl) (by decide) (fun hc2 => ?_) (fun hc2 => ?_)
      · rw [if_pos hc2] at h
        obtain rfl := Option.some.inj h
        refine mx_forget (L' := [.float 0, .float 0, .int y2, .float 0]) ⟨rfl, trivial⟩ ?_
        exact hex
      · rw [if_neg hc2] at h
        refine mx_aload_n (mx_d tX4_setsWith_0 11 rfl) rfl rfl ?_
        refine mx_getR (mx_d tX4_setsWith_0 12 rfl) fX4_37 rfl rfl (ly4_o g0) (ly4_r13 g0) ?_
        refine mx_iload_n (mx_d tX4_setsWith_0 13 rfl) rfl rfl ?_
        obtain ⟨hi3, h⟩ := mx_chkE h
        refine mx_iaload (mx_d tX4_setsWith_0 14 rfl) (ly4_s13 g0) (mx_inbE hi3) ?_
        refine mx_iload_n (mx_d tX4_setsWith_0 15 rfl) rfl rfl ?_
        refine mx_ishr (mx_d tX4_setsWith_0 16 rfl) ?_
        refine mx_iconst (1) (mx_d tX4_setsWith_0 17 rfl) (by decide) ?_
        refine mx_iand (mx_d tX4_setsWith_0 18 rfl) ?_
        refine mx_if_eq (tgt := 37) (mx_d tX4_setsWith_0 19 rfl) (by decide) (fun hc4 => ?_) (fun hc4 => ?_)
        · rw [if_pos hc4] at h
          obtain ⟨v5, e_v5, h⟩ := mx_letE h
          refine mx_iinc v5 (L2 := [.ref q0, .int y1, .int y2, .int v5]) (mx_d tX4_setsWith_0 26 rfl) rfl (by rw [e_v5]; rfl) (by decide) rfl ?_
          refine mx_goto (tgt := 4) (mx_d tX4_setsWith_0 27 rfl) (by decide) ?_
          exact ih h hex
        · rw [if_neg hc4] at h
          refine mx_iload_n (mx_d tX4_setsWith_0 20 rfl) rfl rfl ?_
          refine mx_iconst (1) (mx_d tX4_setsWith_0 21 rfl) (by decide) ?_
          refine mx_iload_n (mx_d tX4_setsWith_0 22 rfl) rfl rfl ?_
          refine mx_ishl (mx_d tX4_setsWith_0 23 rfl) ?_
          refine mx_ior (mx_d tX4_setsWith_0 24 rfl) ?_
          obtain ⟨v6, e_v6, h⟩ := mx_letE h
          refine mx_istore_n (L2 := [.ref q0, .int y1, .int v6, .int y3]) (mx_d tX4_setsWith_0 25 rfl) rfl (by decide) (by rw [e_v6]; rfl) ?_
          obtain ⟨v7, e_v7, h⟩ := mx_letE h
          refine mx_iinc v7 (L2 := [.ref q0, .int y1, .int v6, .int v7]) (mx_d tX4_setsWith_0 26 rfl) rfl (by rw [e_v7]; rfl) (by decide) rfl ?_
          refine mx_goto (tgt := 4) (mx_d tX4_setsWith_0 27 rfl) (by decide) ?_
          exact ih h hex
def FX4_setsWith (a : Nat) (x0 : Int32) (m : mB) : Option Int32 := Option.bind (FX4_setsWith_L4 a x0 m mx_FU 0 0) (fun q8 => (some q8))
set_option maxRecDepth 20000 in
theorem CX4_setsWith {G : mG} {l : Launch} {e : mE} {a : Nat} {x0 : Int32} {m : mB} {r : Int32} (h0 : ly4 e a) (h : FX4_setsWith a x0 m = some r) : mx_Call G l MX4_setsWith 1 0 0 [.ref a, .int x0] (e, m) (fun v z => v = some (.int r) ∧ z = (e, m)) := by
  refine mx_entry (L := [.ref a, .int x0, .float 0, .float 0]) (by decide +kernel) (Nat.le_of_ble_eq_true rfl) rfl ?_
  unfold FX4_setsWith at h
  refine mx_iconst (0) (mx_d tX4_setsWith_0 0 rfl) (by decide) ?_
  refine mx_istore_n (L2 := [.ref a, .int x0, .int 0, .float 0]) (mx_d tX4_setsWith_0 1 rfl) rfl (by decide) (by rfl) ?_
  refine mx_iconst (0) (mx_d tX4_setsWith_0 2 rfl) (by decide) ?_
  refine mx_istore_n (L2 := [.ref a, .int x0, .int 0, .int 0]) (mx_d tX4_setsWith_0 3 rfl) rfl (by decide) (by rfl) ?_
  obtain ⟨q8, h_q8, h⟩ := Option.bind_eq_some_iff.mp h
  refine CX4_setsWith_L4 h0 mx_FU h_q8 ?_
  refine mx_iload_n (mx_d tX4_setsWith_0 28 rfl) rfl rfl ?_
  obtain rfl := Option.some.inj h
  exact mx_ireturn (mx_d tX4_setsWith_0 29 rfl) rfl ⟨rfl, rfl⟩
def FX4_slackOf_L62 (q0 : Nat) (y2 : Int32) (m : mB) : Nat → Int32 → Int32 → Option (Int32)
  | 0, _, _ => none
  | f + 1, y3, y4 => (if (m.1 q0 2) ≤ y4 then (some (y3)) else (if 6 ≤ y4 then (some (y3)) else mx_chk (mx_inb y4 6) ((if ((m.1 (q0 + 9) (Int32.toNatClampNeg y4)) &&& y2) = y2 then mx_let (y3 + (m.1 (q0 + 10) (Int32.toNatClampNeg y4))) (fun v13 => mx_let (y4 + 1) (fun v14 => (FX4_slackOf_L62 q0 y2 m f v13 v14))) else mx_let (y4 + 1) (fun v12 => (FX4_slackOf_L62 q0 y2 m f y3 v12))))))
set_option maxRecDepth 20000 in
theorem CX4_slackOf_L62 {G : mG} {l : Launch} {e : mE} {Post : Option Value → mS → Prop} {q0 : Nat} {y2 : Int32} {m : mB} (g0 : ly4 e q0) : ∀ (f : Nat) {y3 : Int32} {y4 : Int32} {q : (Int32)}, FX4_slackOf_L62 q0 y2 m f y3 y4 = some q → (mx_Fr G l MX4_slackOf 3 0 0 Post 107 [.float 0, .float 0, .float 0, .int q, .float 0] [] (e, m)) → mx_Fr G l MX4_slackOf 3 0 0 Post 62 [.ref q0, .float 0, .int y2, .int y3, .int y4] [] (e, m) := by
  intro f
  induction f with
  | zero => intro _ _ _ h; cases h
  | succ f ih =>
    intro y3 y4 q h hex
    rw [FX4_slackOf_L62] at h
    refine mx_iload (mx_d tX4_slackOf_0 43 rfl) rfl ?_
    refine mx_aload_n (mx_d tX4_slackOf_0 44 rfl) rfl rfl ?_
    refine mx_getI (mx_d tX4_slackOf_0 45 rfl) fX4_50 rfl (Or.inl rfl) (ly4_o g0) ?_
    refine mx_icmp_ge (tgt := 107) (mx_d tX4_slackOf_0 46 rfl) (by decide) (fun hc8 => ?_) (fun hc8 => ?_)
    · rw [if_pos hc8] at h
      obtain rfl := Option.some.inj h
      refine mx_forget (L' := [.float 0, .float 0, .float 0, .int y3, .float 0]) ⟨rfl, trivial⟩ ?_
      exact hex
    · rw [if_neg hc8] at h
      refine mx_iload (mx_d tX4_slackOf_0 47 rfl) rfl ?_
      refine mx_bipush (6) (mx_d tX4_slackOf_0 48 rfl) (by decide) ?_
      refine mx_icmp_ge (tgt := 107) (mx_d tX4_slackOf_0 49 rfl) (by decide) (fun hc9 => ?_) (fun hc9 => ?_)
      · rw [if_pos hc9] at h
        obtain rfl := Option.some.inj h
        refine mx_forget (L' := [.float 0, .float 0, .float 0, .int y3, .float 0]) ⟨rfl, trivial⟩ ?_
        exact hex
      · rw [if_neg hc9] at h
        refine mx_aload_n (mx_d tX4_slackOf_0 50 rfl) rfl rfl ?_
        refine mx_getR (mx_d tX4_slackOf_0 51 rfl) fX4_37 rfl rfl (ly4_o g0) (ly4_r13 g0) ?_
        refine mx_iload (mx_d tX4_slackOf_0 52 rfl) rfl ?_
        obtain ⟨hi10, h⟩ := mx_chkE h
        refine mx_iaload (mx_d tX4_slackOf_0 53 rfl) (ly4_s13 g0) (mx_inbE hi10) ?_
        refine mx_iload_n (mx_d tX4_slackOf_0 54 rfl) rfl rfl ?_
        refine mx_iand (mx_d tX4_slackOf_0 55 rfl) ?_
        refine mx_iload_n (mx_d tX4_slackOf_0 56 rfl) rfl rfl ?_
        refine mx_icmp_ne (tgt := 101) (mx_d tX4_slackOf_0 57 rfl) (by decide) (fun hc11 => ?_) (fun hc11 => ?_)
        · rw [if_neg hc11] at h
          obtain ⟨v12, e_v12, h⟩ := mx_letE h
          refine mx_iinc v12 (L2 := [.ref q0, .float 0, .int y2, .int y3, .int v12]) (mx_d tX4_slackOf_1 5 rfl) rfl (by rw [e_v12]; rfl) (by decide) rfl ?_
          refine mx_goto (tgt := 62) (mx_d tX4_slackOf_1 6 rfl) (by decide) ?_
          exact ih h hex
        · rw [if_pos hc11] at h
          refine mx_iload_n (mx_d tX4_slackOf_0 58 rfl) rfl rfl ?_
          refine mx_aload_n (mx_d tX4_slackOf_0 59 rfl) rfl rfl ?_
          refine mx_getR (mx_d tX4_slackOf_1 0 rfl) fX4_40 rfl rfl (ly4_o g0) (ly4_r14 g0) ?_
          refine mx_iload (mx_d tX4_slackOf_1 1 rfl) rfl ?_
          refine mx_iaload (mx_d tX4_slackOf_1 2 rfl) (ly4_s14 g0) (mx_inbE hi10) ?_
          refine mx_iadd (mx_d tX4_slackOf_1 3 rfl) ?_
          obtain ⟨v13, e_v13, h⟩ := mx_letE h
          refine mx_istore_n (L2 := [.ref q0, .float 0, .int y2, .int v13, .int y4]) (mx_d tX4_slackOf_1 4 rfl) rfl (by decide) (by rw [e_v13]; rfl) ?_
          obtain ⟨v14, e_v14, h⟩ := mx_letE h
          refine mx_iinc v14 (L2 := [.ref q0, .float 0, .int y2, .int v13, .int v14]) (mx_d tX4_slackOf_1 5 rfl) rfl (by rw [e_v14]; rfl) (by decide) rfl ?_
          refine mx_goto (tgt := 62) (mx_d tX4_slackOf_1 6 rfl) (by decide) ?_
          exact ih h hex
def FX4_slackOf (a : Nat) (x0 : Int32) (m : mB) : Option Int32 := Option.bind (FX4_hasLink a x0 m) (fun r1 => (if r1 = 0 then (some 0) else mx_chk (mx_inb x0 30) (mx_let (((1 : Int32) <<< ((m.1 (a + 5) (Int32.toNatClampNeg x0)) &&& 31)) ||| ((1 : Int32) <<< ((m.1 (a + 6) (Int32.toNatClampNeg x0)) &&& 31))) (fun v4 => Option.bind (FX4_priceOf a (m.1 (a + 5) (Int32.toNatClampNeg x0)) m) (fun r5 => Option.bind (FX4_priceOf a (m.1 (a + 6) (Int32.toNatClampNeg x0)) m) (fun r6 => mx_let ((r5 + r6) - (2 * (m.1 (a + 7) (Int32.toNatClampNeg x0)))) (fun v7 => Option.bind (FX4_slackOf_L62 a v4 m mx_FU v7 0) (fun q15 => (some q15)))))))))
set_option maxRecDepth 20000 in
theorem CX4_slackOf {G : mG} {l : Launch} {e : mE} {a : Nat} {x0 : Int32} {m : mB} {r : Int32} (h0 : ly4 e a) (h : FX4_slackOf a x0 m = some r) : mx_Call G l MX4_slackOf 3 0 0 [.ref a, .int x0] (e, m) (fun v z => v = some (.int r) ∧ z = (e, m)) := by
  refine mx_entry (L := [.ref a, .int x0, .float 0, .float 0, .float 0]) (by decide +kernel) (Nat.le_of_ble_eq_true rfl) rfl ?_
  unfold FX4_slackOf at h
  refine mx_aload_n (mx_d tX4_slackOf_0 0 rfl) rfl rfl ?_
  refine mx_iload_n (mx_d tX4_slackOf_0 1 rfl) rfl rfl ?_
  obtain ⟨r1, h_r1, h⟩ := Option.bind_eq_some_iff.mp h
  refine mx_cVi (mx_d tX4_slackOf_0 2 rfl) iX4_73 rfl vX4_hasLink ⟨_, rfl, rfl⟩ (ly4_o h0) (CX4_hasLink h0 h_r1) (by decide) rfl rfl (Nat.le_of_ble_eq_true rfl) ?_
  refine mx_if_ne (tgt := 10) (mx_d tX4_slackOf_0 3 rfl) (by decide) (fun hc2 => ?_) (fun hc2 => ?_)
  · rw [if_neg hc2] at h
    refine mx_iconst (1) (mx_d tX4_slackOf_0 6 rfl) (by decide) ?_
    refine mx_aload_n (mx_d tX4_slackOf_0 7 rfl) rfl rfl ?_
    refine mx_getR (mx_d tX4_slackOf_0 8 rfl) fX4_25 rfl rfl (ly4_o h0) (ly4_r9 h0) ?_
    refine mx_iload_n (mx_d tX4_slackOf_0 9 rfl) rfl rfl ?_
    obtain ⟨hi3, h⟩ := mx_chkE h
    refine mx_iaload (mx_d tX4_slackOf_0 10 rfl) (ly4_s9 h0) (mx_inbE hi3) ?_
    refine mx_ishl (mx_d tX4_slackOf_0 11 rfl) ?_
    refine mx_iconst (1) (mx_d tX4_slackOf_0 12 rfl) (by decide) ?_
    refine mx_aload_n (mx_d tX4_slackOf_0 13 rfl) rfl rfl ?_
    refine mx_getR (mx_d tX4_slackOf_0 14 rfl) fX4_28 rfl rfl (ly4_o h0) (ly4_r10 h0) ?_
    refine mx_iload_n (mx_d tX4_slackOf_0 15 rfl) rfl rfl ?_
    refine mx_iaload (mx_d tX4_slackOf_0 16 rfl) (ly4_s10 h0) (mx_inbE hi3) ?_
    refine mx_ishl (mx_d tX4_slackOf_0 17 rfl) ?_
    refine mx_ior (mx_d tX4_slackOf_0 18 rfl) ?_
    obtain ⟨v4, e_v4, h⟩ := mx_letE h
    refine mx_istore_n (L2 := [.ref a, .int x0, .int v4, .float 0, .float 0]) (mx_d tX4_slackOf_0 19 rfl) rfl (by decide) (by rw [e_v4]; rfl) ?_
    refine mx_aload_n (mx_d tX4_slackOf_0 20 rfl) rfl rfl ?_
    refine mx_aload_n (mx_d tX4_slackOf_0 21 rfl) rfl rfl ?_
    refine mx_getR (mx_d tX4_slackOf_0 22 rfl) fX4_25 rfl rfl (ly4_o h0) (ly4_r9 h0) ?_
    refine mx_iload_n (mx_d tX4_slackOf_0 23 rfl) rfl rfl ?_
    refine mx_iaload (mx_d tX4_slackOf_0 24 rfl) (ly4_s9 h0) (mx_inbE hi3) ?_
    obtain ⟨r5, h_r5, h⟩ := Option.bind_eq_some_iff.mp h
    refine mx_cVi (mx_d tX4_slackOf_0 25 rfl) iX4_90 rfl vX4_priceOf ⟨_, rfl, rfl⟩ (ly4_o h0) (CX4_priceOf h0 h_r5) (by decide) rfl rfl (Nat.le_of_ble_eq_true rfl) ?_
    refine mx_aload_n (mx_d tX4_slackOf_0 26 rfl) rfl rfl ?_
    refine mx_aload_n (mx_d tX4_slackOf_0 27 rfl) rfl rfl ?_
    refine mx_getR (mx_d tX4_slackOf_0 28 rfl) fX4_28 rfl rfl (ly4_o h0) (ly4_r10 h0) ?_
    refine mx_iload_n (mx_d tX4_slackOf_0 29 rfl) rfl rfl ?_
    refine mx_iaload (mx_d tX4_slackOf_0 30 rfl) (ly4_s10 h0) (mx_inbE hi3) ?_
    obtain ⟨r6, h_r6, h⟩ := Option.bind_eq_some_iff.mp h
    refine mx_cVi (mx_d tX4_slackOf_0 31 rfl) iX4_90 rfl vX4_priceOf ⟨_, rfl, rfl⟩ (ly4_o h0) (CX4_priceOf h0 h_r6) (by decide) rfl rfl (Nat.le_of_ble_eq_true rfl) ?_
    refine mx_iadd (mx_d tX4_slackOf_0 32 rfl) ?_
    refine mx_iconst (2) (mx_d tX4_slackOf_0 33 rfl) (by decide) ?_
    refine mx_aload_n (mx_d tX4_slackOf_0 34 rfl) rfl rfl ?_
    refine mx_getR (mx_d tX4_slackOf_0 35 rfl) fX4_31 rfl rfl (ly4_o h0) (ly4_r11 h0) ?_
    refine mx_iload_n (mx_d tX4_slackOf_0 36 rfl) rfl rfl ?_
    refine mx_iaload (mx_d tX4_slackOf_0 37 rfl) (ly4_s11 h0) (mx_inbE hi3) ?_
    refine mx_imul (mx_d tX4_slackOf_0 38 rfl) ?_
    refine mx_isub (mx_d tX4_slackOf_0 39 rfl) ?_
    obtain ⟨v7, e_v7, h⟩ := mx_letE h
    refine mx_istore_n (L2 := [.ref a, .int x0, .int v4, .int v7, .float 0]) (mx_d tX4_slackOf_0 40 rfl) rfl (by decide) (by rw [e_v7]; rfl) ?_
    refine mx_iconst (0) (mx_d tX4_slackOf_0 41 rfl) (by decide) ?_
    refine mx_istore (L2 := [.ref a, .int x0, .int v4, .int v7, .int 0]) (mx_d tX4_slackOf_0 42 rfl) (by decide) (by rfl) ?_
    obtain ⟨q15, h_q15, h⟩ := Option.bind_eq_some_iff.mp h
    refine mx_forget (L' := [.ref a, .float 0, .int v4, .int v7, .int 0]) ⟨rfl, rfl, rfl, rfl, trivial⟩ ?_
    refine CX4_slackOf_L62 h0 mx_FU h_q15 ?_
    refine mx_iload_n (mx_d tX4_slackOf_1 7 rfl) rfl rfl ?_
    obtain rfl := Option.some.inj h
    exact mx_ireturn (mx_d tX4_slackOf_1 8 rfl) rfl ⟨rfl, rfl⟩
  · rw [if_pos hc2] at h
    refine mx_iconst (0) (mx_d tX4_slackOf_0 4 rfl) (by decide) ?_
    obtain rfl := Option.some.inj h
    exact mx_ireturn (mx_d tX4_slackOf_0 5 rfl) rfl ⟨rfl, rfl⟩
def FX4_tightLinks_L4 (q0 : Nat) (m : mB) : Nat → Int32 → Int32 → Option (Int32)
  | 0, _, _ => none
  | f + 1, y1, y2 => (if (m.1 q0 1) ≤ y2 then (some (y1)) else Option.bind (FX4_slackOf q0 y2 m) (fun r2 => (if r2 = 0 then mx_let (y1 ||| ((1 : Int32) <<< (y2 &&& 31))) (fun v5 => mx_let (y2 + 1) (fun v6 => (FX4_tightLinks_L4 q0 m f v5 v6))) else mx_let (y2 + 1) (fun v4 => (FX4_tightLinks_L4 q0 m f y1 v4)))))
set_option maxRecDepth 20000 in
theorem CX4_tightLinks_L4 {G : mG} {l : Launch} {e : mE} {Post : Option Value → mS → Prop} {q0 : Nat} {m : mB} (g0 : ly4 e q0) : ∀ (f : Nat) {y1 : Int32} {y2 : Int32} {q : (Int32)}, FX4_tightLinks_L4 q0 m f y1 y2 = some q → (mx_Fr G l MX4_tightLinks 4 0 0 Post 32 [.float 0, .int q, .float 0] [] (e, m)) → mx_Fr G l MX4_tightLinks 4 0 0 Post 4 [.ref q0, .int y1, .int y2] [] (e, m) := by
  intro f
  induction f with
  | zero => intro _ _ _ h; cases h
  | succ f ih =>
    intro y1 y2 q h hex
    rw [FX4_tightLinks_L4] at h
    refine mx_iload_n (mx_d tX4_tightLinks_0 4 rfl) rfl rfl ?_
    refine mx_aload_n (mx_d tX4_tightLinks_0 5 rfl) rfl rfl ?_
    refine mx_getI (mx_d tX4_tightLinks_0 6 rfl) fX4_47 rfl (Or.inl rfl) (ly4_o g0) ?_
    refine mx_icmp_ge (tgt := 32) (mx_d tX4_tightLinks_0 7 rfl) (by decide) (fun hc1 => ?_) (fun hc1 => ?_)
    · rw [if_pos hc1] at h
      obtain rfl := Option.some.inj h
      refine mx_forget (L' := [.float 0, .int y1, .float 0]) ⟨rfl, trivial⟩ ?_
      exact hex
    · rw [if_neg hc1] at h
      refine mx_aload_n (mx_d tX4_tightLinks_0 8 rfl) rfl rfl ?_
      refine mx_iload_n (mx_d tX4_tightLinks_0 9 rfl) rfl rfl ?_
      obtain ⟨r2, h_r2, h⟩ := Option.bind_eq_some_iff.mp h
      refine mx_cVi (mx_d tX4_tightLinks_0 10 rfl) iX4_93 rfl vX4_slackOf ⟨_, rfl, rfl⟩ (ly4_o g0) (CX4_slackOf g0 h_r2) (by decide) rfl rfl (Nat.le_of_ble_eq_true rfl) ?_
      refine mx_if_ne (tgt := 26) (mx_d tX4_tightLinks_0 11 rfl) (by decide) (fun hc3 => ?_) (fun hc3 => ?_)
      · rw [if_neg hc3] at h
        obtain ⟨v4, e_v4, h⟩ := mx_letE h
        refine mx_iinc v4 (L2 := [.ref q0, .int y1, .int v4]) (mx_d tX4_tightLinks_0 18 rfl) rfl (by rw [e_v4]; rfl) (by decide) rfl ?_
        refine mx_goto (tgt := 4) (mx_d tX4_tightLinks_0 19 rfl) (by decide) ?_
        exact ih h hex
      · rw [if_pos hc3] at h
        refine mx_iload_n (mx_d tX4_tightLinks_0 12 rfl) rfl rfl ?_
        refine mx_iconst (1) (mx_d tX4_tightLinks_0 13 rfl) (by decide) ?_
        refine mx_iload_n (mx_d tX4_tightLinks_0 14 rfl) rfl rfl ?_
        refine mx_ishl (mx_d tX4_tightLinks_0 15 rfl) ?_
        refine mx_ior (mx_d tX4_tightLinks_0 16 rfl) ?_
        obtain ⟨v5, e_v5, h⟩ := mx_letE h
        refine mx_istore_n (L2 := [.ref q0, .int v5, .int y2]) (mx_d tX4_tightLinks_0 17 rfl) rfl (by decide) (by rw [e_v5]; rfl) ?_
        obtain ⟨v6, e_v6, h⟩ := mx_letE h
        refine mx_iinc v6 (L2 := [.ref q0, .int v5, .int v6]) (mx_d tX4_tightLinks_0 18 rfl) rfl (by rw [e_v6]; rfl) (by decide) rfl ?_
        refine mx_goto (tgt := 4) (mx_d tX4_tightLinks_0 19 rfl) (by decide) ?_
        exact ih h hex
def FX4_tightLinks (a : Nat) (m : mB) : Option Int32 := Option.bind (FX4_tightLinks_L4 a m mx_FU 0 0) (fun q7 => (some q7))
set_option maxRecDepth 20000 in
theorem CX4_tightLinks {G : mG} {l : Launch} {e : mE} {a : Nat} {m : mB} {r : Int32} (h0 : ly4 e a) (h : FX4_tightLinks a m = some r) : mx_Call G l MX4_tightLinks 4 0 0 [.ref a] (e, m) (fun v z => v = some (.int r) ∧ z = (e, m)) := by
  refine mx_entry (L := [.ref a, .float 0, .float 0]) (by decide +kernel) (Nat.le_of_ble_eq_true rfl) rfl ?_
  unfold FX4_tightLinks at h
  refine mx_iconst (0) (mx_d tX4_tightLinks_0 0 rfl) (by decide) ?_
  refine mx_istore_n (L2 := [.ref a, .int 0, .float 0]) (mx_d tX4_tightLinks_0 1 rfl) rfl (by decide) (by rfl) ?_
  refine mx_iconst (0) (mx_d tX4_tightLinks_0 2 rfl) (by decide) ?_
  refine mx_istore_n (L2 := [.ref a, .int 0, .int 0]) (mx_d tX4_tightLinks_0 3 rfl) rfl (by decide) (by rfl) ?_
  obtain ⟨q7, h_q7, h⟩ := Option.bind_eq_some_iff.mp h
  refine CX4_tightLinks_L4 h0 mx_FU h_q7 ?_
  refine mx_iload_n (mx_d tX4_tightLinks_0 20 rfl) rfl rfl ?_
  obtain rfl := Option.some.inj h
  exact mx_ireturn (mx_d tX4_tightLinks_0 21 rfl) rfl ⟨rfl, rfl⟩
def FX4_otherEnd (a : Nat) (x0 : Int32) (x1 : Int32) (m : mB) : Option Int32 := Option.bind (FX4_fromOf a x0 m) (fun r1 => (if r1 = x1 then Option.bind (FX4_toOf a x0 m) (fun r6 => (some ((1 : Int32) <<< (r6 &&& 31)))) else Option.bind (FX4_toOf a x0 m) (fun r3 => (if r3 = x1 then Option.bind (FX4_fromOf a x0 m) (fun r5 => (some ((1 : Int32) <<< (r5 &&& 31)))) else (some 0)))))
set_option maxRecDepth 20000 in
theorem CX4_otherEnd {G : mG} {l : Launch} {e : mE} {a : Nat} {x0 : Int32} {x1 : Int32} {m : mB} {r : Int32} (h0 : ly4 e a) (h : FX4_otherEnd a x0 x1 m = some r) : mx_Call G l MX4_otherEnd 3 0 0 [.ref a, .int x0, .int x1] (e, m) (fun v z => v = some (.int r) ∧ z = (e, m)) := by
  refine mx_entry (L := [.ref a, .int x0, .int x1]) (by decide +kernel) (Nat.le_of_ble_eq_true rfl) rfl ?_
  unfold FX4_otherEnd at h
  refine mx_aload_n (mx_d tX4_otherEnd_0 0 rfl) rfl rfl ?_
  refine mx_iload_n (mx_d tX4_otherEnd_0 1 rfl) rfl rfl ?_
  obtain ⟨r1, h_r1, h⟩ := Option.bind_eq_some_iff.mp h
  refine mx_cVi (mx_d tX4_otherEnd_0 2 rfl) iX4_99 rfl vX4_fromOf ⟨_, rfl, rfl⟩ (ly4_o h0) (CX4_fromOf h0 h_r1) (by decide) rfl rfl (Nat.le_of_ble_eq_true rfl) ?_
  refine mx_iload_n (mx_d tX4_otherEnd_0 3 rfl) rfl rfl ?_
  refine mx_icmp_ne (tgt := 17) (mx_d tX4_otherEnd_0 4 rfl) (by decide) (fun hc2 => ?_) (fun hc2 => ?_)
  · rw [if_neg hc2] at h
    refine mx_aload_n (mx_d tX4_otherEnd_0 11 rfl) rfl rfl ?_
    refine mx_iload_n (mx_d tX4_otherEnd_0 12 rfl) rfl rfl ?_
    obtain ⟨r3, h_r3, h⟩ := Option.bind_eq_some_iff.mp h
    refine mx_cVi (mx_d tX4_otherEnd_0 13 rfl) iX4_102 rfl vX4_toOf ⟨_, rfl, rfl⟩ (ly4_o h0) (CX4_toOf h0 h_r3) (by decide) rfl rfl (Nat.le_of_ble_eq_true rfl) ?_
    refine mx_iload_n (mx_d tX4_otherEnd_0 14 rfl) rfl rfl ?_
    refine mx_icmp_ne (tgt := 36) (mx_d tX4_otherEnd_0 15 rfl) (by decide) (fun hc4 => ?_) (fun hc4 => ?_)
    · rw [if_neg hc4] at h
      refine mx_iconst (0) (mx_d tX4_otherEnd_0 22 rfl) (by decide) ?_
      obtain rfl := Option.some.inj h
      exact mx_ireturn (mx_d tX4_otherEnd_0 23 rfl) rfl ⟨rfl, rfl⟩
    · rw [if_pos hc4] at h
      refine mx_iconst (1) (mx_d tX4_otherEnd_0 16 rfl) (by decide) ?_
      refine mx_aload_n (mx_d tX4_otherEnd_0 17 rfl) rfl rfl ?_
      refine mx_iload_n (mx_d tX4_otherEnd_0 18 rfl) rfl rfl ?_
      obtain ⟨r5, h_r5, h⟩ := Option.bind_eq_some_iff.mp h
      refine mx_cVi (mx_d tX4_otherEnd_0 19 rfl) iX4_99 rfl vX4_fromOf ⟨_, rfl, rfl⟩ (ly4_o h0) (CX4_fromOf h0 h_r5) (by decide) rfl rfl (Nat.le_of_ble_eq_true rfl) ?_
      refine mx_ishl (mx_d tX4_otherEnd_0 20 rfl) ?_
      refine mx_goto (tgt := 37) (mx_d tX4_otherEnd_0 21 rfl) (by decide) ?_
      obtain rfl := Option.some.inj h
      exact mx_ireturn (mx_d tX4_otherEnd_0 23 rfl) rfl ⟨rfl, rfl⟩
  · rw [if_pos hc2] at h
    refine mx_iconst (1) (mx_d tX4_otherEnd_0 5 rfl) (by decide) ?_
    refine mx_aload_n (mx_d tX4_otherEnd_0 6 rfl) rfl rfl ?_
    refine mx_iload_n (mx_d tX4_otherEnd_0 7 rfl) rfl rfl ?_
    obtain ⟨r6, h_r6, h⟩ := Option.bind_eq_some_iff.mp h
    refine mx_cVi (mx_d tX4_otherEnd_0 8 rfl) iX4_102 rfl vX4_toOf ⟨_, rfl, rfl⟩ (ly4_o h0) (CX4_toOf h0 h_r6) (by decide) rfl rfl (Nat.le_of_ble_eq_true rfl) ?_
    refine mx_ishl (mx_d tX4_otherEnd_0 9 rfl) ?_
    obtain rfl := Option.some.inj h
    exact mx_ireturn (mx_d tX4_otherEnd_0 10 rfl) rfl ⟨rfl, rfl⟩
def FX4_tightTo_L4 (q0 : Nat) (y1 : Int32) (m : mB) : Nat → Int32 → Int32 → Option (Int32)
  | 0, _, _ => none
  | f + 1, y2, y3 => (if (m.1 q0 1) ≤ y3 then (some (y2)) else Option.bind (FX4_slackOf q0 y3 m) (fun r2 => (if r2 = 0 then Option.bind (FX4_otherEnd q0 y3 y1 m) (fun r5 => mx_let (y2 ||| r5) (fun v6 => mx_let (y3 + 1) (fun v7 => (FX4_tightTo_L4 q0 y1 m f v6 v7)))) else mx_let (y3 + 1) (fun v4 => (FX4_tightTo_L4 q0 y1 m f y2 v4)))))
set_option maxRecDepth 20000 in
theorem CX4_tightTo_L4 {G : mG} {l : Launch} {e : mE} {Post : Option Value → mS → Prop} {q0 : Nat} {y1 : Int32} {m : mB} (g0 : ly4 e q0) : ∀ (f : Nat) {y2 : Int32} {y3 : Int32} {q : (Int32)}, FX4_tightTo_L4 q0 y1 m f y2 y3 = some q → (mx_Fr G l MX4_tightTo 4 0 0 Post 35 [.float 0, .float 0, .int q, .float 0] [] (e, m)) → mx_Fr G l MX4_tightTo 4 0 0 Post 4 [.ref q0, .int y1, .int y2, .int y3] [] (e, m) := by
  intro f
  induction f with
  | zero => intro _ _ _ h; cases h
  | succ f ih =>
    intro y2 y3 q h hex
    rw [FX4_tightTo_L4] at h
    refine mx_iload_n (mx_d tX4_tightTo_0 4 rfl) rfl rfl ?_
    refine mx_aload_n (mx_d tX4_tightTo_0 5 rfl) rfl rfl ?_
    refine mx_getI (mx_d tX4_tightTo_0 6 rfl) fX4_47 rfl (Or.inl rfl) (ly4_o g0) ?_
    refine mx_icmp_ge (tgt := 35) (mx_d tX4_tightTo_0 7 rfl) (by decide) (fun hc1 => ?_) (fun hc1 => ?_)
    · rw [if_pos hc1] at h
      obtain rfl := Option.some.inj h
      refine mx_forget (L' := [.float 0, .float 0, .int y2, .float 0]) ⟨rfl, trivial⟩ ?_
      exact hex
    · rw [if_neg hc1] at h
      refine mx_aload_n (mx_d tX4_tightTo_0 8 rfl) rfl rfl ?_
      refine mx_iload_n (mx_d tX4_tightTo_0 9 rfl) rfl rfl ?_
      obtain ⟨r2, h_r2, h⟩ := Option.bind_eq_some_iff.mp h
      refine mx_cVi (mx_d tX4_tightTo_0 10 rfl) iX4_93 rfl vX4_slackOf ⟨_, rfl, rfl⟩ (ly4_o g0) (CX4_slackOf g0 h_r2) (by decide) rfl rfl (Nat.le_of_ble_eq_true rfl) ?_
      refine mx_if_ne (tgt := 29) (mx_d tX4_tightTo_0 11 rfl) (by decide) (fun hc3 => ?_) (fun hc3 => ?_)
      · rw [if_neg hc3] at h
        obtain ⟨v4, e_v4, h⟩ := mx_letE h
        refine mx_iinc v4 (L2 := [.ref q0, .int y1, .int y2, .int v4]) (mx_d tX4_tightTo_0 19 rfl) rfl (by rw [e_v4]; rfl) (by decide) rfl ?_
        refine mx_goto (tgt := 4) (mx_d tX4_tightTo_0 20 rfl) (by decide) ?_
        exact ih h hex
      · rw [if_pos hc3] at h
        refine mx_iload_n (mx_d tX4_tightTo_0 12 rfl) rfl rfl ?_
        refine mx_aload_n (mx_d tX4_tightTo_0 13 rfl) rfl rfl ?_
        refine mx_iload_n (mx_d tX4_tightTo_0 14 rfl) rfl rfl ?_
        refine mx_iload_n (mx_d tX4_tightTo_0 15 rfl) rfl rfl ?_
        obtain ⟨r5, h_r5, h⟩ := Option.bind_eq_some_iff.mp h
        refine mx_cVi (mx_d tX4_tightTo_0 16 rfl) iX4_96 rfl vX4_otherEnd ⟨_, rfl, rfl⟩ (ly4_o g0) (CX4_otherEnd g0 h_r5) (by decide) rfl rfl (Nat.le_of_ble_eq_true rfl) ?_
        refine mx_ior (mx_d tX4_tightTo_0 17 rfl) ?_
        obtain ⟨v6, e_v6, h⟩ := mx_letE h
        refine mx_istore_n (L2 := [.ref q0, .int y1, .int v6, .int y3]) (mx_d tX4_tightTo_0 18 rfl) rfl (by decide) (by rw [e_v6]; rfl) ?_
        obtain ⟨v7, e_v7, h⟩ := mx_letE h
        refine mx_iinc v7 (L2 := [.ref q0, .int y1, .int v6, .int v7]) (mx_d tX4_tightTo_0 19 rfl) rfl (by rw [e_v7]; rfl) (by decide) rfl ?_
        refine mx_goto (tgt := 4) (mx_d tX4_tightTo_0 20 rfl) (by decide) ?_
        exact ih h hex
def FX4_tightTo (a : Nat) (x0 : Int32) (m : mB) : Option Int32 := Option.bind (FX4_tightTo_L4 a x0 m mx_FU 0 0) (fun q8 => (some q8))
set_option maxRecDepth 20000 in
theorem CX4_tightTo {G : mG} {l : Launch} {e : mE} {a : Nat} {x0 : Int32} {m : mB} {r : Int32} (h0 : ly4 e a) (h : FX4_tightTo a x0 m = some r) : mx_Call G l MX4_tightTo 4 0 0 [.ref a, .int x0] (e, m) (fun v z => v = some (.int r) ∧ z = (e, m)) := by
  refine mx_entry (L := [.ref a, .int x0, .float 0, .float 0]) (by decide +kernel) (Nat.le_of_ble_eq_true rfl) rfl ?_
  unfold FX4_tightTo at h
  refine mx_iconst (0) (mx_d tX4_tightTo_0 0 rfl) (by decide) ?_
  refine mx_istore_n (L2 := [.ref a, .int x0, .int 0, .float 0]) (mx_d tX4_tightTo_0 1 rfl) rfl (by decide) (by rfl) ?_
  refine mx_iconst (0) (mx_d tX4_tightTo_0 2 rfl) (by decide) ?_
  refine mx_istore_n (L2 := [.ref a, .int x0, .int 0, .int 0]) (mx_d tX4_tightTo_0 3 rfl) rfl (by decide) (by rfl) ?_
  obtain ⟨q8, h_q8, h⟩ := Option.bind_eq_some_iff.mp h
  refine CX4_tightTo_L4 h0 mx_FU h_q8 ?_
  refine mx_iload_n (mx_d tX4_tightTo_0 21 rfl) rfl rfl ?_
  obtain rfl := Option.some.inj h
  exact mx_ireturn (mx_d tX4_tightTo_0 22 rfl) rfl ⟨rfl, rfl⟩
def FX4_tightPoints_L4 (q0 : Nat) (m : mB) : Nat → Int32 → Int32 → Option (Int32)
  | 0, _, _ => none
  | f + 1, y1, y2 => (if (m.1 q0 1) ≤ y2 then (some (y1)) else Option.bind (FX4_slackOf q0 y2 m) (fun r2 => (if r2 = 0 then Option.bind (FX4_fromOf q0 y2 m) (fun r5 => Option.bind (FX4_toOf q0 y2 m) (fun r6 => mx_let (y1 ||| (((1 : Int32) <<< (r5 &&& 31)) ||| ((1 : Int32) <<< (r6 &&& 31)))) (fun v7 => mx_let (y2 + 1) (fun v8 => (FX4_tightPoints_L4 q0 m f v7 v8))))) else mx_let (y2 + 1) (fun v4 => (FX4_tightPoints_L4 q0 m f y1 v4)))))
set_option maxRecDepth 20000 in
theorem CX4_tightPoints_L4 {G : mG} {l : Launch} {e : mE} {Post : Option Value → mS → Prop} {q0 : Nat} {m : mB} (g0 : ly4 e q0) : ∀ (f : Nat) {y1 : Int32} {y2 : Int32} {q : (Int32)}, FX4_tightPoints_L4 q0 m f y1 y2 = some q → (mx_Fr G l MX4_tightPoints 4 0 0 Post 44 [.float 0, .int q, .float 0] [] (e, m)) → mx_Fr G l MX4_tightPoints 4 0 0 Post 4 [.ref q0, .int y1, .int y2] [] (e, m) := by
  intro f
  induction f with
  | zero => intro _ _ _ h; cases h
  | succ f ih =>
    intro y1 y2 q h hex
    rw [FX4_tightPoints_L4] at h
    refine mx_iload_n (mx_d tX4_tightPoints_0 4 rfl) rfl rfl ?_
    refine mx_aload_n (mx_d tX4_tightPoints_0 5 rfl) rfl rfl ?_
    refine mx_getI (mx_d tX4_tightPoints_0 6 rfl) fX4_47 rfl (Or.inl rfl) (ly4_o g0) ?_
    refine mx_icmp_ge (tgt := 44) (mx_d tX4_tightPoints_0 7 rfl) (by decide) (fun hc1 => ?_) (fun hc1 => ?_)
    · rw [if_pos hc1] at h
      obtain rfl := Option.some.inj h
      refine mx_forget (L' := [.float 0, .int y1, .float 0]) ⟨rfl, trivial⟩ ?_
      exact hex
    · rw [if_neg hc1] at h
      refine mx_aload_n (mx_d tX4_tightPoints_0 8 rfl) rfl rfl ?_
      refine mx_iload_n (mx_d tX4_tightPoints_0 9 rfl) rfl rfl ?_
      obtain ⟨r2, h_r2, h⟩ := Option.bind_eq_some_iff.mp h
      refine mx_cVi (mx_d tX4_tightPoints_0 10 rfl) iX4_93 rfl vX4_slackOf ⟨_, rfl, rfl⟩ (ly4_o g0) (CX4_slackOf g0 h_r2) (by decide) rfl rfl (Nat.le_of_ble_eq_true rfl) ?_
      refine mx_if_ne (tgt := 38) (mx_d tX4_tightPoints_0 11 rfl) (by decide) (fun hc3 => ?_) (fun hc3 => ?_)
      · rw [if_neg hc3] at h
        obtain ⟨v4, e_v4, h⟩ := mx_letE h
        refine mx_iinc v4 (L2 := [.ref q0, .int y1, .int v4]) (mx_d tX4_tightPoints_0 26 rfl) rfl (by rw [e_v4]; rfl) (by decide) rfl ?_
        refine mx_goto (tgt := 4) (mx_d tX4_tightPoints_0 27 rfl) (by decide) ?_
        exact ih h hex
      · rw [if_pos hc3] at h
        refine mx_iload_n (mx_d tX4_tightPoints_0 12 rfl) rfl rfl ?_
        refine mx_iconst (1) (mx_d tX4_tightPoints_0 13 rfl) (by decide) ?_
        refine mx_aload_n (mx_d tX4_tightPoints_0 14 rfl) rfl rfl ?_
        refine mx_iload_n (mx_d tX4_tightPoints_0 15 rfl) rfl rfl ?_
        obtain ⟨r5, h_r5, h⟩ := Option.bind_eq_some_iff.mp h
        refine mx_cVi (mx_d tX4_tightPoints_0 16 rfl) iX4_99 rfl vX4_fromOf ⟨_, rfl, rfl⟩ (ly4_o g0) (CX4_fromOf g0 h_r5) (by decide) rfl rfl (Nat.le_of_ble_eq_true rfl) ?_
        refine mx_ishl (mx_d tX4_tightPoints_0 17 rfl) ?_
        refine mx_iconst (1) (mx_d tX4_tightPoints_0 18 rfl) (by decide) ?_
        refine mx_aload_n (mx_d tX4_tightPoints_0 19 rfl) rfl rfl ?_
        refine mx_iload_n (mx_d tX4_tightPoints_0 20 rfl) rfl rfl ?_
        obtain ⟨r6, h_r6, h⟩ := Option.bind_eq_some_iff.mp h
        refine mx_cVi (mx_d tX4_tightPoints_0 21 rfl) iX4_102 rfl vX4_toOf ⟨_, rfl, rfl⟩ (ly4_o g0) (CX4_toOf g0 h_r6) (by decide) rfl rfl (Nat.le_of_ble_eq_true rfl) ?_
        refine mx_ishl (mx_d tX4_tightPoints_0 22 rfl) ?_
        refine mx_ior (mx_d tX4_tightPoints_0 23 rfl) ?_
        refine mx_ior (mx_d tX4_tightPoints_0 24 rfl) ?_
        obtain ⟨v7, e_v7, h⟩ := mx_letE h
        refine mx_istore_n (L2 := [.ref q0, .int v7, .int y2]) (mx_d tX4_tightPoints_0 25 rfl) rfl (by decide) (by rw [e_v7]; rfl) ?_
        obtain ⟨v8, e_v8, h⟩ := mx_letE h
        refine mx_iinc v8 (L2 := [.ref q0, .int v7, .int v8]) (mx_d tX4_tightPoints_0 26 rfl) rfl (by rw [e_v8]; rfl) (by decide) rfl ?_
        refine mx_goto (tgt := 4) (mx_d tX4_tightPoints_0 27 rfl) (by decide) ?_
        exact ih h hex
def FX4_tightPoints (a : Nat) (m : mB) : Option Int32 := Option.bind (FX4_tightPoints_L4 a m mx_FU 0 0) (fun q9 => (some q9))
set_option maxRecDepth 20000 in
theorem CX4_tightPoints {G : mG} {l : Launch} {e : mE} {a : Nat} {m : mB} {r : Int32} (h0 : ly4 e a) (h : FX4_tightPoints a m = some r) : mx_Call G l MX4_tightPoints 4 0 0 [.ref a] (e, m) (fun v z => v = some (.int r) ∧ z = (e, m)) := by
  refine mx_entry (L := [.ref a, .float 0, .float 0]) (by decide +kernel) (Nat.le_of_ble_eq_true rfl) rfl ?_
  unfold FX4_tightPoints at h
  refine mx_iconst (0) (mx_d tX4_tightPoints_0 0 rfl) (by decide) ?_
  refine mx_istore_n (L2 := [.ref a, .int 0, .float 0]) (mx_d tX4_tightPoints_0 1 rfl) rfl (by decide) (by rfl) ?_
  refine mx_iconst (0) (mx_d tX4_tightPoints_0 2 rfl) (by decide) ?_
  refine mx_istore_n (L2 := [.ref a, .int 0, .int 0]) (mx_d tX4_tightPoints_0 3 rfl) rfl (by decide) (by rfl) ?_
  obtain ⟨q9, h_q9, h⟩ := Option.bind_eq_some_iff.mp h
  refine CX4_tightPoints_L4 h0 mx_FU h_q9 ?_
  refine mx_iload_n (mx_d tX4_tightPoints_0 28 rfl) rfl rfl ?_
  obtain rfl := Option.some.inj h
  exact mx_ireturn (mx_d tX4_tightPoints_0 29 rfl) rfl ⟨rfl, rfl⟩
def FX4_lonePoints_L4 (q0 : Nat) (m : mB) : Nat → Int32 → Int32 → Option (Int32)
  | 0, _, _ => none
  | f + 1, y1, y2 => (if (m.1 q0 0) ≤ y2 then (some (y1)) else Option.bind (FX4_isLone q0 y2 m) (fun r2 => (if r2 = 0 then mx_let (y2 + 1) (fun v4 => (FX4_lonePoints_L4 q0 m f y1 v4)) else mx_let (y1 ||| ((1 : Int32) <<< (y2 &&& 31))) (fun v5 => mx_let (y2 + 1) (fun v6 => (FX4_lonePoints_L4 q0 m f v5 v6))))))
set_option maxRecDepth 20000 in
theorem CX4_lonePoints_L4 {G : mG} {l : Launch} {e : mE} {Post : Option Value → mS → Prop} {q0 : Nat} {m : mB} (g0 : ly4 e q0) : ∀ (f : Nat) {y1 : Int32} {y2 : Int32} {q : (Int32)}, FX4_lonePoints_L4 q0 m f y1 y2 = some q → (mx_Fr G l MX4_lonePoints 3 0 0 Post 32 [.float 0, .int q, .float 0] [] (e, m)) → mx_Fr G l MX4_lonePoints 3 0 0 Post 4 [.ref q0, .int y1, .int y2] [] (e, m) := by
  intro f
  induction f with
  | zero => intro _ _ _ h; cases h
  | succ f ih =>
    intro y1 y2 q h hex
    rw [FX4_lonePoints_L4] at h
    refine mx_iload_n (mx_d tX4_lonePoints_0 4 rfl) rfl rfl ?_
    refine mx_aload_n (mx_d tX4_lonePoints_0 5 rfl) rfl rfl ?_
    refine mx_getI (mx_d tX4_lonePoints_0 6 rfl) fX4_43 rfl (Or.inl rfl) (ly4_o g0) ?_
    refine mx_icmp_ge (tgt := 32) (mx_d tX4_lonePoints_0 7 rfl) (by decide) (fun hc1 => ?_) (fun hc1 => ?_)
    · rw [if_pos hc1] at h
      obtain rfl := Option.some.inj h
      refine mx_forget (L' := [.float 0, .int y1, .float 0]) ⟨rfl, trivial⟩ ?_
      exact hex
    · rw [if_neg hc1] at h
      refine mx_aload_n (mx_d tX4_lonePoints_0 8 rfl) rfl rfl ?_
      refine mx_iload_n (mx_d tX4_lonePoints_0 9 rfl) rfl rfl ?_
      obtain ⟨r2, h_r2, h⟩ := Option.bind_eq_some_iff.mp h
      refine mx_cVi (mx_d tX4_lonePoints_0 10 rfl) iX4_105 rfl vX4_isLone ⟨_, rfl, rfl⟩ (ly4_o g0) (CX4_isLone g0 h_r2) (by decide) rfl rfl (Nat.le_of_ble_eq_true rfl) ?_
      refine mx_if_eq (tgt := 26) (mx_d tX4_lonePoints_0 11 rfl) (by decide) (fun hc3 => ?_) (fun hc3 => ?_)
      · rw [if_pos hc3] at h
        obtain ⟨v4, e_v4, h⟩ := mx_letE h
        refine mx_iinc v4 (L2 := [.ref q0, .int y1, .int v4]) (mx_d tX4_lonePoints_0 18 rfl) rfl (by rw [e_v4]; rfl) (by decide) rfl ?_
        refine mx_goto (tgt := 4) (mx_d tX4_lonePoints_0 19 rfl) (by decide) ?_
        exact ih h hex
      · rw [if_neg hc3] at h
        refine mx_iload_n (mx_d tX4_lonePoints_0 12 rfl) rfl rfl ?_
        refine mx_iconst (1) (mx_d tX4_lonePoints_0 13 rfl) (by decide) ?_
        refine mx_iload_n (mx_d tX4_lonePoints_0 14 rfl) rfl rfl ?_
        refine mx_ishl (mx_d tX4_lonePoints_0 15 rfl) ?_
        refine mx_ior (mx_d tX4_lonePoints_0 16 rfl) ?_
        obtain ⟨v5, e_v5, h⟩ := mx_letE h
        refine mx_istore_n (L2 := [.ref q0, .int v5, .int y2]) (mx_d tX4_lonePoints_0 17 rfl) rfl (by decide) (by rw [e_v5]; rfl) ?_
        obtain ⟨v6, e_v6, h⟩ := mx_letE h
        refine mx_iinc v6 (L2 := [.ref q0, .int v5, .int v6]) (mx_d tX4_lonePoints_0 18 rfl) rfl (by rw [e_v6]; rfl) (by decide) rfl ?_
        refine mx_goto (tgt := 4) (mx_d tX4_lonePoints_0 19 rfl) (by decide) ?_
        exact ih h hex
def FX4_lonePoints (a : Nat) (m : mB) : Option Int32 := Option.bind (FX4_lonePoints_L4 a m mx_FU 0 0) (fun q7 => (some q7))
set_option maxRecDepth 20000 in
theorem CX4_lonePoints {G : mG} {l : Launch} {e : mE} {a : Nat} {m : mB} {r : Int32} (h0 : ly4 e a) (h : FX4_lonePoints a m = some r) : mx_Call G l MX4_lonePoints 3 0 0 [.ref a] (e, m) (fun v z => v = some (.int r) ∧ z = (e, m)) := by
  refine mx_entry (L := [.ref a, .float 0, .float 0]) (by decide +kernel) (Nat.le_of_ble_eq_true rfl) rfl ?_
  unfold FX4_lonePoints at h
  refine mx_iconst (0) (mx_d tX4_lonePoints_0 0 rfl) (by decide) ?_
  refine mx_istore_n (L2 := [.ref a, .int 0, .float 0]) (mx_d tX4_lonePoints_0 1 rfl) rfl (by decide) (by rfl) ?_
  refine mx_iconst (0) (mx_d tX4_lonePoints_0 2 rfl) (by decide) ?_
  refine mx_istore_n (L2 := [.ref a, .int 0, .int 0]) (mx_d tX4_lonePoints_0 3 rfl) rfl (by decide) (by rfl) ?_
  obtain ⟨q7, h_q7, h⟩ := Option.bind_eq_some_iff.mp h
  refine CX4_lonePoints_L4 h0 mx_FU h_q7 ?_
  refine mx_iload_n (mx_d tX4_lonePoints_0 20 rfl) rfl rfl ?_
  obtain rfl := Option.some.inj h
  exact mx_ireturn (mx_d tX4_lonePoints_0 21 rfl) rfl ⟨rfl, rfl⟩
def FX4_pairs_L4 (q0 : Nat) (m : mB) : Nat → Int32 → Int32 → Option (Int32)
  | 0, _, _ => none
  | f + 1, y1, y2 => (if (m.1 q0 1) ≤ y2 then (some (y1)) else Option.bind (FX4_isPair q0 y2 m) (fun r2 => (if r2 = 0 then mx_let (y2 + 1) (fun v4 => (FX4_pairs_L4 q0 m f y1 v4)) else mx_let (y1 + 1) (fun v5 => mx_let (y2 + 1) (fun v6 => (FX4_pairs_L4 q0 m f v5 v6))))))
set_option maxRecDepth 20000 in
theorem CX4_pairs_L4 {G : mG} {l : Launch} {e : mE} {Post : Option Value → mS → Prop} {q0 : Nat} {m : mB} (g0 : ly4 e q0) : ∀ (f : Nat) {y1 : Int32} {y2 : Int32} {q : (Int32)}, FX4_pairs_L4 q0 m f y1 y2 = some q → (mx_Fr G l MX4_pairs 4 0 0 Post 29 [.float 0, .int q, .float 0] [] (e, m)) → mx_Fr G l MX4_pairs 4 0 0 Post 4 [.ref q0, .int y1, .int y2] [] (e, m) := by
  intro f
  induction f with
  | zero => intro _ _ _ h; cases h
  | succ f ih =>
    intro y1 y2 q h hex
    rw [FX4_pairs_L4] at h
    refine mx_iload_n (mx_d tX4_pairs_0 4 rfl) rfl rfl ?_
    refine mx_aload_n (mx_d tX4_pairs_0 5 rfl) rfl rfl ?_
    refine mx_getI (mx_d tX4_pairs_0 6 rfl) fX4_47 rfl (Or.inl rfl) (ly4_o g0) ?_
    refine mx_icmp_ge (tgt := 29) (mx_d tX4_pairs_0 7 rfl) (by decide) (fun hc1 => ?_) (fun hc1 => ?_)
    · rw [if_pos hc1] at h
      obtain rfl := Option.some.inj h
      refine mx_forget (L' := [.float 0, .int y1, .float 0]) ⟨rfl, trivial⟩ ?_
      exact hex
    · rw [if_neg hc1] at h
      refine mx_aload_n (mx_d tX4_pairs_0 8 rfl) rfl rfl ?_
      refine mx_iload_n (mx_d tX4_pairs_0 9 rfl) rfl rfl ?_
      obtain ⟨r2, h_r2, h⟩ := Option.bind_eq_some_iff.mp h
      refine mx_cVi (mx_d tX4_pairs_0 10 rfl) iX4_108 rfl vX4_isPair ⟨_, rfl, rfl⟩ (ly4_o g0) (CX4_isPair g0 h_r2) (by decide) rfl rfl (Nat.le_of_ble_eq_true rfl) ?_
      refine mx_if_eq (tgt := 23) (mx_d tX4_pairs_0 11 rfl) (by decide) (fun hc3 => ?_) (fun hc3 => ?_)
      · rw [if_pos hc3] at h
        obtain ⟨v4, e_v4, h⟩ := mx_letE h
        refine mx_iinc v4 (L2 := [.ref q0, .int y1, .int v4]) (mx_d tX4_pairs_0 13 rfl) rfl (by rw [e_v4]; rfl) (by decide) rfl ?_
        refine mx_goto (tgt := 4) (mx_d tX4_pairs_0 14 rfl) (by decide) ?_
        exact ih h hex
      · rw [if_neg hc3] at h
        obtain ⟨v5, e_v5, h⟩ := mx_letE h
        refine mx_iinc v5 (L2 := [.ref q0, .int v5, .int y2]) (mx_d tX4_pairs_0 12 rfl) rfl (by rw [e_v5]; rfl) (by decide) rfl ?_
        obtain ⟨v6, e_v6, h⟩ := mx_letE h
        refine mx_iinc v6 (L2 := [.ref q0, .int v5, .int v6]) (mx_d tX4_pairs_0 13 rfl) rfl (by rw [e_v6]; rfl) (by decide) rfl ?_
        refine mx_goto (tgt := 4) (mx_d tX4_pairs_0 14 rfl) (by decide) ?_
        exact ih h hex
def FX4_pairs (a : Nat) (m : mB) : Option Int32 := Option.bind (FX4_pairs_L4 a m mx_FU 0 0) (fun q7 => (some q7))
set_option maxRecDepth 20000 in
theorem CX4_pairs {G : mG} {l : Launch} {e : mE} {a : Nat} {m : mB} {r : Int32} (h0 : ly4 e a) (h : FX4_pairs a m = some r) : mx_Call G l MX4_pairs 4 0 0 [.ref a] (e, m) (fun v z => v = some (.int r) ∧ z = (e, m)) := by
  refine mx_entry (L := [.ref a, .float 0, .float 0]) (by decide +kernel) (Nat.le_of_ble_eq_true rfl) rfl ?_
  unfold FX4_pairs at h
  refine mx_iconst (0) (mx_d tX4_pairs_0 0 rfl) (by decide) ?_
  refine mx_istore_n (L2 := [.ref a, .int 0, .float 0]) (mx_d tX4_pairs_0 1 rfl) rfl (by decide) (by rfl) ?_
  refine mx_iconst (0) (mx_d tX4_pairs_0 2 rfl) (by decide) ?_
  refine mx_istore_n (L2 := [.ref a, .int 0, .int 0]) (mx_d tX4_pairs_0 3 rfl) rfl (by decide) (by rfl) ?_
  obtain ⟨q7, h_q7, h⟩ := Option.bind_eq_some_iff.mp h
  refine CX4_pairs_L4 h0 mx_FU h_q7 ?_
  refine mx_iload_n (mx_d tX4_pairs_0 15 rfl) rfl rfl ?_
  obtain rfl := Option.some.inj h
  exact mx_ireturn (mx_d tX4_pairs_0 16 rfl) rfl ⟨rfl, rfl⟩
def FX4_total_L4 (q0 : Nat) (m : mB) : Nat → Int32 → Int32 → Option (Int32)
  | 0, _, _ => none
  | f + 1, y1, y2 => (if (m.1 q0 1) ≤ y2 then (some (y1)) else Option.bind (FX4_isPair q0 y2 m) (fun r2 => (if r2 = 0 then mx_let (y2 + 1) (fun v4 => (FX4_total_L4 q0 m f y1 v4)) else Option.bind (FX4_weightAt q0 y2 m) (fun r5 => mx_let (y1 + r5) (fun v6 => mx_let (y2 + 1) (fun v7 => (FX4_total_L4 q0 m f v6 v7)))))))
set_option maxRecDepth 20000 in
theorem CX4_total_L4 {G : mG} {l : Launch} {e : mE} {Post : Option Value → mS → Prop} {q0 : Nat} {m : mB} (g0 : ly4 e q0) : ∀ (f : Nat) {y1 : Int32} {y2 : Int32} {q : (Int32)}, FX4_total_L4 q0 m f y1 y2 = some q → (mx_Fr G l MX4_total 4 0 0 Post 34 [.float 0, .int q, .float 0] [] (e, m)) → mx_Fr G l MX4_total 4 0 0 Post 4 [.ref q0, .int y1, .int y2] [] (e, m) := by
  intro f
  induction f with
  | zero => intro _ _ _ h; cases h
  | succ f ih =>
    intro y1 y2 q h hex
    rw [FX4_total_L4] at h
    refine mx_iload_n (mx_d tX4_total_0 4 rfl) rfl rfl ?_
    refine mx_aload_n (mx_d tX4_total_0 5 rfl) rfl rfl ?_
    refine mx_getI (mx_d tX4_total_0 6 rfl) fX4_47 rfl (Or.inl rfl) (ly4_o g0) ?_
    refine mx_icmp_ge (tgt := 34) (mx_d tX4_total_0 7 rfl) (by decide) (fun hc1 => ?_) (fun hc1 => ?_)
    · rw [if_pos hc1] at h
      obtain rfl := Option.some.inj h
      refine mx_forget (L' := [.float 0, .int y1, .float 0]) ⟨rfl, trivial⟩ ?_
      exact hex
    · rw [if_neg hc1] at h
      refine mx_aload_n (mx_d tX4_total_0 8 rfl) rfl rfl ?_
      refine mx_iload_n (mx_d tX4_total_0 9 rfl) rfl rfl ?_
      obtain ⟨r2, h_r2, h⟩ := Option.bind_eq_some_iff.mp h
      refine mx_cVi (mx_d tX4_total_0 10 rfl) iX4_108 rfl vX4_isPair ⟨_, rfl, rfl⟩ (ly4_o g0) (CX4_isPair g0 h_r2) (by decide) rfl rfl (Nat.le_of_ble_eq_true rfl) ?_
      refine mx_if_eq (tgt := 28) (mx_d tX4_total_0 11 rfl) (by decide) (fun hc3 => ?_) (fun hc3 => ?_)
      · rw [if_pos hc3] at h
        obtain ⟨v4, e_v4, h⟩ := mx_letE h
        refine mx_iinc v4 (L2 := [.ref q0, .int y1, .int v4]) (mx_d tX4_total_0 18 rfl) rfl (by rw [e_v4]; rfl) (by decide) rfl ?_
        refine mx_goto (tgt := 4) (mx_d tX4_total_0 19 rfl) (by decide) ?_
        exact ih h hex
      · rw [if_neg hc3] at h
        refine mx_iload_n (mx_d tX4_total_0 12 rfl) rfl rfl ?_
        refine mx_aload_n (mx_d tX4_total_0 13 rfl) rfl rfl ?_
        refine mx_iload_n (mx_d tX4_total_0 14 rfl) rfl rfl ?_
        obtain ⟨r5, h_r5, h⟩ := Option.bind_eq_some_iff.mp h
        refine mx_cVi (mx_d tX4_total_0 15 rfl) iX4_87 rfl vX4_weightAt ⟨_, rfl, rfl⟩ (ly4_o g0) (CX4_weightAt g0 h_r5) (by decide) rfl rfl (Nat.le_of_ble_eq_true rfl) ?_
        refine mx_iadd (mx_d tX4_total_0 16 rfl) ?_
        obtain ⟨v6, e_v6, h⟩ := mx_letE h
        refine mx_istore_n (L2 := [.ref q0, .int v6, .int y2]) (mx_d tX4_total_0 17 rfl) rfl (by decide) (by rw [e_v6]; rfl) ?_
        obtain ⟨v7, e_v7, h⟩ := mx_letE h
        refine mx_iinc v7 (L2 := [.ref q0, .int v6, .int v7]) (mx_d tX4_total_0 18 rfl) rfl (by rw [e_v7]; rfl) (by decide) rfl ?_
        refine mx_goto (tgt := 4) (mx_d tX4_total_0 19 rfl) (by decide) ?_
        exact ih h hex
def FX4_total (a : Nat) (m : mB) : Option Int32 := Option.bind (FX4_total_L4 a m mx_FU 0 0) (fun q8 => (some q8))
set_option maxRecDepth 20000 in
theorem CX4_total {G : mG} {l : Launch} {e : mE} {a : Nat} {m : mB} {r : Int32} (h0 : ly4 e a) (h : FX4_total a m = some r) : mx_Call G l MX4_total 4 0 0 [.ref a] (e, m) (fun v z => v = some (.int r) ∧ z = (e, m)) := by
  refine mx_entry (L := [.ref a, .float 0, .float 0]) (by decide +kernel) (Nat.le_of_ble_eq_true rfl) rfl ?_
  unfold FX4_total at h
  refine mx_iconst (0) (mx_d tX4_total_0 0 rfl) (by decide) ?_
  refine mx_istore_n (L2 := [.ref a, .int 0, .float 0]) (mx_d tX4_total_0 1 rfl) rfl (by decide) (by rfl) ?_
  refine mx_iconst (0) (mx_d tX4_total_0 2 rfl) (by decide) ?_
  refine mx_istore_n (L2 := [.ref a, .int 0, .int 0]) (mx_d tX4_total_0 3 rfl) rfl (by decide) (by rfl) ?_
  obtain ⟨q8, h_q8, h⟩ := Option.bind_eq_some_iff.mp h
  refine CX4_total_L4 h0 mx_FU h_q8 ?_
  refine mx_iload_n (mx_d tX4_total_0 20 rfl) rfl rfl ?_
  obtain rfl := Option.some.inj h
  exact mx_ireturn (mx_d tX4_total_0 21 rfl) rfl ⟨rfl, rfl⟩
def FX4_pairsWithin_L11 (q0 : Nat) (y2 : Int32) (m : mB) : Nat → Int32 → Int32 → Option (Int32)
  | 0, _, _ => none
  | f + 1, y3, y4 => (if (m.1 q0 1) ≤ y4 then (some (y3)) else Option.bind (FX4_isPair q0 y4 m) (fun r3 => (if r3 = 0 then mx_let (y4 + 1) (fun v5 => (FX4_pairsWithin_L11 q0 y2 m f y3 v5)) else Option.bind (FX4_fromOf q0 y4 m) (fun r6 => Option.bind (FX4_toOf q0 y4 m) (fun r7 => (if (((y2 >>> (r6 &&& 31)) &&& (y2 >>> (r7 &&& 31))) &&& 1) = 0 then mx_let (y4 + 1) (fun v9 => (FX4_pairsWithin_L11 q0 y2 m f y3 v9)) else mx_let (y3 + 1) (fun v10 => mx_let (y4 + 1) (fun v11 => (FX4_pairsWithin_L11 q0 y2 m f v10 v11)))))))))
set_option maxRecDepth 20000 in
theorem CX4_pairsWithin_L11 {G : mG} {l : Launch} {e : mE} {Post : Option Value → mS → Prop} {q0 : Nat} {y2 : Int32} {m : mB} (g0 : ly4 e q0) : ∀ (f : Nat) {y3 : Int32} {y4 : Int32} {q : (Int32)}, FX4_pairsWithin_L11 q0 y2 m f y3 y4 = some q → (mx_Fr G l MX4_pairsWithin 4 0 0 Post 60 [.float 0, .float 0, .float 0, .int q, .float 0] [] (e, m)) → mx_Fr G l MX4_pairsWithin 4 0 0 Post 11 [.ref q0, .float 0, .int y2, .int y3, .int y4] [] (e, m) := by
  intro f
  induction f with
  | zero => intro _ _ _ h; cases h
  | succ f ih =>
    intro y3 y4 q h hex
    rw [FX4_pairsWithin_L11] at h
    refine mx_iload (mx_d tX4_pairsWithin_0 8 rfl) rfl ?_
    refine mx_aload_n (mx_d tX4_pairsWithin_0 9 rfl) rfl rfl ?_
    refine mx_getI (mx_d tX4_pairsWithin_0 10 rfl) fX4_47 rfl (Or.inl rfl) (ly4_o g0) ?_
    refine mx_icmp_ge (tgt := 60) (mx_d tX4_pairsWithin_0 11 rfl) (by decide) (fun hc2 => ?_) (fun hc2 => ?_)
    · rw [if_pos hc2] at h
      obtain rfl := Option.some.inj h
      refine mx_forget (L' := [.float 0, .float 0, .float 0, .int y3, .float 0]) ⟨rfl, trivial⟩ ?_
      exact hex
    · rw [if_neg hc2] at h
      refine mx_aload_n (mx_d tX4_pairsWithin_0 12 rfl) rfl rfl ?_
      refine mx_iload (mx_d tX4_pairsWithin_0 13 rfl) rfl ?_
      obtain ⟨r3, h_r3, h⟩ := Option.bind_eq_some_iff.mp h
      refine mx_cVi (mx_d tX4_pairsWithin_0 14 rfl) iX4_108 rfl vX4_isPair ⟨_, rfl, rfl⟩ (ly4_o g0) (CX4_isPair g0 h_r3) (by decide) rfl rfl (Nat.le_of_ble_eq_true rfl) ?_
      refine mx_if_eq (tgt := 54) (mx_d tX4_pairsWithin_0 15 rfl) (by decide) (fun hc4 => ?_) (fun hc4 => ?_)
      · rw [if_pos hc4] at h
        obtain ⟨v5, e_v5, h⟩ := mx_letE h
        refine mx_iinc v5 (L2 := [.ref q0, .float 0, .int y2, .int y3, .int v5]) (mx_d tX4_pairsWithin_0 31 rfl) rfl (by rw [e_v5]; rfl) (by decide) rfl ?_
        refine mx_goto (tgt := 11) (mx_d tX4_pairsWithin_0 32 rfl) (by decide) ?_
        exact ih h hex
      · rw [if_neg hc4] at h
        refine mx_iload_n (mx_d tX4_pairsWithin_0 16 rfl) rfl rfl ?_
        refine mx_aload_n (mx_d tX4_pairsWithin_0 17 rfl) rfl rfl ?_
        refine mx_iload (mx_d tX4_pairsWithin_0 18 rfl) rfl ?_
        obtain ⟨r6, h_r6, h⟩ := Option.bind_eq_some_iff.mp h
        refine mx_cVi (mx_d tX4_pairsWithin_0 19 rfl) iX4_99 rfl vX4_fromOf ⟨_, rfl, rfl⟩ (ly4_o g0) (CX4_fromOf g0 h_r6) (by decide) rfl rfl (Nat.le_of_ble_eq_true rfl) ?_
        refine mx_ishr (mx_d tX4_pairsWithin_0 20 rfl) ?_
        refine mx_iload_n (mx_d tX4_pairsWithin_0 21 rfl) rfl rfl ?_
        refine mx_aload_n (mx_d tX4_pairsWithin_0 22 rfl) rfl rfl ?_
        refine mx_iload (mx_d tX4_pairsWithin_0 23 rfl) rfl ?_
        obtain ⟨r7, h_r7, h⟩ := Option.bind_eq_some_iff.mp h
        refine mx_cVi (mx_d tX4_pairsWithin_0 24 rfl) iX4_102 rfl vX4_toOf ⟨_, rfl, rfl⟩ (ly4_o g0) (CX4_toOf g0 h_r7) (by decide) rfl rfl (Nat.le_of_ble_eq_true rfl) ?_
        refine mx_ishr (mx_d tX4_pairsWithin_0 25 rfl) ?_
        refine mx_iand (mx_d tX4_pairsWithin_0 26 rfl) ?_
        refine mx_iconst (1) (mx_d tX4_pairsWithin_0 27 rfl) (by decide) ?_
        refine mx_iand (mx_d tX4_pairsWithin_0 28 rfl) ?_
        refine mx_if_eq (tgt := 54) (mx_d tX4_pairsWithin_0 29 rfl) (by decide) (fun hc8 => ?_) (fun hc8 => ?_)
        · rw [if_pos hc8] at h
          obtain ⟨v9, e_v9, h⟩ := mx_letE h
          refine mx_iinc v9 (L2 := [.ref q0, .float 0, .int y2, .int y3, .int v9]) (mx_d tX4_pairsWithin_0 31 rfl) rfl (by rw [e_v9]; rfl) (by decide) rfl ?_
          refine mx_goto (tgt := 11) (mx_d tX4_pairsWithin_0 32 rfl) (by decide) ?_
          exact ih h hex
        · rw [if_neg hc8] at h
          obtain ⟨v10, e_v10, h⟩ := mx_letE h
          refine mx_iinc v10 (L2 := [.ref q0, .float 0, .int y2, .int v10, .int y4]) (mx_d tX4_pairsWithin_0 30 rfl) rfl (by rw [e_v10]; rfl) (by decide) rfl ?_
          obtain ⟨v11, e_v11, h⟩ := mx_letE h
          refine mx_iinc v11 (L2 := [.ref q0, .float 0, .int y2, .int v10, .int v11]) (mx_d tX4_pairsWithin_0 31 rfl) rfl (by rw [e_v11]; rfl) (by decide) rfl ?_
          refine mx_goto (tgt := 11) (mx_d tX4_pairsWithin_0 32 rfl) (by decide) ?_
          exact ih h hex
def FX4_pairsWithin (a : Nat) (x0 : Int32) (m : mB) : Option Int32 := Option.bind (FX4_membersOf a x0 m) (fun r1 => Option.bind (FX4_pairsWithin_L11 a r1 m mx_FU 0 0) (fun q12 => (some q12)))
set_option maxRecDepth 20000 in
theorem CX4_pairsWithin {G : mG} {l : Launch} {e : mE} {a : Nat} {x0 : Int32} {m : mB} {r : Int32} (h0 : ly4 e a) (h : FX4_pairsWithin a x0 m = some r) : mx_Call G l MX4_pairsWithin 4 0 0 [.ref a, .int x0] (e, m) (fun v z => v = some (.int r) ∧ z = (e, m)) := by
  refine mx_entry (L := [.ref a, .int x0, .float 0, .float 0, .float 0]) (by decide +kernel) (Nat.le_of_ble_eq_true rfl) rfl ?_
  unfold FX4_pairsWithin at h
  refine mx_aload_n (mx_d tX4_pairsWithin_0 0 rfl) rfl rfl ?_
  refine mx_iload_n (mx_d tX4_pairsWithin_0 1 rfl) rfl rfl ?_
  obtain ⟨r1, h_r1, h⟩ := Option.bind_eq_some_iff.mp h
  refine mx_cVi (mx_d tX4_pairsWithin_0 2 rfl) iX4_111 rfl vX4_membersOf ⟨_, rfl, rfl⟩ (ly4_o h0) (CX4_membersOf h0 h_r1) (by decide) rfl rfl (Nat.le_of_ble_eq_true rfl) ?_
  refine mx_istore_n (L2 := [.ref a, .int x0, .int r1, .float 0, .float 0]) (mx_d tX4_pairsWithin_0 3 rfl) rfl (by decide) (by rfl) ?_
  refine mx_iconst (0) (mx_d tX4_pairsWithin_0 4 rfl) (by decide) ?_
  refine mx_istore_n (L2 := [.ref a, .int x0, .int r1, .int 0, .float 0]) (mx_d tX4_pairsWithin_0 5 rfl) rfl (by decide) (by rfl) ?_
  refine mx_iconst (0) (mx_d tX4_pairsWithin_0 6 rfl) (by decide) ?_
  refine mx_istore (L2 := [.ref a, .int x0, .int r1, .int 0, .int 0]) (mx_d tX4_pairsWithin_0 7 rfl) (by decide) (by rfl) ?_
  obtain ⟨q12, h_q12, h⟩ := Option.bind_eq_some_iff.mp h
  refine mx_forget (L' := [.ref a, .float 0, .int r1, .int 0, .int 0]) ⟨rfl, rfl, rfl, rfl, trivial⟩ ?_
  refine CX4_pairsWithin_L11 h0 mx_FU h_q12 ?_
  refine mx_iload_n (mx_d tX4_pairsWithin_0 33 rfl) rfl rfl ?_
  obtain rfl := Option.some.inj h
  exact mx_ireturn (mx_d tX4_pairsWithin_0 34 rfl) rfl ⟨rfl, rfl⟩
def FJ6_bitCount_0f7a4 (x0 : Int32) (m : mB) : Option Int32 := mx_let (x0 - ((UInt32.toInt32 (Int32.toUInt32 x0 >>> (Int32.toUInt32 1 &&& Int32.toUInt32 31))) &&& 1431655765)) (fun v1 => mx_let ((v1 &&& 858993459) + ((UInt32.toInt32 (Int32.toUInt32 v1 >>> (Int32.toUInt32 2 &&& Int32.toUInt32 31))) &&& 858993459)) (fun v2 => mx_let ((v2 + (UInt32.toInt32 (Int32.toUInt32 v2 >>> (Int32.toUInt32 4 &&& Int32.toUInt32 31)))) &&& 252645135) (fun v3 => mx_let (v3 + (UInt32.toInt32 (Int32.toUInt32 v3 >>> (Int32.toUInt32 8 &&& Int32.toUInt32 31)))) (fun v4 => mx_let (v4 + (UInt32.toInt32 (Int32.toUInt32 v4 >>> (Int32.toUInt32 16 &&& Int32.toUInt32 31)))) (fun v5 => (some (v5 &&& 63)))))))
set_option maxRecDepth 20000 in
theorem CJ6_bitCount_0f7a4 {G : mG} {l : Launch} {e : mE} {x0 : Int32} {m : mB} {r : Int32}  (h : FJ6_bitCount_0f7a4 x0 m = some r) : mx_Call G l MJ6_bitCount_0f7a4 1 0 0 [.int x0] (e, m) (fun v z => v = some (.int r) ∧ z = (e, m)) := by
  refine mx_entry (L := [.int x0]) (by decide +kernel) (Nat.le_of_ble_eq_true rfl) rfl ?_
  unfold FJ6_bitCount_0f7a4 at h
  refine mx_iload_n (mx_d tJ6_bitCount_0f7a4_0 0 rfl) rfl rfl ?_
  refine mx_iload_n (mx_d tJ6_bitCount_0f7a4_0 1 rfl) rfl rfl ?_
  refine mx_iconst (1) (mx_d tJ6_bitCount_0f7a4_0 2 rfl) (by decide) ?_
  refine mx_iushr (mx_d tJ6_bitCount_0f7a4_0 3 rfl) ?_
  refine mx_ldcw (1431655765) (mx_d tJ6_bitCount_0f7a4_0 4 rfl) cJ6_265 ?_
  refine mx_iand (mx_d tJ6_bitCount_0f7a4_0 5 rfl) ?_
  refine mx_isub (mx_d tJ6_bitCount_0f7a4_0 6 rfl) ?_
  obtain ⟨v1, e_v1, h⟩ := mx_letE h
  refine mx_istore_n (L2 := [.int v1]) (mx_d tJ6_bitCount_0f7a4_0 7 rfl) rfl (by decide) (by rw [e_v1]; rfl) ?_
  refine mx_iload_n (mx_d tJ6_bitCount_0f7a4_0 8 rfl) rfl rfl ?_
  refine mx_ldcw (858993459) (mx_d tJ6_bitCount_0f7a4_0 9 rfl) cJ6_266 ?_
  refine mx_iand (mx_d tJ6_bitCount_0f7a4_0 10 rfl) ?_
  refine mx_iload_n (mx_d tJ6_bitCount_0f7a4_0 11 rfl) rfl rfl ?_
  refine mx_iconst (2) (mx_d tJ6_bitCount_0f7a4_0 12 rfl) (by decide) ?_
  refine mx_iushr (mx_d tJ6_bitCount_0f7a4_0 13 rfl) ?_
  refine mx_ldcw (858993459) (mx_d tJ6_bitCount_0f7a4_0 14 rfl) cJ6_266 ?_
  refine mx_iand (mx_d tJ6_bitCount_0f7a4_0 15 rfl) ?_
  refine mx_iadd (mx_d tJ6_bitCount_0f7a4_0 16 rfl) ?_
  obtain ⟨v2, e_v2, h⟩ := mx_letE h
  refine mx_istore_n (L2 := [.int v2]) (mx_d tJ6_bitCount_0f7a4_0 17 rfl) rfl (by decide) (by rw [e_v2]; rfl) ?_
  refine mx_iload_n (mx_d tJ6_bitCount_0f7a4_0 18 rfl) rfl rfl ?_
  refine mx_iload_n (mx_d tJ6_bitCount_0f7a4_0 19 rfl) rfl rfl ?_
  refine mx_iconst (4) (mx_d tJ6_bitCount_0f7a4_0 20 rfl) (by decide) ?_
  refine mx_iushr (mx_d tJ6_bitCount_0f7a4_0 21 rfl) ?_
  refine mx_iadd (mx_d tJ6_bitCount_0f7a4_0 22 rfl) ?_
  refine mx_ldcw (252645135) (mx_d tJ6_bitCount_0f7a4_0 23 rfl) cJ6_267 ?_
  refine mx_iand (mx_d tJ6_bitCount_0f7a4_0 24 rfl) ?_
  obtain ⟨v3, e_v3, h⟩ := mx_letE h
  refine mx_istore_n (L2 := [.int v3]) (mx_d tJ6_bitCount_0f7a4_0 25 rfl) rfl (by decide) (by rw [e_v3]; rfl) ?_
  refine mx_iload_n (mx_d tJ6_bitCount_0f7a4_0 26 rfl) rfl rfl ?_
  refine mx_iload_n (mx_d tJ6_bitCount_0f7a4_0 27 rfl) rfl rfl ?_
  refine mx_bipush (8) (mx_d tJ6_bitCount_0f7a4_0 28 rfl) (by decide) ?_
  refine mx_iushr (mx_d tJ6_bitCount_0f7a4_0 29 rfl) ?_
  refine mx_iadd (mx_d tJ6_bitCount_0f7a4_0 30 rfl) ?_
  obtain ⟨v4, e_v4, h⟩ := mx_letE h
  refine mx_istore_n (L2 := [.int v4]) (mx_d tJ6_bitCount_0f7a4_0 31 rfl) rfl (by decide) (by rw [e_v4]; rfl) ?_
  refine mx_iload_n (mx_d tJ6_bitCount_0f7a4_0 32 rfl) rfl rfl ?_
  refine mx_iload_n (mx_d tJ6_bitCount_0f7a4_0 33 rfl) rfl rfl ?_
  refine mx_bipush (16) (mx_d tJ6_bitCount_0f7a4_0 34 rfl) (by decide) ?_
  refine mx_iushr (mx_d tJ6_bitCount_0f7a4_0 35 rfl) ?_
  refine mx_iadd (mx_d tJ6_bitCount_0f7a4_0 36 rfl) ?_
  obtain ⟨v5, e_v5, h⟩ := mx_letE h
  refine mx_istore_n (L2 := [.int v5]) (mx_d tJ6_bitCount_0f7a4_0 37 rfl) rfl (by decide) (by rw [e_v5]; rfl) ?_
  refine mx_iload_n (mx_d tJ6_bitCount_0f7a4_0 38 rfl) rfl rfl ?_
  refine mx_bipush (63) (mx_d tJ6_bitCount_0f7a4_0 39 rfl) (by decide) ?_
  refine mx_iand (mx_d tJ6_bitCount_0f7a4_0 40 rfl) ?_
  obtain rfl := Option.some.inj h
  exact mx_ireturn (mx_d tJ6_bitCount_0f7a4_0 41 rfl) rfl ⟨rfl, rfl⟩
def FX4_fullPairs (a : Nat) (x0 : Int32) (m : mB) : Option Int32 := Option.bind (FX4_membersOf a x0 m) (fun r1 => Option.bind (FJ6_bitCount_0f7a4 r1 m) (fun r2 => (some ((r2 - 1) / 2))))
set_option maxRecDepth 20000 in
theorem CX4_fullPairs {G : mG} {l : Launch} {e : mE} {a : Nat} {x0 : Int32} {m : mB} {r : Int32} (h0 : ly4 e a) (h : FX4_fullPairs a x0 m = some r) : mx_Call G l MX4_fullPairs 3 0 0 [.ref a, .int x0] (e, m) (fun v z => v = some (.int r) ∧ z = (e, m)) := by
  refine mx_entry (L := [.ref a, .int x0]) (by decide +kernel) (Nat.le_of_ble_eq_true rfl) rfl ?_
  unfold FX4_fullPairs at h
  refine mx_aload_n (mx_d tX4_fullPairs_0 0 rfl) rfl rfl ?_
  refine mx_iload_n (mx_d tX4_fullPairs_0 1 rfl) rfl rfl ?_
  obtain ⟨r1, h_r1, h⟩ := Option.bind_eq_some_iff.mp h
  refine mx_cVi (mx_d tX4_fullPairs_0 2 rfl) iX4_111 rfl vX4_membersOf ⟨_, rfl, rfl⟩ (ly4_o h0) (CX4_membersOf h0 h_r1) (by decide) rfl rfl (Nat.le_of_ble_eq_true rfl) ?_
  obtain ⟨r2, h_r2, h⟩ := Option.bind_eq_some_iff.mp h
  refine mx_cSi (mx_d tX4_fullPairs_0 3 rfl) iX4_114 rfl sJ6_bitCount_0f7a4 (CJ6_bitCount_0f7a4  h_r2) (by decide) rfl rfl (Nat.le_of_ble_eq_true rfl) ?_
  refine mx_iconst (1) (mx_d tX4_fullPairs_0 4 rfl) (by decide) ?_
  refine mx_isub (mx_d tX4_fullPairs_0 5 rfl) ?_
  refine mx_iconst (2) (mx_d tX4_fullPairs_0 6 rfl) (by decide) ?_
  refine mx_idiv (mx_d tX4_fullPairs_0 7 rfl) (by decide) ?_
  obtain rfl := Option.some.inj h
  exact mx_ireturn (mx_d tX4_fullPairs_0 8 rfl) rfl ⟨rfl, rfl⟩
def FX4_bound_L4 (q0 : Nat) (m : mB) : Nat → Int32 → Int32 → Option (Int32)
  | 0, _, _ => none
  | f + 1, y1, y2 => (if (m.1 q0 0) ≤ y2 then (some (y1)) else Option.bind (FX4_priceOf q0 y2 m) (fun r2 => mx_let (y1 + r2) (fun v3 => mx_let (y2 + 1) (fun v4 => (FX4_bound_L4 q0 m f v3 v4)))))
set_option maxRecDepth 20000 in
theorem CX4_bound_L4 {G : mG} {l : Launch} {e : mE} {Post : Option Value → mS → Prop} {q0 : Nat} {m : mB} (g0 : ly4 e q0) : ∀ (f : Nat) {y1 : Int32} {y2 : Int32} {q : (Int32)}, FX4_bound_L4 q0 m f y1 y2 = some q → (mx_Fr G l MX4_bound 4 0 0 Post 26 [.ref q0, .int q, .float 0] [] (e, m)) → mx_Fr G l MX4_bound 4 0 0 Post 4 [.ref q0, .int y1, .int y2] [] (e, m) := by
  intro f
  induction f with
  | zero => intro _ _ _ h; cases h
  | succ f ih =>
    intro y1 y2 q h hex
    rw [FX4_bound_L4] at h
    refine mx_iload_n (mx_d tX4_bound_0 4 rfl) rfl rfl ?_
    refine mx_aload_n (mx_d tX4_bound_0 5 rfl) rfl rfl ?_
    refine mx_getI (mx_d tX4_bound_0 6 rfl) fX4_43 rfl (Or.inl rfl) (ly4_o g0) ?_
    refine mx_icmp_ge (tgt := 26) (mx_d tX4_bound_0 7 rfl) (by decide) (fun hc1 => ?_) (fun hc1 => ?_)
    · rw [if_pos hc1] at h
      obtain rfl := Option.some.inj h
      refine mx_forget (L' := [.ref q0, .int y1, .float 0]) ⟨rfl, rfl, trivial⟩ ?_
      exact hex
    · rw [if_neg hc1] at h
      refine mx_iload_n (mx_d tX4_bound_0 8 rfl) rfl rfl ?_
      refine mx_aload_n (mx_d tX4_bound_0 9 rfl) rfl rfl ?_
      refine mx_iload_n (mx_d tX4_bound_0 10 rfl) rfl rfl ?_
      obtain ⟨r2, h_r2, h⟩ := Option.bind_eq_some_iff.mp h
      refine mx_cVi (mx_d tX4_bound_0 11 rfl) iX4_90 rfl vX4_priceOf ⟨_, rfl, rfl⟩ (ly4_o g0) (CX4_priceOf g0 h_r2) (by decide) rfl rfl (Nat.le_of_ble_eq_true rfl) ?_
      refine mx_iadd (mx_d tX4_bound_0 12 rfl) ?_
      obtain ⟨v3, e_v3, h⟩ := mx_letE h
      refine mx_istore_n (L2 := [.ref q0, .int v3, .int y2]) (mx_d tX4_bound_0 13 rfl) rfl (by decide) (by rw [e_v3]; rfl) ?_
      obtain ⟨v4, e_v4, h⟩ := mx_letE h
      refine mx_iinc v4 (L2 := [.ref q0, .int v3, .int v4]) (mx_d tX4_bound_0 14 rfl) rfl (by rw [e_v4]; rfl) (by decide) rfl ?_
      refine mx_goto (tgt := 4) (mx_d tX4_bound_0 15 rfl) (by decide) ?_
      exact ih h hex
def FX4_bound_L28 (q0 : Nat) (m : mB) : Nat → Int32 → Int32 → Option (Int32)
  | 0, _, _ => none
  | f + 1, y1, y2 => (if (m.1 q0 2) ≤ y2 then (some (y1)) else Option.bind (FX4_crownOf q0 y2 m) (fun r7 => Option.bind (FX4_fullPairs q0 y2 m) (fun r8 => mx_let (y1 + (r7 * r8)) (fun v9 => mx_let (y2 + 1) (fun v10 => (FX4_bound_L28 q0 m f v9 v10))))))
set_option maxRecDepth 20000 in
theorem CX4_bound_L28 {G : mG} {l : Launch} {e : mE} {Post : Option Value → mS → Prop} {q0 : Nat} {m : mB} (g0 : ly4 e q0) : ∀ (f : Nat) {y1 : Int32} {y2 : Int32} {q : (Int32)}, FX4_bound_L28 q0 m f y1 y2 = some q → (mx_Fr G l MX4_bound 4 0 0 Post 56 [.float 0, .int q, .float 0] [] (e, m)) → mx_Fr G l MX4_bound 4 0 0 Post 28 [.ref q0, .int y1, .int y2] [] (e, m) := by
  intro f
  induction f with
  | zero => intro _ _ _ h; cases h
  | succ f ih =>
    intro y1 y2 q h hex
    rw [FX4_bound_L28] at h
    refine mx_iload_n (mx_d tX4_bound_0 18 rfl) rfl rfl ?_
    refine mx_aload_n (mx_d tX4_bound_0 19 rfl) rfl rfl ?_
    refine mx_getI (mx_d tX4_bound_0 20 rfl) fX4_50 rfl (Or.inl rfl) (ly4_o g0) ?_
    refine mx_icmp_ge (tgt := 56) (mx_d tX4_bound_0 21 rfl) (by decide) (fun hc6 => ?_) (fun hc6 => ?_)
    · rw [if_pos hc6] at h
      obtain rfl := Option.some.inj h
      refine mx_forget (L' := [.float 0, .int y1, .float 0]) ⟨rfl, trivial⟩ ?_
      exact hex
    · rw [if_neg hc6] at h
      refine mx_iload_n (mx_d tX4_bound_0 22 rfl) rfl rfl ?_
      refine mx_aload_n (mx_d tX4_bound_0 23 rfl) rfl rfl ?_
      refine mx_iload_n (mx_d tX4_bound_0 24 rfl) rfl rfl ?_
      obtain ⟨r7, h_r7, h⟩ := Option.bind_eq_some_iff.mp h
      refine mx_cVi (mx_d tX4_bound_0 25 rfl) iX4_119 rfl vX4_crownOf ⟨_, rfl, rfl⟩ (ly4_o g0) (CX4_crownOf g0 h_r7) (by decide) rfl rfl (Nat.le_of_ble_eq_true rfl) ?_
      refine mx_aload_n (mx_d tX4_bound_0 26 rfl) rfl rfl ?_
      refine mx_iload_n (mx_d tX4_bound_0 27 rfl) rfl rfl ?_
      obtain ⟨r8, h_r8, h⟩ := Option.bind_eq_some_iff.mp h
      refine mx_cVi (mx_d tX4_bound_0 28 rfl) iX4_122 rfl vX4_fullPairs ⟨_, rfl, rfl⟩ (ly4_o g0) (CX4_fullPairs g0 h_r8) (by decide) rfl rfl (Nat.le_of_ble_eq_true rfl) ?_
      refine mx_imul (mx_d tX4_bound_0 29 rfl) ?_
      refine mx_iadd (mx_d tX4_bound_0 30 rfl) ?_
      obtain ⟨v9, e_v9, h⟩ := mx_letE h
      refine mx_istore_n (L2 := [.ref q0, .int v9, .int y2]) (mx_d tX4_bound_0 31 rfl) rfl (by decide) (by rw [e_v9]; rfl) ?_
      obtain ⟨v10, e_v10, h⟩ := mx_letE h
      refine mx_iinc v10 (L2 := [.ref q0, .int v9, .int v10]) (mx_d tX4_bound_0 32 rfl) rfl (by rw [e_v10]; rfl) (by decide) rfl ?_
      refine mx_goto (tgt := 28) (mx_d tX4_bound_0 33 rfl) (by decide) ?_
      exact ih h hex
def FX4_bound (a : Nat) (m : mB) : Option Int32 := Option.bind (FX4_bound_L4 a m mx_FU 0 0) (fun q5 => Option.bind (FX4_bound_L28 a m mx_FU q5 0) (fun q11 => (some q11)))
set_option maxRecDepth 20000 in
theorem CX4_bound {G : mG} {l : Launch} {e : mE} {a : Nat} {m : mB} {r : Int32} (h0 : ly4 e a) (h : FX4_bound a m = some r) : mx_Call G l MX4_bound 4 0 0 [.ref a] (e, m) (fun v z => v = some (.int r) ∧ z = (e, m)) := by
  refine mx_entry (L := [.ref a, .float 0, .float 0]) (by decide +kernel) (Nat.le_of_ble_eq_true rfl) rfl ?_
  unfold FX4_bound at h
  refine mx_iconst (0) (mx_d tX4_bound_0 0 rfl) (by decide) ?_
  refine mx_istore_n (L2 := [.ref a, .int 0, .float 0]) (mx_d tX4_bound_0 1 rfl) rfl (by decide) (by rfl) ?_
  refine mx_iconst (0) (mx_d tX4_bound_0 2 rfl) (by decide) ?_
  refine mx_istore_n (L2 := [.ref a, .int 0, .int 0]) (mx_d tX4_bound_0 3 rfl) rfl (by decide) (by rfl) ?_
  obtain ⟨q5, h_q5, h⟩ := Option.bind_eq_some_iff.mp h
  refine CX4_bound_L4 h0 mx_FU h_q5 ?_
  refine mx_iconst (0) (mx_d tX4_bound_0 16 rfl) (by decide) ?_
  refine mx_istore_n (L2 := [.ref a, .int q5, .int 0]) (mx_d tX4_bound_0 17 rfl) rfl (by decide) (by rfl) ?_
  obtain ⟨q11, h_q11, h⟩ := Option.bind_eq_some_iff.mp h
  refine CX4_bound_L28 h0 mx_FU h_q11 ?_
  refine mx_iload_n (mx_d tX4_bound_0 34 rfl) rfl rfl ?_
  obtain rfl := Option.some.inj h
  exact mx_ireturn (mx_d tX4_bound_0 35 rfl) rfl ⟨rfl, rfl⟩
def FJ9_min_7cf53 (x0 : Int32) (x1 : Int32) (m : mB) : Option Int32 := (if x1 < x0 then (some x1) else (some x0))
set_option maxRecDepth 20000 in
theorem CJ9_min_7cf53 {G : mG} {l : Launch} {e : mE} {x0 : Int32} {x1 : Int32} {m : mB} {r : Int32}  (h : FJ9_min_7cf53 x0 x1 m = some r) : mx_Call G l MJ9_min_7cf53 1 0 0 [.int x0, .int x1] (e, m) (fun v z => v = some (.int r) ∧ z = (e, m)) := by
  refine mx_entryF (L := [.int x0, .int x1]) (by decide +kernel) (Nat.le_of_ble_eq_true rfl) rfl ?_
  unfold FJ9_min_7cf53 at h
  refine mx_iload_n (mx_d tJ9_min_7cf53_0 0 rfl) rfl rfl ?_
  refine mx_iload_n (mx_d tJ9_min_7cf53_0 1 rfl) rfl rfl ?_
  refine mx_icmp_gt (tgt := 9) (mx_d tJ9_min_7cf53_0 2 rfl) (by decide) (fun hc1 => ?_) (fun hc1 => ?_)
  · rw [if_pos hc1] at h
    refine mx_iload_n (mx_d tJ9_min_7cf53_0 5 rfl) rfl rfl ?_
    obtain rfl := Option.some.inj h
    exact mx_ireturn (mx_d tJ9_min_7cf53_0 6 rfl) rfl ⟨rfl, rfl⟩
  · rw [if_neg hc1] at h
    refine mx_iload_n (mx_d tJ9_min_7cf53_0 3 rfl) rfl rfl ?_
    refine mx_goto (tgt := 10) (mx_d tJ9_min_7cf53_0 4 rfl) (by decide) ?_
    obtain rfl := Option.some.inj h
    exact mx_ireturn (mx_d tJ9_min_7cf53_0 6 rfl) rfl ⟨rfl, rfl⟩
def FJ9_max_7cf53 (x0 : Int32) (x1 : Int32) (m : mB) : Option Int32 := (if x0 < x1 then (some x1) else (some x0))
set_option maxRecDepth 20000 in
theorem CJ9_max_7cf53 {G : mG} {l : Launch} {e : mE} {x0 : Int32} {x1 : Int32} {m : mB} {r : Int32}  (h : FJ9_max_7cf53 x0 x1 m = some r) : mx_Call G l MJ9_max_7cf53 1 0 0 [.int x0, .int x1] (e, m) (fun v z => v = some (.int r) ∧ z = (e, m)) := by
  refine mx_entryF (L := [.int x0, .int x1]) (by decide +kernel) (Nat.le_of_ble_eq_true rfl) rfl ?_
  unfold FJ9_max_7cf53 at h
  refine mx_iload_n (mx_d tJ9_max_7cf53_0 0 rfl) rfl rfl ?_
  refine mx_iload_n (mx_d tJ9_max_7cf53_0 1 rfl) rfl rfl ?_
  refine mx_icmp_lt (tgt := 9) (mx_d tJ9_max_7cf53_0 2 rfl) (by decide) (fun hc1 => ?_) (fun hc1 => ?_)
  · rw [if_pos hc1] at h
    refine mx_iload_n (mx_d tJ9_max_7cf53_0 5 rfl) rfl rfl ?_
    obtain rfl := Option.some.inj h
    exact mx_ireturn (mx_d tJ9_max_7cf53_0 6 rfl) rfl ⟨rfl, rfl⟩
  · rw [if_neg hc1] at h
    refine mx_iload_n (mx_d tJ9_max_7cf53_0 3 rfl) rfl rfl ?_
    refine mx_goto (tgt := 10) (mx_d tJ9_max_7cf53_0 4 rfl) (by decide) ?_
    obtain rfl := Option.some.inj h
    exact mx_ireturn (mx_d tJ9_max_7cf53_0 6 rfl) rfl ⟨rfl, rfl⟩
def FX4_roomOf_L8 (q0 : Nat) (y1 : Int32) (m : mB) : Nat → Int32 → Int32 → Option (Int32)
  | 0, _, _ => none
  | f + 1, y2, y3 => (if (m.1 q0 1) ≤ y3 then (some (y2)) else Option.bind (FX4_otherEnd q0 y3 y1 m) (fun r3 => (if r3 = 0 then mx_let (y3 + 1) (fun v5 => (FX4_roomOf_L8 q0 y1 m f y2 v5)) else Option.bind (FX4_slackOf q0 y3 m) (fun r6 => Option.bind (FJ9_min_7cf53 y2 r6 m) (fun r7 => mx_let (y3 + 1) (fun v8 => (FX4_roomOf_L8 q0 y1 m f r7 v8)))))))
set_option maxRecDepth 20000 in
theorem CX4_roomOf_L8 {G : mG} {l : Launch} {e : mE} {Post : Option Value → mS → Prop} {q0 : Nat} {y1 : Int32} {m : mB} (g0 : ly4 e q0) : ∀ (f : Nat) {y2 : Int32} {y3 : Int32} {q : (Int32)}, FX4_roomOf_L8 q0 y1 m f y2 y3 = some q → (mx_Fr G l MX4_roomOf 4 0 0 Post 41 [.float 0, .float 0, .int q, .float 0] [] (e, m)) → mx_Fr G l MX4_roomOf 4 0 0 Post 8 [.ref q0, .int y1, .int y2, .int y3] [] (e, m) := by
  intro f
  induction f with
  | zero => intro _ _ _ h; cases h
  | succ f ih =>
    intro y2 y3 q h hex
    rw [FX4_roomOf_L8] at h
    refine mx_iload_n (mx_d tX4_roomOf_0 6 rfl) rfl rfl ?_
    refine mx_aload_n (mx_d tX4_roomOf_0 7 rfl) rfl rfl ?_
    refine mx_getI (mx_d tX4_roomOf_0 8 rfl) fX4_47 rfl (Or.inl rfl) (ly4_o g0) ?_
    refine mx_icmp_ge (tgt := 41) (mx_d tX4_roomOf_0 9 rfl) (by decide) (fun hc2 => ?_) (fun hc2 => ?_)
    · rw [if_pos hc2] at h
      obtain rfl := Option.some.inj h
      refine mx_forget (L' := [.float 0, .float 0, .int y2, .float 0]) ⟨rfl, trivial⟩ ?_
      exact hex
    · rw [if_neg hc2] at h
      refine mx_aload_n (mx_d tX4_roomOf_0 10 rfl) rfl rfl ?_
      refine mx_iload_n (mx_d tX4_roomOf_0 11 rfl) rfl rfl ?_
      refine mx_iload_n (mx_d tX4_roomOf_0 12 rfl) rfl rfl ?_
      obtain ⟨r3, h_r3, h⟩ := Option.bind_eq_some_iff.mp h
      refine mx_cVi (mx_d tX4_roomOf_0 13 rfl) iX4_96 rfl vX4_otherEnd ⟨_, rfl, rfl⟩ (ly4_o g0) (CX4_otherEnd g0 h_r3) (by decide) rfl rfl (Nat.le_of_ble_eq_true rfl) ?_
      refine mx_if_eq (tgt := 35) (mx_d tX4_roomOf_0 14 rfl) (by decide) (fun hc4 => ?_) (fun hc4 => ?_)
      · rw [if_pos hc4] at h
        obtain ⟨v5, e_v5, h⟩ := mx_letE h
        refine mx_iinc v5 (L2 := [.ref q0, .int y1, .int y2, .int v5]) (mx_d tX4_roomOf_0 21 rfl) rfl (by rw [e_v5]; rfl) (by decide) rfl ?_
        refine mx_goto (tgt := 8) (mx_d tX4_roomOf_0 22 rfl) (by decide) ?_
        exact ih h hex
      · rw [if_neg hc4] at h
        refine mx_iload_n (mx_d tX4_roomOf_0 15 rfl) rfl rfl ?_
        refine mx_aload_n (mx_d tX4_roomOf_0 16 rfl) rfl rfl ?_
        refine mx_iload_n (mx_d tX4_roomOf_0 17 rfl) rfl rfl ?_
        obtain ⟨r6, h_r6, h⟩ := Option.bind_eq_some_iff.mp h
        refine mx_cVi (mx_d tX4_roomOf_0 18 rfl) iX4_93 rfl vX4_slackOf ⟨_, rfl, rfl⟩ (ly4_o g0) (CX4_slackOf g0 h_r6) (by decide) rfl rfl (Nat.le_of_ble_eq_true rfl) ?_
        obtain ⟨r7, h_r7, h⟩ := Option.bind_eq_some_iff.mp h
        refine mx_cSi (mx_d tX4_roomOf_0 19 rfl) iX4_125 rfl sJ9_min_7cf53 (CJ9_min_7cf53  h_r7) (by decide) rfl rfl (Nat.le_of_ble_eq_true rfl) ?_
        refine mx_istore_n (L2 := [.ref q0, .int y1, .int r7, .int y3]) (mx_d tX4_roomOf_0 20 rfl) rfl (by decide) (by rfl) ?_
        obtain ⟨v8, e_v8, h⟩ := mx_letE h
        refine mx_iinc v8 (L2 := [.ref q0, .int y1, .int r7, .int v8]) (mx_d tX4_roomOf_0 21 rfl) rfl (by rw [e_v8]; rfl) (by decide) rfl ?_
        refine mx_goto (tgt := 8) (mx_d tX4_roomOf_0 22 rfl) (by decide) ?_
        exact ih h hex
def FX4_roomOf (a : Nat) (x0 : Int32) (m : mB) : Option Int32 := Option.bind (FX4_priceOf a x0 m) (fun r1 => Option.bind (FX4_roomOf_L8 a x0 m mx_FU r1 0) (fun q9 => Option.bind (FJ9_max_7cf53 0 q9 m) (fun r10 => (some r10))))
set_option maxRecDepth 20000 in
theorem CX4_roomOf {G : mG} {l : Launch} {e : mE} {a : Nat} {x0 : Int32} {m : mB} {r : Int32} (h0 : ly4 e a) (h : FX4_roomOf a x0 m = some r) : mx_Call G l MX4_roomOf 4 0 0 [.ref a, .int x0] (e, m) (fun v z => v = some (.int r) ∧ z = (e, m)) := by
  refine mx_entry (L := [.ref a, .int x0, .float 0, .float 0]) (by decide +kernel) (Nat.le_of_ble_eq_true rfl) rfl ?_
  unfold FX4_roomOf at h
  refine mx_aload_n (mx_d tX4_roomOf_0 0 rfl) rfl rfl ?_
  refine mx_iload_n (mx_d tX4_roomOf_0 1 rfl) rfl rfl ?_
  obtain ⟨r1, h_r1, h⟩ := Option.bind_eq_some_iff.mp h
  refine mx_cVi (mx_d tX4_roomOf_0 2 rfl) iX4_90 rfl vX4_priceOf ⟨_, rfl, rfl⟩ (ly4_o h0) (CX4_priceOf h0 h_r1) (by decide) rfl rfl (Nat.le_of_ble_eq_true rfl) ?_
  refine mx_istore_n (L2 := [.ref a, .int x0, .int r1, .float 0]) (mx_d tX4_roomOf_0 3 rfl) rfl (by decide) (by rfl) ?_
  refine mx_iconst (0) (mx_d tX4_roomOf_0 4 rfl) (by decide) ?_
  refine mx_istore_n (L2 := [.ref a, .int x0, .int r1, .int 0]) (mx_d tX4_roomOf_0 5 rfl) rfl (by decide) (by rfl) ?_
  obtain ⟨q9, h_q9, h⟩ := Option.bind_eq_some_iff.mp h
  refine CX4_roomOf_L8 h0 mx_FU h_q9 ?_
  refine mx_iconst (0) (mx_d tX4_roomOf_0 23 rfl) (by decide) ?_
  refine mx_iload_n (mx_d tX4_roomOf_0 24 rfl) rfl rfl ?_
  obtain ⟨r10, h_r10, h⟩ := Option.bind_eq_some_iff.mp h
  refine mx_cSi (mx_d tX4_roomOf_0 25 rfl) iX4_130 rfl sJ9_max_7cf53 (CJ9_max_7cf53  h_r10) (by decide) rfl rfl (Nat.le_of_ble_eq_true rfl) ?_
  obtain rfl := Option.some.inj h
  exact mx_ireturn (mx_d tX4_roomOf_0 26 rfl) rfl ⟨rfl, rfl⟩
def FX4_firstLinkBelow_L2 (q0 : Nat) (m : mB) : Nat → Int32 → Option (Int32 ⊕ (Unit))
  | 0, _ => none
  | f + 1, y1 => (if (m.1 q0 1) ≤ y1 then (some (.inr ())) else Option.bind (FX4_slackOf q0 y1 m) (fun r2 => (if 0 ≤ r2 then mx_let (y1 + 1) (fun v4 => (FX4_firstLinkBelow_L2 q0 m f v4)) else (some (.inl y1)))))
set_option maxRecDepth 20000 in
theorem CX4_firstLinkBelow_L2 {G : mG} {l : Launch} {e : mE} {Post : Option Value → mS → Prop} {q0 : Nat} {m : mB} (g0 : ly4 e q0) : ∀ (f : Nat) {y1 : Int32} {q : (Int32 ⊕ (Unit))}, FX4_firstLinkBelow_L2 q0 m f y1 = some q → (∀ rr, q = .inl rr → Post (some (.int rr)) (e, m)) → (∀ u, q = .inr u → mx_Fr G l MX4_firstLinkBelow 4 0 0 Post 26 [.float 0, .float 0] [] (e, m)) → mx_Fr G l MX4_firstLinkBelow 4 0 0 Post 2 [.ref q0, .int y1] [] (e, m) := by
  intro f
  induction f with
  | zero => intro _ _ h; cases h
  | succ f ih =>
    intro y1 q h hret hex
    rw [FX4_firstLinkBelow_L2] at h
    refine mx_iload_n (mx_d tX4_firstLinkBelow_0 2 rfl) rfl rfl ?_
    refine mx_aload_n (mx_d tX4_firstLinkBelow_0 3 rfl) rfl rfl ?_
    refine mx_getI (mx_d tX4_firstLinkBelow_0 4 rfl) fX4_47 rfl (Or.inl rfl) (ly4_o g0) ?_
    refine mx_icmp_ge (tgt := 26) (mx_d tX4_firstLinkBelow_0 5 rfl) (by decide) (fun hc1 => ?_) (fun hc1 => ?_)
    · rw [if_pos hc1] at h
      obtain rfl := Option.some.inj h
      refine mx_forget (L' := [.float 0, .float 0]) trivial ?_
      exact (hex _ rfl)
    · rw [if_neg hc1] at h
      refine mx_aload_n (mx_d tX4_firstLinkBelow_0 6 rfl) rfl rfl ?_
      refine mx_iload_n (mx_d tX4_firstLinkBelow_0 7 rfl) rfl rfl ?_
      obtain ⟨r2, h_r2, h⟩ := Option.bind_eq_some_iff.mp h
      refine mx_cVi (mx_d tX4_firstLinkBelow_0 8 rfl) iX4_93 rfl vX4_slackOf ⟨_, rfl, rfl⟩ (ly4_o g0) (CX4_slackOf g0 h_r2) (by decide) rfl rfl (Nat.le_of_ble_eq_true rfl) ?_
      refine mx_if_ge (tgt := 20) (mx_d tX4_firstLinkBelow_0 9 rfl) (by decide) (fun hc3 => ?_) (fun hc3 => ?_)
      · rw [if_pos hc3] at h
        obtain ⟨v4, e_v4, h⟩ := mx_letE h
        refine mx_iinc v4 (L2 := [.ref q0, .int v4]) (mx_d tX4_firstLinkBelow_0 12 rfl) rfl (by rw [e_v4]; rfl) (by decide) rfl ?_
        refine mx_goto (tgt := 2) (mx_d tX4_firstLinkBelow_0 13 rfl) (by decide) ?_
        exact ih h hret hex
      · rw [if_neg hc3] at h
        refine mx_iload_n (mx_d tX4_firstLinkBelow_0 10 rfl) rfl rfl ?_
        obtain rfl := Option.some.inj h
        exact mx_ireturn (mx_d tX4_firstLinkBelow_0 11 rfl) rfl (hret _ rfl)
def FX4_firstLinkBelow (a : Nat) (m : mB) : Option Int32 := Option.bind (FX4_firstLinkBelow_L2 a m mx_FU 0) (fun q5 => Sum.elim (fun rr => some rr) (fun u6 => (some (-1))) q5)
set_option maxRecDepth 20000 in
theorem CX4_firstLinkBelow {G : mG} {l : Launch} {e : mE} {a : Nat} {m : mB} {r : Int32} (h0 : ly4 e a) (h : FX4_firstLinkBelow a m = some r) : mx_Call G l MX4_firstLinkBelow 4 0 0 [.ref a] (e, m) (fun v z => v = some (.int r) ∧ z = (e, m)) := by
  refine mx_entry (L := [.ref a, .float 0]) (by decide +kernel) (Nat.le_of_ble_eq_true rfl) rfl ?_
  unfold FX4_firstLinkBelow at h
  refine mx_iconst (0) (mx_d tX4_firstLinkBelow_0 0 rfl) (by decide) ?_
  refine mx_istore_n (L2 := [.ref a, .int 0]) (mx_d tX4_firstLinkBelow_0 1 rfl) rfl (by decide) (by rfl) ?_
  obtain ⟨q5, h_q5, h⟩ := Option.bind_eq_some_iff.mp h
  refine CX4_firstLinkBelow_L2 h0 mx_FU h_q5 (fun rr7 e_rr7 => ?_) (fun u6 e_u6 => ?_)
  · subst e_rr7
    rw [Sum.elim_inl] at h
    obtain rfl := Option.some.inj h
    exact ⟨rfl, rfl⟩
  · subst e_u6
    rw [Sum.elim_inr] at h
    refine mx_iconst ((-1)) (mx_d tX4_firstLinkBelow_0 14 rfl) (by decide) ?_
    obtain rfl := Option.some.inj h
    exact mx_ireturn (mx_d tX4_firstLinkBelow_0 15 rfl) rfl ⟨rfl, rfl⟩
def FX4_firstLoosePair_L2 (q0 : Nat) (m : mB) : Nat → Int32 → Option (Int32 ⊕ (Unit))
  | 0, _ => none
  | f + 1, y1 => (if (m.1 q0 1) ≤ y1 then (some (.inr ())) else Option.bind (FX4_isPair q0 y1 m) (fun r2 => (if r2 = 0 then mx_let (y1 + 1) (fun v4 => (FX4_firstLoosePair_L2 q0 m f v4)) else Option.bind (FX4_slackOf q0 y1 m) (fun r5 => (if r5 = 0 then mx_let (y1 + 1) (fun v7 => (FX4_firstLoosePair_L2 q0 m f v7)) else (some (.inl y1)))))))
set_option maxRecDepth 20000 in
theorem CX4_firstLoosePair_L2 {G : mG} {l : Launch} {e : mE} {Post : Option Value → mS → Prop} {q0 : Nat} {m : mB} (g0 : ly4 e q0) : ∀ (f : Nat) {y1 : Int32} {q : (Int32 ⊕ (Unit))}, FX4_firstLoosePair_L2 q0 m f y1 = some q → (∀ rr, q = .inl rr → Post (some (.int rr)) (e, m)) → (∀ u, q = .inr u → mx_Fr G l MX4_firstLoosePair 4 0 0 Post 34 [.float 0, .float 0] [] (e, m)) → mx_Fr G l MX4_firstLoosePair 4 0 0 Post 2 [.ref q0, .int y1] [] (e, m) := by
  intro f
  induction f with
  | zero => intro _ _ h; cases h
  | succ f ih =>
    intro y1 q h hret hex
    rw [FX4_firstLoosePair_L2] at h
    refine mx_iload_n (mx_d tX4_firstLoosePair_0 2 rfl) rfl rfl ?_
    refine mx_aload_n (mx_d tX4_firstLoosePair_0 3 rfl) rfl rfl ?_
    refine mx_getI (mx_d tX4_firstLoosePair_0 4 rfl) fX4_47 rfl (Or.inl rfl) (ly4_o g0) ?_
    refine mx_icmp_ge (tgt := 34) (mx_d tX4_firstLoosePair_0 5 rfl) (by decide) (fun hc1 => ?_) (fun hc1 => ?_)
    · rw [if_pos hc1] at h
      obtain rfl := Option.some.inj h
      refine mx_forget (L' := [.float 0, .float 0]) trivial ?_
      exact (hex _ rfl)
    · rw [if_neg hc1] at h
      refine mx_aload_n (mx_d tX4_firstLoosePair_0 6 rfl) rfl rfl ?_
      refine mx_iload_n (mx_d tX4_firstLoosePair_0 7 rfl) rfl rfl ?_
      obtain ⟨r2, h_r2, h⟩ := Option.bind_eq_some_iff.mp h
      refine mx_cVi (mx_d tX4_firstLoosePair_0 8 rfl) iX4_108 rfl vX4_isPair ⟨_, rfl, rfl⟩ (ly4_o g0) (CX4_isPair g0 h_r2) (by decide) rfl rfl (Nat.le_of_ble_eq_true rfl) ?_
      refine mx_if_eq (tgt := 28) (mx_d tX4_firstLoosePair_0 9 rfl) (by decide) (fun hc3 => ?_) (fun hc3 => ?_)
      · rw [if_pos hc3] at h
        obtain ⟨v4, e_v4, h⟩ := mx_letE h
        refine mx_iinc v4 (L2 := [.ref q0, .int v4]) (mx_d tX4_firstLoosePair_0 16 rfl) rfl (by rw [e_v4]; rfl) (by decide) rfl ?_
        refine mx_goto (tgt := 2) (mx_d tX4_firstLoosePair_0 17 rfl) (by decide) ?_
        exact ih h hret hex
      · rw [if_neg hc3] at h
        refine mx_aload_n (mx_d tX4_firstLoosePair_0 10 rfl) rfl rfl ?_
        refine mx_iload_n (mx_d tX4_firstLoosePair_0 11 rfl) rfl rfl ?_
        obtain ⟨r5, h_r5, h⟩ := Option.bind_eq_some_iff.mp h
        refine mx_cVi (mx_d tX4_firstLoosePair_0 12 rfl) iX4_93 rfl vX4_slackOf ⟨_, rfl, rfl⟩ (ly4_o g0) (CX4_slackOf g0 h_r5) (by decide) rfl rfl (Nat.le_of_ble_eq_true rfl) ?_
        refine mx_if_eq (tgt := 28) (mx_d tX4_firstLoosePair_0 13 rfl) (by decide) (fun hc6 => ?_) (fun hc6 => ?_)
        · rw [if_pos hc6] at h
          obtain ⟨v7, e_v7, h⟩ := mx_letE h
          refine mx_iinc v7 (L2 := [.ref q0, .int v7]) (mx_d tX4_firstLoosePair_0 16 rfl) rfl (by rw [e_v7]; rfl) (by decide) rfl ?_
          refine mx_goto (tgt := 2) (mx_d tX4_firstLoosePair_0 17 rfl) (by decide) ?_
          exact ih h hret hex
        · rw [if_neg hc6] at h
          refine mx_iload_n (mx_d tX4_firstLoosePair_0 14 rfl) rfl rfl ?_
          obtain rfl := Option.some.inj h
          exact mx_ireturn (mx_d tX4_firstLoosePair_0 15 rfl) rfl (hret _ rfl)
def FX4_firstLoosePair (a : Nat) (m : mB) : Option Int32 := Option.bind (FX4_firstLoosePair_L2 a m mx_FU 0) (fun q8 => Sum.elim (fun rr => some rr) (fun u9 => (some (-1))) q8)
set_option maxRecDepth 20000 in
theorem CX4_firstLoosePair {G : mG} {l : Launch} {e : mE} {a : Nat} {m : mB} {r : Int32} (h0 : ly4 e a) (h : FX4_firstLoosePair a m = some r) : mx_Call G l MX4_firstLoosePair 4 0 0 [.ref a] (e, m) (fun v z => v = some (.int r) ∧ z = (e, m)) := by
  refine mx_entry (L := [.ref a, .float 0]) (by decide +kernel) (Nat.le_of_ble_eq_true rfl) rfl ?_
  unfold FX4_firstLoosePair at h
  refine mx_iconst (0) (mx_d tX4_firstLoosePair_0 0 rfl) (by decide) ?_
  refine mx_istore_n (L2 := [.ref a, .int 0]) (mx_d tX4_firstLoosePair_0 1 rfl) rfl (by decide) (by rfl) ?_
  obtain ⟨q8, h_q8, h⟩ := Option.bind_eq_some_iff.mp h
  refine CX4_firstLoosePair_L2 h0 mx_FU h_q8 (fun rr10 e_rr10 => ?_) (fun u9 e_u9 => ?_)
  · subst e_rr10
    rw [Sum.elim_inl] at h
    obtain rfl := Option.some.inj h
    exact ⟨rfl, rfl⟩
  · subst e_u9
    rw [Sum.elim_inr] at h
    refine mx_iconst ((-1)) (mx_d tX4_firstLoosePair_0 18 rfl) (by decide) ?_
    obtain rfl := Option.some.inj h
    exact mx_ireturn (mx_d tX4_firstLoosePair_0 19 rfl) rfl ⟨rfl, rfl⟩
def FX4_firstPricedLone_L2 (q0 : Nat) (m : mB) : Nat → Int32 → Option (Int32 ⊕ (Unit))
  | 0, _ => none
  | f + 1, y1 => (if (m.1 q0 0) ≤ y1 then (some (.inr ())) else Option.bind (FX4_isLone q0 y1 m) (fun r2 => (if r2 = 0 then mx_let (y1 + 1) (fun v4 => (FX4_firstPricedLone_L2 q0 m f v4)) else Option.bind (FX4_priceOf q0 y1 m) (fun r5 => (if r5 ≤ 0 then mx_let (y1 + 1) (fun v7 => (FX4_firstPricedLone_L2 q0 m f v7)) else (some (.inl y1)))))))
set_option maxRecDepth 20000 in
theorem CX4_firstPricedLone_L2 {G : mG} {l : Launch} {e : mE} {Post : Option Value → mS → Prop} {q0 : Nat} {m : mB} (g0 : ly4 e q0) : ∀ (f : Nat) {y1 : Int32} {q : (Int32 ⊕ (Unit))}, FX4_firstPricedLone_L2 q0 m f y1 = some q → (∀ rr, q = .inl rr → Post (some (.int rr)) (e, m)) → (∀ u, q = .inr u → mx_Fr G l MX4_firstPricedLone 3 0 0 Post 34 [.float 0, .float 0] [] (e, m)) → mx_Fr G l MX4_firstPricedLone 3 0 0 Post 2 [.ref q0, .int y1] [] (e, m) := by
  intro f
  induction f with
  | zero => intro _ _ h; cases h
  | succ f ih =>
    intro y1 q h hret hex
    rw [FX4_firstPricedLone_L2] at h
    refine mx_iload_n (mx_d tX4_firstPricedLone_0 2 rfl) rfl rfl ?_
    refine mx_aload_n (mx_d tX4_firstPricedLone_0 3 rfl) rfl rfl ?_
    refine mx_getI (mx_d tX4_firstPricedLone_0 4 rfl) fX4_43 rfl (Or.inl rfl) (ly4_o g0) ?_
    refine mx_icmp_ge (tgt := 34) (mx_d tX4_firstPricedLone_0 5 rfl) (by decide) (fun hc1 => ?_) (fun hc1 => ?_)
    · rw [if_pos hc1] at h
      obtain rfl := Option.some.inj h
      refine mx_forget (L' := [.float 0, .float 0]) trivial ?_
      exact (hex _ rfl)
    · rw [if_neg hc1] at h
      refine mx_aload_n (mx_d tX4_firstPricedLone_0 6 rfl) rfl rfl ?_
      refine mx_iload_n (mx_d tX4_firstPricedLone_0 7 rfl) rfl rfl ?_
      obtain ⟨r2, h_r2, h⟩ := Option.bind_eq_some_iff.mp h
      refine mx_cVi (mx_d tX4_firstPricedLone_0 8 rfl) iX4_105 rfl vX4_isLone ⟨_, rfl, rfl⟩ (ly4_o g0) (CX4_isLone g0 h_r2) (by decide) rfl rfl (Nat.le_of_ble_eq_true rfl) ?_
      refine mx_if_eq (tgt := 28) (mx_d tX4_firstPricedLone_0 9 rfl) (by decide) (fun hc3 => ?_) (fun hc3 => ?_)
      · rw [if_pos hc3] at h
        obtain ⟨v4, e_v4, h⟩ := mx_letE h
        refine mx_iinc v4 (L2 := [.ref q0, .int v4]) (mx_d tX4_firstPricedLone_0 16 rfl) rfl (by rw [e_v4]; rfl) (by decide) rfl ?_
        refine mx_goto (tgt := 2) (mx_d tX4_firstPricedLone_0 17 rfl) (by decide) ?_
        exact ih h hret hex
      · rw [if_neg hc3] at h
        refine mx_aload_n (mx_d tX4_firstPricedLone_0 10 rfl) rfl rfl ?_
        refine mx_iload_n (mx_d tX4_firstPricedLone_0 11 rfl) rfl rfl ?_
        obtain ⟨r5, h_r5, h⟩ := Option.bind_eq_some_iff.mp h
        refine mx_cVi (mx_d tX4_firstPricedLone_0 12 rfl) iX4_90 rfl vX4_priceOf ⟨_, rfl, rfl⟩ (ly4_o g0) (CX4_priceOf g0 h_r5) (by decide) rfl rfl (Nat.le_of_ble_eq_true rfl) ?_
        refine mx_if_le (tgt := 28) (mx_d tX4_firstPricedLone_0 13 rfl) (by decide) (fun hc6 => ?_) (fun hc6 => ?_)
        · rw [if_pos hc6] at h
          obtain ⟨v7, e_v7, h⟩ := mx_letE h
          refine mx_iinc v7 (L2 := [.ref q0, .int v7]) (mx_d tX4_firstPricedLone_0 16 rfl) rfl (by rw [e_v7]; rfl) (by decide) rfl ?_
          refine mx_goto (tgt := 2) (mx_d tX4_firstPricedLone_0 17 rfl) (by decide) ?_
          exact ih h hret hex
        · rw [if_neg hc6] at h
          refine mx_iload_n (mx_d tX4_firstPricedLone_0 14 rfl) rfl rfl ?_
          obtain rfl := Option.some.inj h
          exact mx_ireturn (mx_d tX4_firstPricedLone_0 15 rfl) rfl (hret _ rfl)
def FX4_firstPricedLone (a : Nat) (m : mB) : Option Int32 := Option.bind (FX4_firstPricedLone_L2 a m mx_FU 0) (fun q8 => Sum.elim (fun rr => some rr) (fun u9 => (some (-1))) q8)
set_option maxRecDepth 20000 in
theorem CX4_firstPricedLone {G : mG} {l : Launch} {e : mE} {a : Nat} {m : mB} {r : Int32} (h0 : ly4 e a) (h : FX4_firstPricedLone a m = some r) : mx_Call G l MX4_firstPricedLone 3 0 0 [.ref a] (e, m) (fun v z => v = some (.int r) ∧ z = (e, m)) := by
  refine mx_entry (L := [.ref a, .float 0]) (by decide +kernel) (Nat.le_of_ble_eq_true rfl) rfl ?_
  unfold FX4_firstPricedLone at h
  refine mx_iconst (0) (mx_d tX4_firstPricedLone_0 0 rfl) (by decide) ?_
  refine mx_istore_n (L2 := [.ref a, .int 0]) (mx_d tX4_firstPricedLone_0 1 rfl) rfl (by decide) (by rfl) ?_
  obtain ⟨q8, h_q8, h⟩ := Option.bind_eq_some_iff.mp h
  refine CX4_firstPricedLone_L2 h0 mx_FU h_q8 (fun rr10 e_rr10 => ?_) (fun u9 e_u9 => ?_)
  · subst e_rr10
    rw [Sum.elim_inl] at h
    obtain rfl := Option.some.inj h
    exact ⟨rfl, rfl⟩
  · subst e_u9
    rw [Sum.elim_inr] at h
    refine mx_iconst ((-1)) (mx_d tX4_firstPricedLone_0 18 rfl) (by decide) ?_
    obtain rfl := Option.some.inj h
    exact mx_ireturn (mx_d tX4_firstPricedLone_0 19 rfl) rfl ⟨rfl, rfl⟩
def FX4_firstCrownedUnfilled_L2 (q0 : Nat) (m : mB) : Nat → Int32 → Option (Int32 ⊕ (Unit))
  | 0, _ => none
  | f + 1, y1 => (if (m.1 q0 2) ≤ y1 then (some (.inr ())) else Option.bind (FX4_crownOf q0 y1 m) (fun r2 => (if r2 ≤ 0 then mx_let (y1 + 1) (fun v4 => (FX4_firstCrownedUnfilled_L2 q0 m f v4)) else Option.bind (FX4_pairsWithin q0 y1 m) (fun r5 => Option.bind (FX4_fullPairs q0 y1 m) (fun r6 => (if r6 ≤ r5 then mx_let (y1 + 1) (fun v8 => (FX4_firstCrownedUnfilled_L2 q0 m f v8)) else (some (.inl y1))))))))
set_option maxRecDepth 20000 in
theorem CX4_firstCrownedUnfilled_L2 {G : mG} {l : Launch} {e : mE} {Post : Option Value → mS → Prop} {q0 : Nat} {m : mB} (g0 : ly4 e q0) : ∀ (f : Nat) {y1 : Int32} {q : (Int32 ⊕ (Unit))}, FX4_firstCrownedUnfilled_L2 q0 m f y1 = some q → (∀ rr, q = .inl rr → Post (some (.int rr)) (e, m)) → (∀ u, q = .inr u → mx_Fr G l MX4_firstCrownedUnfilled 5 0 0 Post 39 [.float 0, .float 0] [] (e, m)) → mx_Fr G l MX4_firstCrownedUnfilled 5 0 0 Post 2 [.ref q0, .int y1] [] (e, m) := by
  intro f
  induction f with
  | zero => intro _ _ h; cases h
  | succ f ih =>
    intro y1 q h hret hex
    rw [FX4_firstCrownedUnfilled_L2] at h
    refine mx_iload_n (mx_d tX4_firstCrownedUnfilled_0 2 rfl) rfl rfl ?_
    refine mx_aload_n (mx_d tX4_firstCrownedUnfilled_0 3 rfl) rfl rfl ?_
    refine mx_getI (mx_d tX4_firstCrownedUnfilled_0 4 rfl) fX4_50 rfl (Or.inl rfl) (ly4_o g0) ?_
    refine mx_icmp_ge (tgt := 39) (mx_d tX4_firstCrownedUnfilled_0 5 rfl) (by decide) (fun hc1 => ?_) (fun hc1 => ?_)
    · rw [if_pos hc1] at h
      obtain rfl := Option.some.inj h
      refine mx_forget (L' := [.float 0, .float 0]) trivial ?_
      exact (hex _ rfl)
    · rw [if_neg hc1] at h
      refine mx_aload_n (mx_d tX4_firstCrownedUnfilled_0 6 rfl) rfl rfl ?_
      refine mx_iload_n (mx_d tX4_firstCrownedUnfilled_0 7 rfl) rfl rfl ?_
      obtain ⟨r2, h_r2, h⟩ := Option.bind_eq_some_iff.mp h
      refine mx_cVi (mx_d tX4_firstCrownedUnfilled_0 8 rfl) iX4_119 rfl vX4_crownOf ⟨_, rfl, rfl⟩ (ly4_o g0) (CX4_crownOf g0 h_r2) (by decide) rfl rfl (Nat.le_of_ble_eq_true rfl) ?_
      refine mx_if_le (tgt := 33) (mx_d tX4_firstCrownedUnfilled_0 9 rfl) (by decide) (fun hc3 => ?_) (fun hc3 => ?_)
      · rw [if_pos hc3] at h
        obtain ⟨v4, e_v4, h⟩ := mx_letE h
        refine mx_iinc v4 (L2 := [.ref q0, .int v4]) (mx_d tX4_firstCrownedUnfilled_0 19 rfl) rfl (by rw [e_v4]; rfl) (by decide) rfl ?_
        refine mx_goto (tgt := 2) (mx_d tX4_firstCrownedUnfilled_0 20 rfl) (by decide) ?_
        exact ih h hret hex
      · rw [if_neg hc3] at h
        refine mx_aload_n (mx_d tX4_firstCrownedUnfilled_0 10 rfl) rfl rfl ?_
        refine mx_iload_n (mx_d tX4_firstCrownedUnfilled_0 11 rfl) rfl rfl ?_
        obtain ⟨r5, h_r5, h⟩ := Option.bind_eq_some_iff.mp h
        refine mx_cVi (mx_d tX4_firstCrownedUnfilled_0 12 rfl) iX4_133 rfl vX4_pairsWithin ⟨_, rfl, rfl⟩ (ly4_o g0) (CX4_pairsWithin g0 h_r5) (by decide) rfl rfl (Nat.le_of_ble_eq_true rfl) ?_
        refine mx_aload_n (mx_d tX4_firstCrownedUnfilled_0 13 rfl) rfl rfl ?_
        refine mx_iload_n (mx_d tX4_firstCrownedUnfilled_0 14 rfl) rfl rfl ?_
        obtain ⟨r6, h_r6, h⟩ := Option.bind_eq_some_iff.mp h
        refine mx_cVi (mx_d tX4_firstCrownedUnfilled_0 15 rfl) iX4_122 rfl vX4_fullPairs ⟨_, rfl, rfl⟩ (ly4_o g0) (CX4_fullPairs g0 h_r6) (by decide) rfl rfl (Nat.le_of_ble_eq_true rfl) ?_
        refine mx_icmp_ge (tgt := 33) (mx_d tX4_firstCrownedUnfilled_0 16 rfl) (by decide) (fun hc7 => ?_) (fun hc7 => ?_)
        · rw [if_pos hc7] at h
          obtain ⟨v8, e_v8, h⟩ := mx_letE h
          refine mx_iinc v8 (L2 := [.ref q0, .int v8]) (mx_d tX4_firstCrownedUnfilled_0 19 rfl) rfl (by rw [e_v8]; rfl) (by decide) rfl ?_
          refine mx_goto (tgt := 2) (mx_d tX4_firstCrownedUnfilled_0 20 rfl) (by decide) ?_
          exact ih h hret hex
        · rw [if_neg hc7] at h
          refine mx_iload_n (mx_d tX4_firstCrownedUnfilled_0 17 rfl) rfl rfl ?_
          obtain rfl := Option.some.inj h
          exact mx_ireturn (mx_d tX4_firstCrownedUnfilled_0 18 rfl) rfl (hret _ rfl)
def FX4_firstCrownedUnfilled (a : Nat) (m : mB) : Option Int32 := Option.bind (FX4_firstCrownedUnfilled_L2 a m mx_FU 0) (fun q9 => Sum.elim (fun rr => some rr) (fun u10 => (some (-1))) q9)
set_option maxRecDepth 20000 in
theorem CX4_firstCrownedUnfilled {G : mG} {l : Launch} {e : mE} {a : Nat} {m : mB} {r : Int32} (h0 : ly4 e a) (h : FX4_firstCrownedUnfilled a m = some r) : mx_Call G l MX4_firstCrownedUnfilled 5 0 0 [.ref a] (e, m) (fun v z => v = some (.int r) ∧ z = (e, m)) := by
  refine mx_entry (L := [.ref a, .float 0]) (by decide +kernel) (Nat.le_of_ble_eq_true rfl) rfl ?_
  unfold FX4_firstCrownedUnfilled at h
  refine mx_iconst (0) (mx_d tX4_firstCrownedUnfilled_0 0 rfl) (by decide) ?_
  refine mx_istore_n (L2 := [.ref a, .int 0]) (mx_d tX4_firstCrownedUnfilled_0 1 rfl) rfl (by decide) (by rfl) ?_
  obtain ⟨q9, h_q9, h⟩ := Option.bind_eq_some_iff.mp h
  refine CX4_firstCrownedUnfilled_L2 h0 mx_FU h_q9 (fun rr11 e_rr11 => ?_) (fun u10 e_u10 => ?_)
  · subst e_rr11
    rw [Sum.elim_inl] at h
    obtain rfl := Option.some.inj h
    exact ⟨rfl, rfl⟩
  · subst e_u10
    rw [Sum.elim_inr] at h
    refine mx_iconst ((-1)) (mx_d tX4_firstCrownedUnfilled_0 21 rfl) (by decide) ?_
    obtain rfl := Option.some.inj h
    exact mx_ireturn (mx_d tX4_firstCrownedUnfilled_0 22 rfl) rfl ⟨rfl, rfl⟩
def FX4_pairUp (a : Nat) (x0 : Int32) (x1 : Int32) (m : mB) : Option (Int32 × mB) := Option.bind (FX4_areLinked a x0 x1 m) (fun r1 => (if r1 = 0 then (some (1, m)) else mx_chk (mx_inb x0 10) ((if (m.1 (a + 3) (Int32.toNatClampNeg x0)) = (-1) then mx_chk (mx_inb x1 10) ((if (m.1 (a + 3) (Int32.toNatClampNeg x1)) = (-1) then mx_let (mx_up m.1 (a + 3) (Int32.toNatClampNeg x0) x1, m.2) (fun m7 => mx_let (mx_up m7.1 (a + 3) (Int32.toNatClampNeg x1) x0, m7.2) (fun m8 => (some (0, m8)))) else (some (2, m)))) else (some (2, m))))))
set_option maxRecDepth 20000 in
theorem CX4_pairUp {G : mG} {l : Launch} {e : mE} {a : Nat} {x0 : Int32} {x1 : Int32} {m : mB} {r : (Int32 × mB)} (h0 : ly4 e a) (h : FX4_pairUp a x0 x1 m = some r) : mx_Call G l MX4_pairUp 3 0 0 [.ref a, .int x0, .int x1] (e, m) (fun v z => v = some (.int r.1) ∧ z = (e, r.2)) := by
  refine mx_entry (L := [.ref a, .int x0, .int x1]) (by decide +kernel) (Nat.le_of_ble_eq_true rfl) rfl ?_
  unfold FX4_pairUp at h
  refine mx_aload_n (mx_d tX4_pairUp_0 0 rfl) rfl rfl ?_
  refine mx_iload_n (mx_d tX4_pairUp_0 1 rfl) rfl rfl ?_
  refine mx_iload_n (mx_d tX4_pairUp_0 2 rfl) rfl rfl ?_
  obtain ⟨r1, h_r1, h⟩ := Option.bind_eq_some_iff.mp h
  refine mx_cVi (mx_d tX4_pairUp_0 3 rfl) iX4_136 rfl vX4_areLinked ⟨_, rfl, rfl⟩ (ly4_o h0) (CX4_areLinked h0 h_r1) (by decide) rfl rfl (Nat.le_of_ble_eq_true rfl) ?_
  refine mx_if_ne (tgt := 11) (mx_d tX4_pairUp_0 4 rfl) (by decide) (fun hc2 => ?_) (fun hc2 => ?_)
  · rw [if_neg hc2] at h
    refine mx_aload_n (mx_d tX4_pairUp_0 7 rfl) rfl rfl ?_
    refine mx_getR (mx_d tX4_pairUp_0 8 rfl) fX4_19 rfl rfl (ly4_o h0) (ly4_r7 h0) ?_
    refine mx_iload_n (mx_d tX4_pairUp_0 9 rfl) rfl rfl ?_
    obtain ⟨hi3, h⟩ := mx_chkE h
    refine mx_iaload (mx_d tX4_pairUp_0 10 rfl) (ly4_s7 h0) (mx_inbE hi3) ?_
    refine mx_iconst ((-1)) (mx_d tX4_pairUp_0 11 rfl) (by decide) ?_
    refine mx_icmp_ne (tgt := 31) (mx_d tX4_pairUp_0 12 rfl) (by decide) (fun hc4 => ?_) (fun hc4 => ?_)
    · rw [if_neg hc4] at h
      refine mx_iconst (2) (mx_d tX4_pairUp_0 19 rfl) (by decide) ?_
      obtain rfl := Option.some.inj h
      exact mx_ireturn (mx_d tX4_pairUp_0 20 rfl) rfl ⟨rfl, rfl⟩
    · rw [if_pos hc4] at h
      refine mx_aload_n (mx_d tX4_pairUp_0 13 rfl) rfl rfl ?_
      refine mx_getR (mx_d tX4_pairUp_0 14 rfl) fX4_19 rfl rfl (ly4_o h0) (ly4_r7 h0) ?_
      refine mx_iload_n (mx_d tX4_pairUp_0 15 rfl) rfl rfl ?_
      obtain ⟨hi5, h⟩ := mx_chkE h
      refine mx_iaload (mx_d tX4_pairUp_0 16 rfl) (ly4_s7 h0) (mx_inbE hi5) ?_
      refine mx_iconst ((-1)) (mx_d tX4_pairUp_0 17 rfl) (by decide) ?_
      refine mx_icmp_eq (tgt := 33) (mx_d tX4_pairUp_0 18 rfl) (by decide) (fun hc6 => ?_) (fun hc6 => ?_)
      · rw [if_pos hc6] at h
        refine mx_aload_n (mx_d tX4_pairUp_0 21 rfl) rfl rfl ?_
        refine mx_getR (mx_d tX4_pairUp_0 22 rfl) fX4_19 rfl rfl (ly4_o h0) (ly4_r7 h0) ?_
        refine mx_iload_n (mx_d tX4_pairUp_0 23 rfl) rfl rfl ?_
        refine mx_iload_n (mx_d tX4_pairUp_0 24 rfl) rfl rfl ?_
        obtain ⟨m7, e_m7, h⟩ := mx_letE h
        refine mx_iastore (mx_d tX4_pairUp_0 25 rfl) (ly4_s7 h0) (mx_inbE hi3) (mx_eqz (z' := (e, m7)) (by rw [e_m7]) ?_)
        refine mx_aload_n (mx_d tX4_pairUp_0 26 rfl) rfl rfl ?_
        refine mx_getR (mx_d tX4_pairUp_0 27 rfl) fX4_19 rfl rfl (ly4_o h0) (ly4_r7 h0) ?_
        refine mx_iload_n (mx_d tX4_pairUp_0 28 rfl) rfl rfl ?_
        refine mx_iload_n (mx_d tX4_pairUp_0 29 rfl) rfl rfl ?_
        obtain ⟨m8, e_m8, h⟩ := mx_letE h
        refine mx_iastore (mx_d tX4_pairUp_0 30 rfl) (ly4_s7 h0) (mx_inbE hi5) (mx_eqz (z' := (e, m8)) (by rw [e_m8]) ?_)
        refine mx_iconst (0) (mx_d tX4_pairUp_0 31 rfl) (by decide) ?_
        obtain rfl := Option.some.inj h
        exact mx_ireturn (mx_d tX4_pairUp_0 32 rfl) rfl ⟨rfl, rfl⟩
      · rw [if_neg hc6] at h
        refine mx_iconst (2) (mx_d tX4_pairUp_0 19 rfl) (by decide) ?_
        obtain rfl := Option.some.inj h
        exact mx_ireturn (mx_d tX4_pairUp_0 20 rfl) rfl ⟨rfl, rfl⟩
  · rw [if_pos hc2] at h
    refine mx_iconst (1) (mx_d tX4_pairUp_0 5 rfl) (by decide) ?_
    obtain rfl := Option.some.inj h
    exact mx_ireturn (mx_d tX4_pairUp_0 6 rfl) rfl ⟨rfl, rfl⟩
def FX4_partFrom (a : Nat) (x0 : Int32) (m : mB) : Option (Int32 × mB) := Option.bind (FX4_partnerOf a x0 m) (fun r1 => Option.bind (FX4_hasPoint a x0 m) (fun r2 => (if r2 = 0 then (some (1, m)) else Option.bind (FX4_hasPoint a r1 m) (fun r4 => (if r4 = 0 then (some (1, m)) else mx_chk (mx_inb x0 10) (mx_let (mx_up m.1 (a + 3) (Int32.toNatClampNeg x0) (-1), m.2) (fun m6 => mx_chk (mx_inb r1 10) (mx_let (mx_up m6.1 (a + 3) (Int32.toNatClampNeg r1) (-1), m6.2) (fun m8 => (some (0, m8)))))))))))
set_option maxRecDepth 20000 in
theorem CX4_partFrom {G : mG} {l : Launch} {e : mE} {a : Nat} {x0 : Int32} {m : mB} {r : (Int32 × mB)} (h0 : ly4 e a) (h : FX4_partFrom a x0 m = some r) : mx_Call G l MX4_partFrom 3 0 0 [.ref a, .int x0] (e, m) (fun v z => v = some (.int r.1) ∧ z = (e, r.2)) := by
  refine mx_entry (L := [.ref a, .int x0, .float 0]) (by decide +kernel) (Nat.le_of_ble_eq_true rfl) rfl ?_
  unfold FX4_partFrom at h
  refine mx_aload_n (mx_d tX4_partFrom_0 0 rfl) rfl rfl ?_
  refine mx_iload_n (mx_d tX4_partFrom_0 1 rfl) rfl rfl ?_
  obtain ⟨r1, h_r1, h⟩ := Option.bind_eq_some_iff.mp h
  refine mx_cVi (mx_d tX4_partFrom_0 2 rfl) iX4_76 rfl vX4_partnerOf ⟨_, rfl, rfl⟩ (ly4_o h0) (CX4_partnerOf h0 h_r1) (by decide) rfl rfl (Nat.le_of_ble_eq_true rfl) ?_
  refine mx_istore_n (L2 := [.ref a, .int x0, .int r1]) (mx_d tX4_partFrom_0 3 rfl) rfl (by decide) (by rfl) ?_
  refine mx_aload_n (mx_d tX4_partFrom_0 4 rfl) rfl rfl ?_
  refine mx_iload_n (mx_d tX4_partFrom_0 5 rfl) rfl rfl ?_
  obtain ⟨r2, h_r2, h⟩ := Option.bind_eq_some_iff.mp h
  refine mx_cVi (mx_d tX4_partFrom_0 6 rfl) iX4_69 rfl vX4_hasPoint ⟨_, rfl, rfl⟩ (ly4_o h0) (CX4_hasPoint h0 h_r2) (by decide) rfl rfl (Nat.le_of_ble_eq_true rfl) ?_
  refine mx_if_eq (tgt := 22) (mx_d tX4_partFrom_0 7 rfl) (by decide) (fun hc3 => ?_) (fun hc3 => ?_)
  · rw [if_pos hc3] at h
    refine mx_iconst (1) (mx_d tX4_partFrom_0 12 rfl) (by decide) ?_
    obtain rfl := Option.some.inj h
    exact mx_ireturn (mx_d tX4_partFrom_0 13 rfl) rfl ⟨rfl, rfl⟩
  · rw [if_neg hc3] at h
    refine mx_aload_n (mx_d tX4_partFrom_0 8 rfl) rfl rfl ?_
    refine mx_iload_n (mx_d tX4_partFrom_0 9 rfl) rfl rfl ?_
    obtain ⟨r4, h_r4, h⟩ := Option.bind_eq_some_iff.mp h
    refine mx_cVi (mx_d tX4_partFrom_0 10 rfl) iX4_69 rfl vX4_hasPoint ⟨_, rfl, rfl⟩ (ly4_o h0) (CX4_hasPoint h0 h_r4) (by decide) rfl rfl (Nat.le_of_ble_eq_true rfl) ?_
    refine mx_if_ne (tgt := 24) (mx_d tX4_partFrom_0 11 rfl) (by decide) (fun hc5 => ?_) (fun hc5 => ?_)
    · rw [if_neg hc5] at h
      refine mx_aload_n (mx_d tX4_partFrom_0 14 rfl) rfl rfl ?_
      refine mx_getR (mx_d tX4_partFrom_0 15 rfl) fX4_19 rfl rfl (ly4_o h0) (ly4_r7 h0) ?_
      refine mx_iload_n (mx_d tX4_partFrom_0 16 rfl) rfl rfl ?_
      refine mx_iconst ((-1)) (mx_d tX4_partFrom_0 17 rfl) (by decide) ?_
      obtain ⟨hi7, h⟩ := mx_chkE h
      obtain ⟨m6, e_m6, h⟩ := mx_letE h
      refine mx_iastore (mx_d tX4_partFrom_0 18 rfl) (ly4_s7 h0) (mx_inbE hi7) (mx_eqz (z' := (e, m6)) (by rw [e_m6]) ?_)
      refine mx_aload_n (mx_d tX4_partFrom_0 19 rfl) rfl rfl ?_
      refine mx_getR (mx_d tX4_partFrom_0 20 rfl) fX4_19 rfl rfl (ly4_o h0) (ly4_r7 h0) ?_
      refine mx_iload_n (mx_d tX4_partFrom_0 21 rfl) rfl rfl ?_
      refine mx_iconst ((-1)) (mx_d tX4_partFrom_0 22 rfl) (by decide) ?_
      obtain ⟨hi9, h⟩ := mx_chkE h
      obtain ⟨m8, e_m8, h⟩ := mx_letE h
      refine mx_iastore (mx_d tX4_partFrom_0 23 rfl) (ly4_s7 h0) (mx_inbE hi9) (mx_eqz (z' := (e, m8)) (by rw [e_m8]) ?_)
      refine mx_iconst (0) (mx_d tX4_partFrom_0 24 rfl) (by decide) ?_
      obtain rfl := Option.some.inj h
      exact mx_ireturn (mx_d tX4_partFrom_0 25 rfl) rfl ⟨rfl, rfl⟩
    · rw [if_pos hc5] at h
      refine mx_iconst (1) (mx_d tX4_partFrom_0 12 rfl) (by decide) ?_
      obtain rfl := Option.some.inj h
      exact mx_ireturn (mx_d tX4_partFrom_0 13 rfl) rfl ⟨rfl, rfl⟩
def FX4_weighAnew (a : Nat) (x0 : Int32) (x1 : Int32) (x2 : Int32) (m : mB) : Option (Int32 × mB) := Option.bind (FX4_linkOf a x0 x1 m) (fun r1 => Option.bind (FX4_hasLink a r1 m) (fun r2 => (if r2 = 0 then (some (1, m)) else mx_chk (mx_inb r1 30) ((if (m.1 (a + 7) (Int32.toNatClampNeg r1)) = x2 then (some (2, m)) else mx_let (mx_up m.1 (a + 7) (Int32.toNatClampNeg r1) x2, m.2) (fun m6 => (some (0, m6))))))))
set_option maxRecDepth 20000 in
theorem CX4_weighAnew {G : mG} {l : Launch} {e : mE} {a : Nat} {x0 : Int32} {x1 : Int32} {x2 : Int32} {m : mB} {r : (Int32 × mB)} (h0 : ly4 e a) (h : FX4_weighAnew a x0 x1 x2 m = some r) : mx_Call G l MX4_weighAnew 3 0 0 [.ref a, .int x0, .int x1, .int x2] (e, m) (fun v z => v = some (.int r.1) ∧ z = (e, r.2)) := by
  refine mx_entry (L := [.ref a, .int x0, .int x1, .int x2, .float 0]) (by decide +kernel) (Nat.le_of_ble_eq_true rfl) rfl ?_
  unfold FX4_weighAnew at h
  refine mx_aload_n (mx_d tX4_weighAnew_0 0 rfl) rfl rfl ?_
  refine mx_iload_n (mx_d tX4_weighAnew_0 1 rfl) rfl rfl ?_
  refine mx_iload_n (mx_d tX4_weighAnew_0 2 rfl) rfl rfl ?_
  obtain ⟨r1, h_r1, h⟩ := Option.bind_eq_some_iff.mp h
  refine mx_cVi (mx_d tX4_weighAnew_0 3 rfl) iX4_83 rfl vX4_linkOf ⟨_, rfl, rfl⟩ (ly4_o h0) (CX4_linkOf h0 h_r1) (by decide) rfl rfl (Nat.le_of_ble_eq_true rfl) ?_
  refine mx_istore (L2 := [.ref a, .int x0, .int x1, .int x2, .int r1]) (mx_d tX4_weighAnew_0 4 rfl) (by decide) (by rfl) ?_
  refine mx_aload_n (mx_d tX4_weighAnew_0 5 rfl) rfl rfl ?_
  refine mx_iload (mx_d tX4_weighAnew_0 6 rfl) rfl ?_
  obtain ⟨r2, h_r2, h⟩ := Option.bind_eq_some_iff.mp h
  refine mx_cVi (mx_d tX4_weighAnew_0 7 rfl) iX4_73 rfl vX4_hasLink ⟨_, rfl, rfl⟩ (ly4_o h0) (CX4_hasLink h0 h_r2) (by decide) rfl rfl (Nat.le_of_ble_eq_true rfl) ?_
  refine mx_if_ne (tgt := 19) (mx_d tX4_weighAnew_0 8 rfl) (by decide) (fun hc3 => ?_) (fun hc3 => ?_)
  · rw [if_neg hc3] at h
    refine mx_aload_n (mx_d tX4_weighAnew_0 11 rfl) rfl rfl ?_
    refine mx_getR (mx_d tX4_weighAnew_0 12 rfl) fX4_31 rfl rfl (ly4_o h0) (ly4_r11 h0) ?_
    refine mx_iload (mx_d tX4_weighAnew_0 13 rfl) rfl ?_
    obtain ⟨hi4, h⟩ := mx_chkE h
    refine mx_iaload (mx_d tX4_weighAnew_0 14 rfl) (ly4_s11 h0) (mx_inbE hi4) ?_
    refine mx_iload_n (mx_d tX4_weighAnew_0 15 rfl) rfl rfl ?_
    refine mx_icmp_ne (tgt := 32) (mx_d tX4_weighAnew_0 16 rfl) (by decide) (fun hc5 => ?_) (fun hc5 => ?_)
    · rw [if_neg hc5] at h
      refine mx_aload_n (mx_d tX4_weighAnew_0 19 rfl) rfl rfl ?_
      refine mx_getR (mx_d tX4_weighAnew_0 20 rfl) fX4_31 rfl rfl (ly4_o h0) (ly4_r11 h0) ?_
      refine mx_iload (mx_d tX4_weighAnew_0 21 rfl) rfl ?_
      refine mx_iload_n (mx_d tX4_weighAnew_0 22 rfl) rfl rfl ?_
      obtain ⟨m6, e_m6, h⟩ := mx_letE h
      refine mx_iastore (mx_d tX4_weighAnew_0 23 rfl) (ly4_s11 h0) (mx_inbE hi4) (mx_eqz (z' := (e, m6)) (by rw [e_m6]) ?_)
      refine mx_iconst (0) (mx_d tX4_weighAnew_0 24 rfl) (by decide) ?_
      obtain rfl := Option.some.inj h
      exact mx_ireturn (mx_d tX4_weighAnew_0 25 rfl) rfl ⟨rfl, rfl⟩
    · rw [if_pos hc5] at h
      refine mx_iconst (2) (mx_d tX4_weighAnew_0 17 rfl) (by decide) ?_
      obtain rfl := Option.some.inj h
      exact mx_ireturn (mx_d tX4_weighAnew_0 18 rfl) rfl ⟨rfl, rfl⟩
  · rw [if_pos hc3] at h
    refine mx_iconst (1) (mx_d tX4_weighAnew_0 9 rfl) (by decide) ?_
    obtain rfl := Option.some.inj h
    exact mx_ireturn (mx_d tX4_weighAnew_0 10 rfl) rfl ⟨rfl, rfl⟩
def FX4_priceAt (a : Nat) (x0 : Int32) (x1 : Int32) (m : mB) : Option (Int32 × mB) := Option.bind (FX4_hasPoint a x0 m) (fun r1 => (if r1 = 0 then (some (1, m)) else mx_chk (mx_inb x0 10) ((if (m.1 (a + 4) (Int32.toNatClampNeg x0)) = x1 then (some (1, m)) else mx_let (mx_up m.1 (a + 4) (Int32.toNatClampNeg x0) x1, m.2) (fun m5 => (some (0, m5)))))))
set_option maxRecDepth 20000 in
theorem CX4_priceAt {G : mG} {l : Launch} {e : mE} {a : Nat} {x0 : Int32} {x1 : Int32} {m : mB} {r : (Int32 × mB)} (h0 : ly4 e a) (h : FX4_priceAt a x0 x1 m = some r) : mx_Call G l MX4_priceAt 2 0 0 [.ref a, .int x0, .int x1] (e, m) (fun v z => v = some (.int r.1) ∧ z = (e, r.2)) := by
  refine mx_entry (L := [.ref a, .int x0, .int x1]) (by decide +kernel) (Nat.le_of_ble_eq_true rfl) rfl ?_
  unfold FX4_priceAt at h
  refine mx_aload_n (mx_d tX4_priceAt_0 0 rfl) rfl rfl ?_
  refine mx_iload_n (mx_d tX4_priceAt_0 1 rfl) rfl rfl ?_
  obtain ⟨r1, h_r1, h⟩ := Option.bind_eq_some_iff.mp h
  refine mx_cVi (mx_d tX4_priceAt_0 2 rfl) iX4_69 rfl vX4_hasPoint ⟨_, rfl, rfl⟩ (ly4_o h0) (CX4_hasPoint h0 h_r1) (by decide) rfl rfl (Nat.le_of_ble_eq_true rfl) ?_
  refine mx_if_eq (tgt := 18) (mx_d tX4_priceAt_0 3 rfl) (by decide) (fun hc2 => ?_) (fun hc2 => ?_)
  · rw [if_pos hc2] at h
    refine mx_iconst (1) (mx_d tX4_priceAt_0 10 rfl) (by decide) ?_
    obtain rfl := Option.some.inj h
    exact mx_ireturn (mx_d tX4_priceAt_0 11 rfl) rfl ⟨rfl, rfl⟩
  · rw [if_neg hc2] at h
    refine mx_aload_n (mx_d tX4_priceAt_0 4 rfl) rfl rfl ?_
    refine mx_getR (mx_d tX4_priceAt_0 5 rfl) fX4_22 rfl rfl (ly4_o h0) (ly4_r8 h0) ?_
    refine mx_iload_n (mx_d tX4_priceAt_0 6 rfl) rfl rfl ?_
    obtain ⟨hi3, h⟩ := mx_chkE h
    refine mx_iaload (mx_d tX4_priceAt_0 7 rfl) (ly4_s8 h0) (mx_inbE hi3) ?_
    refine mx_iload_n (mx_d tX4_priceAt_0 8 rfl) rfl rfl ?_
    refine mx_icmp_ne (tgt := 20) (mx_d tX4_priceAt_0 9 rfl) (by decide) (fun hc4 => ?_) (fun hc4 => ?_)
    · rw [if_neg hc4] at h
      refine mx_aload_n (mx_d tX4_priceAt_0 12 rfl) rfl rfl ?_
      refine mx_getR (mx_d tX4_priceAt_0 13 rfl) fX4_22 rfl rfl (ly4_o h0) (ly4_r8 h0) ?_
      refine mx_iload_n (mx_d tX4_priceAt_0 14 rfl) rfl rfl ?_
      refine mx_iload_n (mx_d tX4_priceAt_0 15 rfl) rfl rfl ?_
      obtain ⟨m5, e_m5, h⟩ := mx_letE h
      refine mx_iastore (mx_d tX4_priceAt_0 16 rfl) (ly4_s8 h0) (mx_inbE hi3) (mx_eqz (z' := (e, m5)) (by rw [e_m5]) ?_)
      refine mx_iconst (0) (mx_d tX4_priceAt_0 17 rfl) (by decide) ?_
      obtain rfl := Option.some.inj h
      exact mx_ireturn (mx_d tX4_priceAt_0 18 rfl) rfl ⟨rfl, rfl⟩
    · rw [if_pos hc4] at h
      refine mx_iconst (1) (mx_d tX4_priceAt_0 10 rfl) (by decide) ?_
      obtain rfl := Option.some.inj h
      exact mx_ireturn (mx_d tX4_priceAt_0 11 rfl) rfl ⟨rfl, rfl⟩
def FX4_crownAt (a : Nat) (x0 : Int32) (x1 : Int32) (m : mB) : Option (Int32 × mB) := Option.bind (FX4_hasSet a x0 m) (fun r1 => (if r1 = 0 then (some (1, m)) else mx_chk (mx_inb x0 6) ((if (m.1 (a + 10) (Int32.toNatClampNeg x0)) = x1 then (some (1, m)) else mx_let (mx_up m.1 (a + 10) (Int32.toNatClampNeg x0) x1, m.2) (fun m5 => (some (0, m5)))))))
set_option maxRecDepth 20000 in
theorem CX4_crownAt {G : mG} {l : Launch} {e : mE} {a : Nat} {x0 : Int32} {x1 : Int32} {m : mB} {r : (Int32 × mB)} (h0 : ly4 e a) (h : FX4_crownAt a x0 x1 m = some r) : mx_Call G l MX4_crownAt 2 0 0 [.ref a, .int x0, .int x1] (e, m) (fun v z => v = some (.int r.1) ∧ z = (e, r.2)) := by
  refine mx_entry (L := [.ref a, .int x0, .int x1]) (by decide +kernel) (Nat.le_of_ble_eq_true rfl) rfl ?_
  unfold FX4_crownAt at h
  refine mx_aload_n (mx_d tX4_crownAt_0 0 rfl) rfl rfl ?_
  refine mx_iload_n (mx_d tX4_crownAt_0 1 rfl) rfl rfl ?_
  obtain ⟨r1, h_r1, h⟩ := Option.bind_eq_some_iff.mp h
  refine mx_cVi (mx_d tX4_crownAt_0 2 rfl) iX4_80 rfl vX4_hasSet ⟨_, rfl, rfl⟩ (ly4_o h0) (CX4_hasSet h0 h_r1) (by decide) rfl rfl (Nat.le_of_ble_eq_true rfl) ?_
  refine mx_if_eq (tgt := 18) (mx_d tX4_crownAt_0 3 rfl) (by decide) (fun hc2 => ?_) (fun hc2 => ?_)
  · rw [if_pos hc2] at h
    refine mx_iconst (1) (mx_d tX4_crownAt_0 10 rfl) (by decide) ?_
    obtain rfl := Option.some.inj h
    exact mx_ireturn (mx_d tX4_crownAt_0 11 rfl) rfl ⟨rfl, rfl⟩
  · rw [if_neg hc2] at h
    refine mx_aload_n (mx_d tX4_crownAt_0 4 rfl) rfl rfl ?_
    refine mx_getR (mx_d tX4_crownAt_0 5 rfl) fX4_40 rfl rfl (ly4_o h0) (ly4_r14 h0) ?_
    refine mx_iload_n (mx_d tX4_crownAt_0 6 rfl) rfl rfl ?_
    obtain ⟨hi3, h⟩ := mx_chkE h
    refine mx_iaload (mx_d tX4_crownAt_0 7 rfl) (ly4_s14 h0) (mx_inbE hi3) ?_
    refine mx_iload_n (mx_d tX4_crownAt_0 8 rfl) rfl rfl ?_
    refine mx_icmp_ne (tgt := 20) (mx_d tX4_crownAt_0 9 rfl) (by decide) (fun hc4 => ?_) (fun hc4 => ?_)
    · rw [if_neg hc4] at h
      refine mx_aload_n (mx_d tX4_crownAt_0 12 rfl) rfl rfl ?_
      refine mx_getR (mx_d tX4_crownAt_0 13 rfl) fX4_40 rfl rfl (ly4_o h0) (ly4_r14 h0) ?_
      refine mx_iload_n (mx_d tX4_crownAt_0 14 rfl) rfl rfl ?_
      refine mx_iload_n (mx_d tX4_crownAt_0 15 rfl) rfl rfl ?_
      obtain ⟨m5, e_m5, h⟩ := mx_letE h
      refine mx_iastore (mx_d tX4_crownAt_0 16 rfl) (ly4_s14 h0) (mx_inbE hi3) (mx_eqz (z' := (e, m5)) (by rw [e_m5]) ?_)
      refine mx_iconst (0) (mx_d tX4_crownAt_0 17 rfl) (by decide) ?_
      obtain rfl := Option.some.inj h
      exact mx_ireturn (mx_d tX4_crownAt_0 18 rfl) rfl ⟨rfl, rfl⟩
    · rw [if_pos hc4] at h
      refine mx_iconst (1) (mx_d tX4_crownAt_0 10 rfl) (by decide) ?_
      obtain rfl := Option.some.inj h
      exact mx_ireturn (mx_d tX4_crownAt_0 11 rfl) rfl ⟨rfl, rfl⟩
def FX4_openSet_L21 (q0 : Nat) : Nat → Int32 → mB → Option (mB)
  | 0, _, _ => none
  | f + 1, y2, m => (if (m.1 q0 2) ≤ (y2 + 1) then (some (m)) else (if 6 ≤ (y2 + 1) then (some (m)) else mx_chk (mx_inb (y2 + 1) 6) (mx_chk (mx_inb y2 6) (mx_let (mx_up m.1 (q0 + 9) (Int32.toNatClampNeg y2) (m.1 (q0 + 9) (Int32.toNatClampNeg (y2 + 1))), m.2) (fun m8 => mx_let (mx_up m8.1 (q0 + 10) (Int32.toNatClampNeg y2) (m8.1 (q0 + 10) (Int32.toNatClampNeg (y2 + 1))), m8.2) (fun m10 => mx_let (y2 + 1) (fun v11 => (FX4_openSet_L21 q0 f v11 m10))))))))
set_option maxRecDepth 20000 in
theorem CX4_openSet_L21 {G : mG} {l : Launch} {e : mE} {Post : Option Value → mS → Prop} {q0 : Nat} (g0 : ly4 e q0) : ∀ (f : Nat) {y2 : Int32} {m : mB} {q : (mB)}, FX4_openSet_L21 q0 f y2 m = some q → (mx_Fr G l MX4_openSet 2 0 0 Post 73 [.ref q0, .float 0, .float 0] [] (e, q)) → mx_Fr G l MX4_openSet 2 0 0 Post 21 [.ref q0, .float 0, .int y2] [] (e, m) := by
  intro f
  induction f with
  | zero => intro _ _ _ h; cases h
  | succ f ih =>
    intro y2 m q h hex
    rw [FX4_openSet_L21] at h
    refine mx_iload_n (mx_d tX4_openSet_0 13 rfl) rfl rfl ?_
    refine mx_iconst (1) (mx_d tX4_openSet_0 14 rfl) (by decide) ?_
    refine mx_iadd (mx_d tX4_openSet_0 15 rfl) ?_
    refine mx_aload_n (mx_d tX4_openSet_0 16 rfl) rfl rfl ?_
    refine mx_getI (mx_d tX4_openSet_0 17 rfl) fX4_50 rfl (Or.inl rfl) (ly4_o g0) ?_
    refine mx_icmp_ge (tgt := 73) (mx_d tX4_openSet_0 18 rfl) (by decide) (fun hc5 => ?_) (fun hc5 => ?_)
    · rw [if_pos hc5] at h
      obtain rfl := Option.some.inj h
      refine mx_forget (L' := [.ref q0, .float 0, .float 0]) ⟨rfl, trivial⟩ ?_
      exact hex
    · rw [if_neg hc5] at h
      refine mx_iload_n (mx_d tX4_openSet_0 19 rfl) rfl rfl ?_
      refine mx_iconst (1) (mx_d tX4_openSet_0 20 rfl) (by decide) ?_
      refine mx_iadd (mx_d tX4_openSet_0 21 rfl) ?_
      refine mx_bipush (6) (mx_d tX4_openSet_0 22 rfl) (by decide) ?_
      refine mx_icmp_ge (tgt := 73) (mx_d tX4_openSet_0 23 rfl) (by decide) (fun hc6 => ?_) (fun hc6 => ?_)
      · rw [if_pos hc6] at h
        obtain rfl := Option.some.inj h
        refine mx_forget (L' := [.ref q0, .float 0, .float 0]) ⟨rfl, trivial⟩ ?_
        exact hex
      · rw [if_neg hc6] at h
        refine mx_aload_n (mx_d tX4_openSet_0 24 rfl) rfl rfl ?_
        refine mx_getR (mx_d tX4_openSet_0 25 rfl) fX4_37 rfl rfl (ly4_o g0) (ly4_r13 g0) ?_
        refine mx_iload_n (mx_d tX4_openSet_0 26 rfl) rfl rfl ?_
        refine mx_aload_n (mx_d tX4_openSet_0 27 rfl) rfl rfl ?_
        refine mx_getR (mx_d tX4_openSet_0 28 rfl) fX4_37 rfl rfl (ly4_o g0) (ly4_r13 g0) ?_
        refine mx_iload_n (mx_d tX4_openSet_0 29 rfl) rfl rfl ?_
        refine mx_iconst (1) (mx_d tX4_openSet_0 30 rfl) (by decide) ?_
        refine mx_iadd (mx_d tX4_openSet_0 31 rfl) ?_
        obtain ⟨hi7, h⟩ := mx_chkE h
        refine mx_iaload (mx_d tX4_openSet_0 32 rfl) (ly4_s13 g0) (mx_inbE hi7) ?_
        obtain ⟨hi9, h⟩ := mx_chkE h
        obtain ⟨m8, e_m8, h⟩ := mx_letE h
        refine mx_iastore (mx_d tX4_openSet_0 33 rfl) (ly4_s13 g0) (mx_inbE hi9) (mx_eqz (z' := (e, m8)) (by rw [e_m8]) ?_)
        refine mx_aload_n (mx_d tX4_openSet_0 34 rfl) rfl rfl ?_
        refine mx_getR (mx_d tX4_openSet_0 35 rfl) fX4_40 rfl rfl (ly4_o g0) (ly4_r14 g0) ?_
        refine mx_iload_n (mx_d tX4_openSet_0 36 rfl) rfl rfl ?_
        refine mx_aload_n (mx_d tX4_openSet_0 37 rfl) rfl rfl ?_
        refine mx_getR (mx_d tX4_openSet_0 38 rfl) fX4_40 rfl rfl (ly4_o g0) (ly4_r14 g0) ?_
        refine mx_iload_n (mx_d tX4_openSet_0 39 rfl) rfl rfl ?_
        refine mx_iconst (1) (mx_d tX4_openSet_0 40 rfl) (by decide) ?_
        refine mx_iadd (mx_d tX4_openSet_0 41 rfl) ?_
        refine mx_iaload (mx_d tX4_openSet_0 42 rfl) (ly4_s14 g0) (mx_inbE hi7) ?_
        obtain ⟨m10, e_m10, h⟩ := mx_letE h
        refine mx_iastore (mx_d tX4_openSet_0 43 rfl) (ly4_s14 g0) (mx_inbE hi9) (mx_eqz (z' := (e, m10)) (by rw [e_m10]) ?_)
        obtain ⟨v11, e_v11, h⟩ := mx_letE h
        refine mx_iinc v11 (L2 := [.ref q0, .float 0, .int v11]) (mx_d tX4_openSet_0 44 rfl) rfl (by rw [e_v11]; rfl) (by decide) rfl ?_
        refine mx_goto (tgt := 21) (mx_d tX4_openSet_0 45 rfl) (by decide) ?_
        exact ih h hex
def FX4_openSet (a : Nat) (x0 : Int32) (m : mB) : Option (Int32 × mB) := Option.bind (FX4_hasSet a x0 m) (fun r1 => (if r1 = 0 then (some (1, m)) else mx_chk (mx_inb x0 6) ((if (m.1 (a + 10) (Int32.toNatClampNeg x0)) ≤ 0 then Option.bind (FX4_openSet_L21 a mx_FU x0 m) (fun q12 => mx_let (mx_up q12.1 a 2 ((q12.1 a 2) - 1), q12.2) (fun m13 => (some (0, m13)))) else (some (1, m))))))
set_option maxRecDepth 20000 in
theorem CX4_openSet {G : mG} {l : Launch} {e : mE} {a : Nat} {x0 : Int32} {m : mB} {r : (Int32 × mB)} (h0 : ly4 e a) (h : FX4_openSet a x0 m = some r) : mx_Call G l MX4_openSet 2 0 0 [.ref a, .int x0] (e, m) (fun v z => v = some (.int r.1) ∧ z = (e, r.2)) := by
  refine mx_entry (L := [.ref a, .int x0, .float 0]) (by decide +kernel) (Nat.le_of_ble_eq_true rfl) rfl ?_
  unfold FX4_openSet at h
  refine mx_aload_n (mx_d tX4_openSet_0 0 rfl) rfl rfl ?_
  refine mx_iload_n (mx_d tX4_openSet_0 1 rfl) rfl rfl ?_
  obtain ⟨r1, h_r1, h⟩ := Option.bind_eq_some_iff.mp h
  refine mx_cVi (mx_d tX4_openSet_0 2 rfl) iX4_80 rfl vX4_hasSet ⟨_, rfl, rfl⟩ (ly4_o h0) (CX4_hasSet h0 h_r1) (by decide) rfl rfl (Nat.le_of_ble_eq_true rfl) ?_
  refine mx_if_eq (tgt := 17) (mx_d tX4_openSet_0 3 rfl) (by decide) (fun hc2 => ?_) (fun hc2 => ?_)
  · rw [if_pos hc2] at h
    refine mx_iconst (1) (mx_d tX4_openSet_0 9 rfl) (by decide) ?_
    obtain rfl := Option.some.inj h
    exact mx_ireturn (mx_d tX4_openSet_0 10 rfl) rfl ⟨rfl, rfl⟩
  · rw [if_neg hc2] at h
    refine mx_aload_n (mx_d tX4_openSet_0 4 rfl) rfl rfl ?_
    refine mx_getR (mx_d tX4_openSet_0 5 rfl) fX4_40 rfl rfl (ly4_o h0) (ly4_r14 h0) ?_
    refine mx_iload_n (mx_d tX4_openSet_0 6 rfl) rfl rfl ?_
    obtain ⟨hi3, h⟩ := mx_chkE h
    refine mx_iaload (mx_d tX4_openSet_0 7 rfl) (ly4_s14 h0) (mx_inbE hi3) ?_
    refine mx_if_le (tgt := 19) (mx_d tX4_openSet_0 8 rfl) (by decide) (fun hc4 => ?_) (fun hc4 => ?_)
    · rw [if_pos hc4] at h
      refine mx_iload_n (mx_d tX4_openSet_0 11 rfl) rfl rfl ?_
      refine mx_istore_n (L2 := [.ref a, .int x0, .int x0]) (mx_d tX4_openSet_0 12 rfl) rfl (by decide) (by rfl) ?_
      obtain ⟨q12, h_q12, h⟩ := Option.bind_eq_some_iff.mp h
      refine mx_forget (L' := [.ref a, .float 0, .int x0]) ⟨rfl, rfl, trivial⟩ ?_
      refine CX4_openSet_L21 h0 mx_FU h_q12 ?_
      refine mx_aload_n (mx_d tX4_openSet_0 46 rfl) rfl rfl ?_
      refine mx_dup (mx_d tX4_openSet_0 47 rfl) rfl ?_
      refine mx_getI (mx_d tX4_openSet_0 48 rfl) fX4_50 rfl (Or.inl rfl) (ly4_o h0) ?_
      refine mx_iconst (1) (mx_d tX4_openSet_0 49 rfl) (by decide) ?_
      refine mx_isub (mx_d tX4_openSet_0 50 rfl) ?_
      obtain ⟨m13, e_m13, h⟩ := mx_letE h
      refine mx_putI (mx_d tX4_openSet_0 51 rfl) fX4_50 rfl ⟨_, rfl, rfl⟩ rfl (ly4_o h0) (mx_eqz (z' := (e, m13)) (by rw [e_m13]) ?_)
      refine mx_iconst (0) (mx_d tX4_openSet_0 52 rfl) (by decide) ?_
      obtain rfl := Option.some.inj h
      exact mx_ireturn (mx_d tX4_openSet_0 53 rfl) rfl ⟨rfl, rfl⟩
    · rw [if_neg hc4] at h
      refine mx_iconst (1) (mx_d tX4_openSet_0 9 rfl) (by decide) ?_
      obtain rfl := Option.some.inj h
      exact mx_ireturn (mx_d tX4_openSet_0 10 rfl) rfl ⟨rfl, rfl⟩
def FX7_size (a : Nat) (m : mB) : Option Int32 := (some (m.1 a 1))
set_option maxRecDepth 20000 in
theorem CX7_size {G : mG} {l : Launch} {e : mE} {a : Nat} {m : mB} {r : Int32} (h0 : ly7 e a) (h : FX7_size a m = some r) : mx_Call G l MX7_size 1 0 0 [.ref a] (e, m) (fun v z => v = some (.int r) ∧ z = (e, m)) := by
  refine mx_entry (L := [.ref a]) (by decide +kernel) (Nat.le_of_ble_eq_true rfl) rfl ?_
  unfold FX7_size at h
  refine mx_aload_n (mx_d tX7_size_0 0 rfl) rfl rfl ?_
  refine mx_getI (mx_d tX7_size_0 1 rfl) fX7_21 rfl (Or.inl rfl) (ly7_o h0) ?_
  obtain rfl := Option.some.inj h
  exact mx_ireturn (mx_d tX7_size_0 2 rfl) rfl ⟨rfl, rfl⟩
def FX7_at (a : Nat) (x0 : Int32) (m : mB) : Option Int32 := (if x0 < 0 then (some (-1)) else (if (m.1 a 1) ≤ x0 then (some (-1)) else (if (nI (mx_rl (a + 1))) ≤ x0 then (some (-1)) else mx_chk (mx_inb x0 (mx_rl (a + 1))) ((some (m.1 (a + 1) (Int32.toNatClampNeg x0)))))))
set_option maxRecDepth 20000 in
theorem CX7_at {G : mG} {l : Launch} {e : mE} {a : Nat} {x0 : Int32} {m : mB} {r : Int32} (h0 : ly7 e a) (h : FX7_at a x0 m = some r) : mx_Call G l MX7_at 1 0 0 [.ref a, .int x0] (e, m) (fun v z => v = some (.int r) ∧ z = (e, m)) := by
  refine mx_entry (L := [.ref a, .int x0]) (by decide +kernel) (Nat.le_of_ble_eq_true rfl) rfl ?_
  unfold FX7_at at h
  refine mx_iload_n (mx_d tX7_at_0 0 rfl) rfl rfl ?_
  refine mx_if_lt (tgt := 30) (mx_d tX7_at_0 1 rfl) (by decide) (fun hc1 => ?_) (fun hc1 => ?_)
  · rw [if_pos hc1] at h
    refine mx_iconst ((-1)) (mx_d tX7_at_0 16 rfl) (by decide) ?_
    obtain rfl := Option.some.inj h
    exact mx_ireturn (mx_d tX7_at_0 17 rfl) rfl ⟨rfl, rfl⟩
  · rw [if_neg hc1] at h
    refine mx_iload_n (mx_d tX7_at_0 2 rfl) rfl rfl ?_
    refine mx_aload_n (mx_d tX7_at_0 3 rfl) rfl rfl ?_
    refine mx_getI (mx_d tX7_at_0 4 rfl) fX7_21 rfl (Or.inl rfl) (ly7_o h0) ?_
    refine mx_icmp_ge (tgt := 30) (mx_d tX7_at_0 5 rfl) (by decide) (fun hc2 => ?_) (fun hc2 => ?_)
    · rw [if_pos hc2] at h
      refine mx_iconst ((-1)) (mx_d tX7_at_0 16 rfl) (by decide) ?_
      obtain rfl := Option.some.inj h
      exact mx_ireturn (mx_d tX7_at_0 17 rfl) rfl ⟨rfl, rfl⟩
    · rw [if_neg hc2] at h
      refine mx_iload_n (mx_d tX7_at_0 6 rfl) rfl rfl ?_
      refine mx_aload_n (mx_d tX7_at_0 7 rfl) rfl rfl ?_
      refine mx_getR (mx_d tX7_at_0 8 rfl) fX7_15 rfl rfl (ly7_o h0) (ly7_r0 h0) ?_
      refine mx_alen (nI (mx_rl (a + 1))) (mx_d tX7_at_0 9 rfl) (ly7_s0 h0) (Or.inl rfl) rfl ?_
      refine mx_icmp_ge (tgt := 30) (mx_d tX7_at_0 10 rfl) (by decide) (fun hc3 => ?_) (fun hc3 => ?_)
      · rw [if_pos hc3] at h
        refine mx_iconst ((-1)) (mx_d tX7_at_0 16 rfl) (by decide) ?_
        obtain rfl := Option.some.inj h
        exact mx_ireturn (mx_d tX7_at_0 17 rfl) rfl ⟨rfl, rfl⟩
      · rw [if_neg hc3] at h
        refine mx_aload_n (mx_d tX7_at_0 11 rfl) rfl rfl ?_
        refine mx_getR (mx_d tX7_at_0 12 rfl) fX7_15 rfl rfl (ly7_o h0) (ly7_r0 h0) ?_
        refine mx_iload_n (mx_d tX7_at_0 13 rfl) rfl rfl ?_
        obtain ⟨hi4, h⟩ := mx_chkE h
        refine mx_iaload (mx_d tX7_at_0 14 rfl) (ly7_s0 h0) (mx_inbE hi4) ?_
        refine mx_goto (tgt := 31) (mx_d tX7_at_0 15 rfl) (by decide) ?_
        obtain rfl := Option.some.inj h
        exact mx_ireturn (mx_d tX7_at_0 17 rfl) rfl ⟨rfl, rfl⟩
def FX4_goesByPairs_L2 (q0 : Nat) (q1 : Nat) (m : mB) : Nat → Int32 → Option (Int32 ⊕ (Unit))
  | 0, _ => none
  | f + 1, y2 => Option.bind (FX7_size q1 m) (fun r1 => (if r1 ≤ (y2 + 1) then (some (.inr ())) else Option.bind (FX7_at q1 y2 m) (fun r3 => Option.bind (FX7_at q1 (y2 + 1) m) (fun r4 => Option.bind (FX4_areLinked q0 r3 r4 m) (fun r5 => (if r5 = 0 then (some (.inl 0)) else (if (y2 - y2 / 2 * 2) = 1 then Option.bind (FX7_at q1 y2 m) (fun r9 => Option.bind (FX4_partnerOf q0 r9 m) (fun r10 => Option.bind (FX7_at q1 (y2 + 1) m) (fun r11 => (if r10 = r11 then mx_let (y2 + 1) (fun v13 => (FX4_goesByPairs_L2 q0 q1 m f v13)) else (some (.inl 0)))))) else mx_let (y2 + 1) (fun v8 => (FX4_goesByPairs_L2 q0 q1 m f v8)))))))))
set_option maxRecDepth 20000 in
theorem CX4_goesByPairs_L2 {G : mG} {l : Launch} {e : mE} {Post : Option Value → mS → Prop} {q0 : Nat} {q1 : Nat} {m : mB} (g0 : ly4 e q0) (g1 : ly7 e q1) : ∀ (f : Nat) {y2 : Int32} {q : (Int32 ⊕ (Unit))}, FX4_goesByPairs_L2 q0 q1 m f y2 = some q → (∀ rr, q = .inl rr → Post (some (.int rr)) (e, m)) → (∀ u, q = .inr u → mx_Fr G l MX4_goesByPairs 3 0 0 Post 67 [.float 0, .float 0, .float 0] [] (e, m)) → mx_Fr G l MX4_goesByPairs 3 0 0 Post 2 [.ref q0, .ref q1, .int y2] [] (e, m) := by
  intro f
  induction f with
  | zero => intro _ _ h; cases h
  | succ f ih =>
    intro y2 q h hret hex
    rw [FX4_goesByPairs_L2] at h
    refine mx_iload_n (mx_d tX4_goesByPairs_0 2 rfl) rfl rfl ?_
    refine mx_iconst (1) (mx_d tX4_goesByPairs_0 3 rfl) (by decide) ?_
    refine mx_iadd (mx_d tX4_goesByPairs_0 4 rfl) ?_
    refine mx_aload_n (mx_d tX4_goesByPairs_0 5 rfl) rfl rfl ?_
    obtain ⟨r1, h_r1, h⟩ := Option.bind_eq_some_iff.mp h
    refine mx_cVi (mx_d tX4_goesByPairs_0 6 rfl) iX4_140 rfl vX7_size ⟨_, rfl, rfl⟩ (ly7_o g1) (CX7_size g1 h_r1) (by decide) rfl rfl (Nat.le_of_ble_eq_true rfl) ?_
    refine mx_icmp_ge (tgt := 67) (mx_d tX4_goesByPairs_0 7 rfl) (by decide) (fun hc2 => ?_) (fun hc2 => ?_)
    · rw [if_pos hc2] at h
      obtain rfl := Option.some.inj h
      refine mx_forget (L' := [.float 0, .float 0, .float 0]) trivial ?_
      exact (hex _ rfl)
    · rw [if_neg hc2] at h
      refine mx_aload_n (mx_d tX4_goesByPairs_0 8 rfl) rfl rfl ?_
      refine mx_aload_n (mx_d tX4_goesByPairs_0 9 rfl) rfl rfl ?_
      refine mx_iload_n (mx_d tX4_goesByPairs_0 10 rfl) rfl rfl ?_
      obtain ⟨r3, h_r3, h⟩ := Option.bind_eq_some_iff.mp h
      refine mx_cVi (mx_d tX4_goesByPairs_0 11 rfl) iX4_146 rfl vX7_at ⟨_, rfl, rfl⟩ (ly7_o g1) (CX7_at g1 h_r3) (by decide) rfl rfl (Nat.le_of_ble_eq_true rfl) ?_
      refine mx_aload_n (mx_d tX4_goesByPairs_0 12 rfl) rfl rfl ?_
      refine mx_iload_n (mx_d tX4_goesByPairs_0 13 rfl) rfl rfl ?_
      refine mx_iconst (1) (mx_d tX4_goesByPairs_0 14 rfl) (by decide) ?_
      refine mx_iadd (mx_d tX4_goesByPairs_0 15 rfl) ?_
      obtain ⟨r4, h_r4, h⟩ := Option.bind_eq_some_iff.mp h
      refine mx_cVi (mx_d tX4_goesByPairs_0 16 rfl) iX4_146 rfl vX7_at ⟨_, rfl, rfl⟩ (ly7_o g1) (CX7_at g1 h_r4) (by decide) rfl rfl (Nat.le_of_ble_eq_true rfl) ?_
      obtain ⟨r5, h_r5, h⟩ := Option.bind_eq_some_iff.mp h
      refine mx_cVi (mx_d tX4_goesByPairs_0 17 rfl) iX4_136 rfl vX4_areLinked ⟨_, rfl, rfl⟩ (ly4_o g0) (CX4_areLinked g0 h_r5) (by decide) rfl rfl (Nat.le_of_ble_eq_true rfl) ?_
      refine mx_if_ne (tgt := 33) (mx_d tX4_goesByPairs_0 18 rfl) (by decide) (fun hc6 => ?_) (fun hc6 => ?_)
      · rw [if_neg hc6] at h
        refine mx_iload_n (mx_d tX4_goesByPairs_0 21 rfl) rfl rfl ?_
        refine mx_iconst (2) (mx_d tX4_goesByPairs_0 22 rfl) (by decide) ?_
        refine mx_irem (mx_d tX4_goesByPairs_0 23 rfl) (by decide) ?_
        refine mx_iconst (1) (mx_d tX4_goesByPairs_0 24 rfl) (by decide) ?_
        refine mx_icmp_ne (tgt := 61) (mx_d tX4_goesByPairs_0 25 rfl) (by decide) (fun hc7 => ?_) (fun hc7 => ?_)
        · rw [if_neg hc7] at h
          obtain ⟨v8, e_v8, h⟩ := mx_letE h
          refine mx_iinc v8 (L2 := [.ref q0, .ref q1, .int v8]) (mx_d tX4_goesByPairs_0 39 rfl) rfl (by rw [e_v8]; rfl) (by decide) rfl ?_
          refine mx_goto (tgt := 2) (mx_d tX4_goesByPairs_0 40 rfl) (by decide) ?_
          exact ih h hret hex
        · rw [if_pos hc7] at h
          refine mx_aload_n (mx_d tX4_goesByPairs_0 26 rfl) rfl rfl ?_
          refine mx_aload_n (mx_d tX4_goesByPairs_0 27 rfl) rfl rfl ?_
          refine mx_iload_n (mx_d tX4_goesByPairs_0 28 rfl) rfl rfl ?_
          obtain ⟨r9, h_r9, h⟩ := Option.bind_eq_some_iff.mp h
          refine mx_cVi (mx_d tX4_goesByPairs_0 29 rfl) iX4_146 rfl vX7_at ⟨_, rfl, rfl⟩ (ly7_o g1) (CX7_at g1 h_r9) (by decide) rfl rfl (Nat.le_of_ble_eq_true rfl) ?_
          obtain ⟨r10, h_r10, h⟩ := Option.bind_eq_some_iff.mp h
          refine mx_cVi (mx_d tX4_goesByPairs_0 30 rfl) iX4_76 rfl vX4_partnerOf ⟨_, rfl, rfl⟩ (ly4_o g0) (CX4_partnerOf g0 h_r10) (by decide) rfl rfl (Nat.le_of_ble_eq_true rfl) ?_
          refine mx_aload_n (mx_d tX4_goesByPairs_0 31 rfl) rfl rfl ?_
          refine mx_iload_n (mx_d tX4_goesByPairs_0 32 rfl) rfl rfl ?_
          refine mx_iconst (1) (mx_d tX4_goesByPairs_0 33 rfl) (by decide) ?_
          refine mx_iadd (mx_d tX4_goesByPairs_0 34 rfl) ?_
          obtain ⟨r11, h_r11, h⟩ := Option.bind_eq_some_iff.mp h
          refine mx_cVi (mx_d tX4_goesByPairs_0 35 rfl) iX4_146 rfl vX7_at ⟨_, rfl, rfl⟩ (ly7_o g1) (CX7_at g1 h_r11) (by decide) rfl rfl (Nat.le_of_ble_eq_true rfl) ?_
          refine mx_icmp_eq (tgt := 61) (mx_d tX4_goesByPairs_0 36 rfl) (by decide) (fun hc12 => ?_) (fun hc12 => ?_)
          · rw [if_pos hc12] at h
            obtain ⟨v13, e_v13, h⟩ := mx_letE h
            refine mx_iinc v13 (L2 := [.ref q0, .ref q1, .int v13]) (mx_d tX4_goesByPairs_0 39 rfl) rfl (by rw [e_v13]; rfl) (by decide) rfl ?_
            refine mx_goto (tgt := 2) (mx_d tX4_goesByPairs_0 40 rfl) (by decide) ?_
            exact ih h hret hex
          · rw [if_neg hc12] at h
            refine mx_iconst (0) (mx_d tX4_goesByPairs_0 37 rfl) (by decide) ?_
            obtain rfl := Option.some.inj h
            exact mx_zreturn (mx_d tX4_goesByPairs_0 38 rfl) rfl rfl (hret _ rfl)
      · rw [if_pos hc6] at h
        refine mx_iconst (0) (mx_d tX4_goesByPairs_0 19 rfl) (by decide) ?_
        obtain rfl := Option.some.inj h
        exact mx_zreturn (mx_d tX4_goesByPairs_0 20 rfl) rfl rfl (hret _ rfl)
def FX4_goesByPairs (a : Nat) (p0 : Nat) (m : mB) : Option Int32 := Option.bind (FX4_goesByPairs_L2 a p0 m mx_FU 0) (fun q14 => Sum.elim (fun rr => some rr) (fun u15 => (some 1)) q14)
set_option maxRecDepth 20000 in
theorem CX4_goesByPairs {G : mG} {l : Launch} {e : mE} {a : Nat} {p0 : Nat} {m : mB} {r : Int32} (h0 : ly4 e a) (h1 : ly7 e p0) (h : FX4_goesByPairs a p0 m = some r) : mx_Call G l MX4_goesByPairs 3 0 0 [.ref a, .ref p0] (e, m) (fun v z => v = some (.int r) ∧ z = (e, m)) := by
  refine mx_entry (L := [.ref a, .ref p0, .float 0]) (by decide +kernel) (Nat.le_of_ble_eq_true rfl) rfl ?_
  unfold FX4_goesByPairs at h
  refine mx_iconst (0) (mx_d tX4_goesByPairs_0 0 rfl) (by decide) ?_
  refine mx_istore_n (L2 := [.ref a, .ref p0, .int 0]) (mx_d tX4_goesByPairs_0 1 rfl) rfl (by decide) (by rfl) ?_
  obtain ⟨q14, h_q14, h⟩ := Option.bind_eq_some_iff.mp h
  refine CX4_goesByPairs_L2 h0 h1 mx_FU h_q14 (fun rr16 e_rr16 => ?_) (fun u15 e_u15 => ?_)
  · subst e_rr16
    rw [Sum.elim_inl] at h
    obtain rfl := Option.some.inj h
    exact ⟨rfl, rfl⟩
  · subst e_u15
    rw [Sum.elim_inr] at h
    refine mx_iconst (1) (mx_d tX4_goesByPairs_0 41 rfl) (by decide) ?_
    obtain rfl := Option.some.inj h
    exact mx_zreturn (mx_d tX4_goesByPairs_0 42 rfl) rfl rfl ⟨rfl, rfl⟩
def FX4_turnAlong_L48 (q0 : Nat) (q1 : Nat) (y2 : Int32) : Nat → Int32 → mB → Option (mB)
  | 0, _, _ => none
  | f + 1, y3, m => (if y2 < (y3 + 1) then (some (m)) else Option.bind (FX7_at q1 y3 m) (fun r13 => Option.bind (FX7_at q1 (y3 + 1) m) (fun r14 => Option.bind (FX4_hasPoint q0 r13 m) (fun r15 => (if r15 = 0 then mx_let (y3 + 2) (fun v17 => (FX4_turnAlong_L48 q0 q1 y2 f v17 m)) else Option.bind (FX4_hasPoint q0 r14 m) (fun r18 => (if r18 = 0 then mx_let (y3 + 2) (fun v20 => (FX4_turnAlong_L48 q0 q1 y2 f v20 m)) else mx_chk (mx_inb r13 10) (mx_let (mx_up m.1 (q0 + 3) (Int32.toNatClampNeg r13) r14, m.2) (fun m21 => mx_chk (mx_inb r14 10) (mx_let (mx_up m21.1 (q0 + 3) (Int32.toNatClampNeg r14) r13, m21.2) (fun m23 => mx_let (y3 + 2) (fun v25 => (FX4_turnAlong_L48 q0 q1 y2 f v25 m23)))))))))))))
set_option maxRecDepth 20000 in
theorem CX4_turnAlong_L48 {G : mG} {l : Launch} {e : mE} {Post : Option Value → mS → Prop} {q0 : Nat} {q1 : Nat} {y2 : Int32} (g0 : ly4 e q0) (g1 : ly7 e q1) : ∀ (f : Nat) {y3 : Int32} {m : mB} {q : (mB)}, FX4_turnAlong_L48 q0 q1 y2 f y3 m = some q → (mx_Fr G l MX4_turnAlong 4 0 0 Post 113 [.ref q0, .float 0, .float 0, .float 0, .float 0, .float 0] [] (e, q)) → mx_Fr G l MX4_turnAlong 4 0 0 Post 48 [.ref q0, .ref q1, .int y2, .int y3, .float 0, .float 0] [] (e, m) := by
  intro f
  induction f with
  | zero => intro _ _ _ h; cases h
  | succ f ih =>
    intro y3 m q h hex
    rw [FX4_turnAlong_L48] at h
    refine mx_iload_n (mx_d tX4_turnAlong_0 28 rfl) rfl rfl ?_
    refine mx_iconst (1) (mx_d tX4_turnAlong_0 29 rfl) (by decide) ?_
    refine mx_iadd (mx_d tX4_turnAlong_0 30 rfl) ?_
    refine mx_iload_n (mx_d tX4_turnAlong_0 31 rfl) rfl rfl ?_
    refine mx_icmp_gt (tgt := 113) (mx_d tX4_turnAlong_0 32 rfl) (by decide) (fun hc12 => ?_) (fun hc12 => ?_)
    · rw [if_pos hc12] at h
      obtain rfl := Option.some.inj h
      refine mx_forget (L' := [.ref q0, .float 0, .float 0, .float 0, .float 0, .float 0]) ⟨rfl, trivial⟩ ?_
      exact hex
    · rw [if_neg hc12] at h
      refine mx_aload_n (mx_d tX4_turnAlong_0 33 rfl) rfl rfl ?_
      refine mx_iload_n (mx_d tX4_turnAlong_0 34 rfl) rfl rfl ?_
      obtain ⟨r13, h_r13, h⟩ := Option.bind_eq_some_iff.mp h
      refine mx_cVi (mx_d tX4_turnAlong_0 35 rfl) iX4_146 rfl vX7_at ⟨_, rfl, rfl⟩ (ly7_o g1) (CX7_at g1 h_r13) (by decide) rfl rfl (Nat.le_of_ble_eq_true rfl) ?_
      refine mx_istore (L2 := [.ref q0, .ref q1, .int y2, .int y3, .int r13, .float 0]) (mx_d tX4_turnAlong_0 36 rfl) (by decide) (by rfl) ?_
      refine mx_aload_n (mx_d tX4_turnAlong_0 37 rfl) rfl rfl ?_
      refine mx_iload_n (mx_d tX4_turnAlong_0 38 rfl) rfl rfl ?_
      refine mx_iconst (1) (mx_d tX4_turnAlong_0 39 rfl) (by decide) ?_
      refine mx_iadd (mx_d tX4_turnAlong_0 40 rfl) ?_
      obtain ⟨r14, h_r14, h⟩ := Option.bind_eq_some_iff.mp h
      refine mx_cVi (mx_d tX4_turnAlong_0 41 rfl) iX4_146 rfl vX7_at ⟨_, rfl, rfl⟩ (ly7_o g1) (CX7_at g1 h_r14) (by decide) rfl rfl (Nat.le_of_ble_eq_true rfl) ?_
      refine mx_istore (L2 := [.ref q0, .ref q1, .int y2, .int y3, .int r13, .int r14]) (mx_d tX4_turnAlong_0 42 rfl) (by decide) (by rfl) ?_
      refine mx_aload_n (mx_d tX4_turnAlong_0 43 rfl) rfl rfl ?_
      refine mx_iload (mx_d tX4_turnAlong_0 44 rfl) rfl ?_
      obtain ⟨r15, h_r15, h⟩ := Option.bind_eq_some_iff.mp h
      refine mx_cVi (mx_d tX4_turnAlong_0 45 rfl) iX4_69 rfl vX4_hasPoint ⟨_, rfl, rfl⟩ (ly4_o g0) (CX4_hasPoint g0 h_r15) (by decide) rfl rfl (Nat.le_of_ble_eq_true rfl) ?_
      refine mx_if_eq (tgt := 107) (mx_d tX4_turnAlong_0 46 rfl) (by decide) (fun hc16 => ?_) (fun hc16 => ?_)
      · rw [if_pos hc16] at h
        obtain ⟨v17, e_v17, h⟩ := mx_letE h
        refine mx_iinc v17 (L2 := [.ref q0, .ref q1, .int y2, .int v17, .int r13, .int r14]) (mx_d tX4_turnAlong_1 1 rfl) rfl (by rw [e_v17]; rfl) (by decide) rfl ?_
        refine mx_goto (tgt := 48) (mx_d tX4_turnAlong_1 2 rfl) (by decide) ?_
        refine mx_forget (L' := [.ref q0, .ref q1, .int y2, .int v17, .float 0, .float 0]) ⟨rfl, rfl, rfl, rfl, trivial⟩ ?_
        exact ih h hex
      · rw [if_neg hc16] at h
        refine mx_aload_n (mx_d tX4_turnAlong_0 47 rfl) rfl rfl ?_
        refine mx_iload (mx_d tX4_turnAlong_0 48 rfl) rfl ?_
        obtain ⟨r18, h_r18, h⟩ := Option.bind_eq_some_iff.mp h
        refine mx_cVi (mx_d tX4_turnAlong_0 49 rfl) iX4_69 rfl vX4_hasPoint ⟨_, rfl, rfl⟩ (ly4_o g0) (CX4_hasPoint g0 h_r18) (by decide) rfl rfl (Nat.le_of_ble_eq_true rfl) ?_
        refine mx_if_eq (tgt := 107) (mx_d tX4_turnAlong_0 50 rfl) (by decide) (fun hc19 => ?_) (fun hc19 => ?_)
        · rw [if_pos hc19] at h
          obtain ⟨v20, e_v20, h⟩ := mx_letE h
          refine mx_iinc v20 (L2 := [.ref q0, .ref q1, .int y2, .int v20, .int r13, .int r14]) (mx_d tX4_turnAlong_1 1 rfl) rfl (by rw [e_v20]; rfl) (by decide) rfl ?_
          refine mx_goto (tgt := 48) (mx_d tX4_turnAlong_1 2 rfl) (by decide) ?_
          refine mx_forget (L' := [.ref q0, .ref q1, .int y2, .int v20, .float 0, .float 0]) ⟨rfl, rfl, rfl, rfl, trivial⟩ ?_
          exact ih h hex
        · rw [if_neg hc19] at h
          refine mx_aload_n (mx_d tX4_turnAlong_0 51 rfl) rfl rfl ?_
          refine mx_getR (mx_d tX4_turnAlong_0 52 rfl) fX4_19 rfl rfl (ly4_o g0) (ly4_r7 g0) ?_
          refine mx_iload (mx_d tX4_turnAlong_0 53 rfl) rfl ?_
          refine mx_iload (mx_d tX4_turnAlong_0 54 rfl) rfl ?_
          obtain ⟨hi22, h⟩ := mx_chkE h
          obtain ⟨m21, e_m21, h⟩ := mx_letE h
          refine mx_iastore (mx_d tX4_turnAlong_0 55 rfl) (ly4_s7 g0) (mx_inbE hi22) (mx_eqz (z' := (e, m21)) (by rw [e_m21]) ?_)
          refine mx_aload_n (mx_d tX4_turnAlong_0 56 rfl) rfl rfl ?_
          refine mx_getR (mx_d tX4_turnAlong_0 57 rfl) fX4_19 rfl rfl (ly4_o g0) (ly4_r7 g0) ?_
          refine mx_iload (mx_d tX4_turnAlong_0 58 rfl) rfl ?_
          refine mx_iload (mx_d tX4_turnAlong_0 59 rfl) rfl ?_
          obtain ⟨hi24, h⟩ := mx_chkE h
          obtain ⟨m23, e_m23, h⟩ := mx_letE h
          refine mx_iastore (mx_d tX4_turnAlong_1 0 rfl) (ly4_s7 g0) (mx_inbE hi24) (mx_eqz (z' := (e, m23)) (by rw [e_m23]) ?_)
          obtain ⟨v25, e_v25, h⟩ := mx_letE h
          refine mx_iinc v25 (L2 := [.ref q0, .ref q1, .int y2, .int v25, .int r13, .int r14]) (mx_d tX4_turnAlong_1 1 rfl) rfl (by rw [e_v25]; rfl) (by decide) rfl ?_
          refine mx_goto (tgt := 48) (mx_d tX4_turnAlong_1 2 rfl) (by decide) ?_
          refine mx_forget (L' := [.ref q0, .ref q1, .int y2, .int v25, .float 0, .float 0]) ⟨rfl, rfl, rfl, rfl, trivial⟩ ?_
          exact ih h hex
def FX4_turnAlong (a : Nat) (p0 : Nat) (m : mB) : Option (Int32 × mB) := Option.bind (FX7_size p0 m) (fun r1 => mx_let (r1 - 1) (fun v2 => (if v2 < 1 then (some (1, m)) else Option.bind (FX7_at p0 0 m) (fun r4 => Option.bind (FX4_isLone a r4 m) (fun r5 => (if r5 = 0 then (some (1, m)) else Option.bind (FX7_at p0 v2 m) (fun r7 => Option.bind (FX4_isLone a r7 m) (fun r8 => (if r8 = 0 then (some (1, m)) else Option.bind (FX4_goesByPairs a p0 m) (fun r10 => (if r10 = 0 then (some (1, m)) else Option.bind (FX4_turnAlong_L48 a p0 v2 mx_FU 0 m) (fun q26 => mx_let (mx_up q26.1 a 3 ((q26.1 a 3) + 1), q26.2) (fun m27 => (some (0, m27)))))))))))))))
set_option maxRecDepth 20000 in
theorem CX4_turnAlong {G : mG} {l : Launch} {e : mE} {a : Nat} {p0 : Nat} {m : mB} {r : (Int32 × mB)} (h0 : ly4 e a) (h1 : ly7 e p0) (h : FX4_turnAlong a p0 m = some r) : mx_Call G l MX4_turnAlong 4 0 0 [.ref a, .ref p0] (e, m) (fun v z => v = some (.int r.1) ∧ z = (e, r.2)) := by
  refine mx_entry (L := [.ref a, .ref p0, .float 0, .float 0, .float 0, .float 0]) (by decide +kernel) (Nat.le_of_ble_eq_true rfl) rfl ?_
  unfold FX4_turnAlong at h
  refine mx_aload_n (mx_d tX4_turnAlong_0 0 rfl) rfl rfl ?_
  obtain ⟨r1, h_r1, h⟩ := Option.bind_eq_some_iff.mp h
  refine mx_cVi (mx_d tX4_turnAlong_0 1 rfl) iX4_140 rfl vX7_size ⟨_, rfl, rfl⟩ (ly7_o h1) (CX7_size h1 h_r1) (by decide) rfl rfl (Nat.le_of_ble_eq_true rfl) ?_
  refine mx_iconst (1) (mx_d tX4_turnAlong_0 2 rfl) (by decide) ?_
  refine mx_isub (mx_d tX4_turnAlong_0 3 rfl) ?_
  obtain ⟨v2, e_v2, h⟩ := mx_letE h
  refine mx_istore_n (L2 := [.ref a, .ref p0, .int v2, .float 0, .float 0, .float 0]) (mx_d tX4_turnAlong_0 4 rfl) rfl (by decide) (by rw [e_v2]; rfl) ?_
  refine mx_iload_n (mx_d tX4_turnAlong_0 5 rfl) rfl rfl ?_
  refine mx_iconst (1) (mx_d tX4_turnAlong_0 6 rfl) (by decide) ?_
  refine mx_icmp_lt (tgt := 44) (mx_d tX4_turnAlong_0 7 rfl) (by decide) (fun hc3 => ?_) (fun hc3 => ?_)
  · rw [if_pos hc3] at h
    refine mx_iconst (1) (mx_d tX4_turnAlong_0 24 rfl) (by decide) ?_
    obtain rfl := Option.some.inj h
    exact mx_ireturn (mx_d tX4_turnAlong_0 25 rfl) rfl ⟨rfl, rfl⟩
  · rw [if_neg hc3] at h
    refine mx_aload_n (mx_d tX4_turnAlong_0 8 rfl) rfl rfl ?_
    refine mx_aload_n (mx_d tX4_turnAlong_0 9 rfl) rfl rfl ?_
    refine mx_iconst (0) (mx_d tX4_turnAlong_0 10 rfl) (by decide) ?_
    obtain ⟨r4, h_r4, h⟩ := Option.bind_eq_some_iff.mp h
    refine mx_cVi (mx_d tX4_turnAlong_0 11 rfl) iX4_146 rfl vX7_at ⟨_, rfl, rfl⟩ (ly7_o h1) (CX7_at h1 h_r4) (by decide) rfl rfl (Nat.le_of_ble_eq_true rfl) ?_
    obtain ⟨r5, h_r5, h⟩ := Option.bind_eq_some_iff.mp h
    refine mx_cVi (mx_d tX4_turnAlong_0 12 rfl) iX4_105 rfl vX4_isLone ⟨_, rfl, rfl⟩ (ly4_o h0) (CX4_isLone h0 h_r5) (by decide) rfl rfl (Nat.le_of_ble_eq_true rfl) ?_
    refine mx_if_eq (tgt := 44) (mx_d tX4_turnAlong_0 13 rfl) (by decide) (fun hc6 => ?_) (fun hc6 => ?_)
    · rw [if_pos hc6] at h
      refine mx_iconst (1) (mx_d tX4_turnAlong_0 24 rfl) (by decide) ?_
      obtain rfl := Option.some.inj h
      exact mx_ireturn (mx_d tX4_turnAlong_0 25 rfl) rfl ⟨rfl, rfl⟩
    · rw [if_neg hc6] at h
      refine mx_aload_n (mx_d tX4_turnAlong_0 14 rfl) rfl rfl ?_
      refine mx_aload_n (mx_d tX4_turnAlong_0 15 rfl) rfl rfl ?_
      refine mx_iload_n (mx_d tX4_turnAlong_0 16 rfl) rfl rfl ?_
      obtain ⟨r7, h_r7, h⟩ := Option.bind_eq_some_iff.mp h
      refine mx_cVi (mx_d tX4_turnAlong_0 17 rfl) iX4_146 rfl vX7_at ⟨_, rfl, rfl⟩ (ly7_o h1) (CX7_at h1 h_r7) (by decide) rfl rfl (Nat.le_of_ble_eq_true rfl) ?_
      obtain ⟨r8, h_r8, h⟩ := Option.bind_eq_some_iff.mp h
      refine mx_cVi (mx_d tX4_turnAlong_0 18 rfl) iX4_105 rfl vX4_isLone ⟨_, rfl, rfl⟩ (ly4_o h0) (CX4_isLone h0 h_r8) (by decide) rfl rfl (Nat.le_of_ble_eq_true rfl) ?_
      refine mx_if_eq (tgt := 44) (mx_d tX4_turnAlong_0 19 rfl) (by decide) (fun hc9 => ?_) (fun hc9 => ?_)
      · rw [if_pos hc9] at h
        refine mx_iconst (1) (mx_d tX4_turnAlong_0 24 rfl) (by decide) ?_
        obtain rfl := Option.some.inj h
        exact mx_ireturn (mx_d tX4_turnAlong_0 25 rfl) rfl ⟨rfl, rfl⟩
      · rw [if_neg hc9] at h
        refine mx_aload_n (mx_d tX4_turnAlong_0 20 rfl) rfl rfl ?_
        refine mx_aload_n (mx_d tX4_turnAlong_0 21 rfl) rfl rfl ?_
        obtain ⟨r10, h_r10, h⟩ := Option.bind_eq_some_iff.mp h
        refine mx_cVi (mx_d tX4_turnAlong_0 22 rfl) iX4_149 rfl vX4_goesByPairs ⟨_, rfl, rfl⟩ (ly4_o h0) (CX4_goesByPairs h0 h1 h_r10) (by decide) rfl rfl (Nat.le_of_ble_eq_true rfl) ?_
        refine mx_if_ne (tgt := 46) (mx_d tX4_turnAlong_0 23 rfl) (by decide) (fun hc11 => ?_) (fun hc11 => ?_)
        · rw [if_neg hc11] at h
          refine mx_iconst (0) (mx_d tX4_turnAlong_0 26 rfl) (by decide) ?_
          refine mx_istore_n (L2 := [.ref a, .ref p0, .int v2, .int 0, .float 0, .float 0]) (mx_d tX4_turnAlong_0 27 rfl) rfl (by decide) (by rfl) ?_
          obtain ⟨q26, h_q26, h⟩ := Option.bind_eq_some_iff.mp h
          refine CX4_turnAlong_L48 h0 h1 mx_FU h_q26 ?_
          refine mx_aload_n (mx_d tX4_turnAlong_1 3 rfl) rfl rfl ?_
          refine mx_dup (mx_d tX4_turnAlong_1 4 rfl) rfl ?_
          refine mx_getI (mx_d tX4_turnAlong_1 5 rfl) fX4_53 rfl (Or.inl rfl) (ly4_o h0) ?_
          refine mx_iconst (1) (mx_d tX4_turnAlong_1 6 rfl) (by decide) ?_
          refine mx_iadd (mx_d tX4_turnAlong_1 7 rfl) ?_
          obtain ⟨m27, e_m27, h⟩ := mx_letE h
          refine mx_putI (mx_d tX4_turnAlong_1 8 rfl) fX4_53 rfl ⟨_, rfl, rfl⟩ rfl (ly4_o h0) (mx_eqz (z' := (e, m27)) (by rw [e_m27]) ?_)
          refine mx_iconst (0) (mx_d tX4_turnAlong_1 9 rfl) (by decide) ?_
          obtain rfl := Option.some.inj h
          exact mx_ireturn (mx_d tX4_turnAlong_1 10 rfl) rfl ⟨rfl, rfl⟩
        · rw [if_pos hc11] at h
          refine mx_iconst (1) (mx_d tX4_turnAlong_0 24 rfl) (by decide) ?_
          obtain rfl := Option.some.inj h
          exact mx_ireturn (mx_d tX4_turnAlong_0 25 rfl) rfl ⟨rfl, rfl⟩
def FX4_shrinkAlong_L44 (q0 : Nat) (q1 : Nat) (y2 : Int32) (m : mB) : Nat → Int32 → Int32 → Option (Int32)
  | 0, _, _ => none
  | f + 1, y3, y4 => (if y2 < y4 then (some (y3)) else Option.bind (FX7_at q1 y4 m) (fun r11 => mx_let (y3 ||| ((1 : Int32) <<< (r11 &&& 31))) (fun v12 => mx_let (y4 + 1) (fun v13 => (FX4_shrinkAlong_L44 q0 q1 y2 m f v12 v13)))))
set_option maxRecDepth 20000 in
theorem CX4_shrinkAlong_L44 {G : mG} {l : Launch} {e : mE} {Post : Option Value → mS → Prop} {q0 : Nat} {q1 : Nat} {y2 : Int32} {m : mB} (g0 : ly4 e q0) (g1 : ly7 e q1) : ∀ (f : Nat) {y3 : Int32} {y4 : Int32} {q : (Int32)}, FX4_shrinkAlong_L44 q0 q1 y2 m f y3 y4 = some q → (mx_Fr G l MX4_shrinkAlong 4 0 0 Post 67 [.ref q0, .float 0, .float 0, .int q, .float 0] [] (e, m)) → mx_Fr G l MX4_shrinkAlong 4 0 0 Post 44 [.ref q0, .ref q1, .int y2, .int y3, .int y4] [] (e, m) := by
  intro f
  induction f with
  | zero => intro _ _ _ h; cases h
  | succ f ih =>
    intro y3 y4 q h hex
    rw [FX4_shrinkAlong_L44] at h
    refine mx_iload (mx_d tX4_shrinkAlong_0 27 rfl) rfl ?_
    refine mx_iload_n (mx_d tX4_shrinkAlong_0 28 rfl) rfl rfl ?_
    refine mx_icmp_gt (tgt := 67) (mx_d tX4_shrinkAlong_0 29 rfl) (by decide) (fun hc10 => ?_) (fun hc10 => ?_)
    · rw [if_pos hc10] at h
      obtain rfl := Option.some.inj h
      refine mx_forget (L' := [.ref q0, .float 0, .float 0, .int y3, .float 0]) ⟨rfl, rfl, trivial⟩ ?_
      exact hex
    · rw [if_neg hc10] at h
      refine mx_iload_n (mx_d tX4_shrinkAlong_0 30 rfl) rfl rfl ?_
      refine mx_iconst (1) (mx_d tX4_shrinkAlong_0 31 rfl) (by decide) ?_
      refine mx_aload_n (mx_d tX4_shrinkAlong_0 32 rfl) rfl rfl ?_
      refine mx_iload (mx_d tX4_shrinkAlong_0 33 rfl) rfl ?_
      obtain ⟨r11, h_r11, h⟩ := Option.bind_eq_some_iff.mp h
      refine mx_cVi (mx_d tX4_shrinkAlong_0 34 rfl) iX4_146 rfl vX7_at ⟨_, rfl, rfl⟩ (ly7_o g1) (CX7_at g1 h_r11) (by decide) rfl rfl (Nat.le_of_ble_eq_true rfl) ?_
      refine mx_ishl (mx_d tX4_shrinkAlong_0 35 rfl) ?_
      refine mx_ior (mx_d tX4_shrinkAlong_0 36 rfl) ?_
      obtain ⟨v12, e_v12, h⟩ := mx_letE h
      refine mx_istore_n (L2 := [.ref q0, .ref q1, .int y2, .int v12, .int y4]) (mx_d tX4_shrinkAlong_0 37 rfl) rfl (by decide) (by rw [e_v12]; rfl) ?_
      obtain ⟨v13, e_v13, h⟩ := mx_letE h
      refine mx_iinc v13 (L2 := [.ref q0, .ref q1, .int y2, .int v12, .int v13]) (mx_d tX4_shrinkAlong_0 38 rfl) rfl (by rw [e_v13]; rfl) (by decide) rfl ?_
      refine mx_goto (tgt := 44) (mx_d tX4_shrinkAlong_0 39 rfl) (by decide) ?_
      exact ih h hex
def FX4_shrinkAlong (a : Nat) (p0 : Nat) (m : mB) : Option (Int32 × mB) := Option.bind (FX7_size p0 m) (fun r1 => mx_let (r1 - 1) (fun v2 => (if v2 < 2 then (some (1, m)) else Option.bind (FX4_goesByPairs a p0 m) (fun r4 => (if r4 = 0 then (some (1, m)) else Option.bind (FX7_at p0 v2 m) (fun r6 => Option.bind (FX7_at p0 0 m) (fun r7 => Option.bind (FX4_areLinked a r6 r7 m) (fun r8 => (if r8 = 0 then (some (1, m)) else Option.bind (FX4_shrinkAlong_L44 a p0 v2 m mx_FU 0 0) (fun q14 => Option.bind (FX4_setOf a q14 m) (fun r15 => (if r15 = (-1) then (if (m.1 a 2) < 6 then Option.bind (FX4_addSet a q14 0 m) (fun r18 => mx_let (mx_up r18.1 a 4 ((r18.1 a 4) + 1), r18.2) (fun m19 => (some (0, m19)))) else (some (3, m))) else (some (2, m))))))))))))))
set_option maxRecDepth 20000 in
theorem CX4_shrinkAlong {G : mG} {l : Launch} {e : mE} {a : Nat} {p0 : Nat} {m : mB} {r : (Int32 × mB)} (h0 : ly4 e a) (h1 : ly7 e p0) (h : FX4_shrinkAlong a p0 m = some r) : mx_Call G l MX4_shrinkAlong 4 0 0 [.ref a, .ref p0] (e, m) (fun v z => v = some (.int r.1) ∧ z = (e, r.2)) := by
  refine mx_entry (L := [.ref a, .ref p0, .float 0, .float 0, .float 0]) (by decide +kernel) (Nat.le_of_ble_eq_true rfl) rfl ?_
  unfold FX4_shrinkAlong at h
  refine mx_aload_n (mx_d tX4_shrinkAlong_0 0 rfl) rfl rfl ?_
  obtain ⟨r1, h_r1, h⟩ := Option.bind_eq_some_iff.mp h
  refine mx_cVi (mx_d tX4_shrinkAlong_0 1 rfl) iX4_140 rfl vX7_size ⟨_, rfl, rfl⟩ (ly7_o h1) (CX7_size h1 h_r1) (by decide) rfl rfl (Nat.le_of_ble_eq_true rfl) ?_
  refine mx_iconst (1) (mx_d tX4_shrinkAlong_0 2 rfl) (by decide) ?_
  refine mx_isub (mx_d tX4_shrinkAlong_0 3 rfl) ?_
  obtain ⟨v2, e_v2, h⟩ := mx_letE h
  refine mx_istore_n (L2 := [.ref a, .ref p0, .int v2, .float 0, .float 0]) (mx_d tX4_shrinkAlong_0 4 rfl) rfl (by decide) (by rw [e_v2]; rfl) ?_
  refine mx_iload_n (mx_d tX4_shrinkAlong_0 5 rfl) rfl rfl ?_
  refine mx_iconst (2) (mx_d tX4_shrinkAlong_0 6 rfl) (by decide) ?_
  refine mx_icmp_lt (tgt := 37) (mx_d tX4_shrinkAlong_0 7 rfl) (by decide) (fun hc3 => ?_) (fun hc3 => ?_)
  · rw [if_pos hc3] at h
    refine mx_iconst (1) (mx_d tX4_shrinkAlong_0 21 rfl) (by decide) ?_
    obtain rfl := Option.some.inj h
    exact mx_ireturn (mx_d tX4_shrinkAlong_0 22 rfl) rfl ⟨rfl, rfl⟩
  · rw [if_neg hc3] at h
    refine mx_aload_n (mx_d tX4_shrinkAlong_0 8 rfl) rfl rfl ?_
    refine mx_aload_n (mx_d tX4_shrinkAlong_0 9 rfl) rfl rfl ?_
    obtain ⟨r4, h_r4, h⟩ := Option.bind_eq_some_iff.mp h
    refine mx_cVi (mx_d tX4_shrinkAlong_0 10 rfl) iX4_149 rfl vX4_goesByPairs ⟨_, rfl, rfl⟩ (ly4_o h0) (CX4_goesByPairs h0 h1 h_r4) (by decide) rfl rfl (Nat.le_of_ble_eq_true rfl) ?_
    refine mx_if_eq (tgt := 37) (mx_d tX4_shrinkAlong_0 11 rfl) (by decide) (fun hc5 => ?_) (fun hc5 => ?_)
    · rw [if_pos hc5] at h
      refine mx_iconst (1) (mx_d tX4_shrinkAlong_0 21 rfl) (by decide) ?_
      obtain rfl := Option.some.inj h
      exact mx_ireturn (mx_d tX4_shrinkAlong_0 22 rfl) rfl ⟨rfl, rfl⟩
    · rw [if_neg hc5] at h
      refine mx_aload_n (mx_d tX4_shrinkAlong_0 12 rfl) rfl rfl ?_
      refine mx_aload_n (mx_d tX4_shrinkAlong_0 13 rfl) rfl rfl ?_
      refine mx_iload_n (mx_d tX4_shrinkAlong_0 14 rfl) rfl rfl ?_
      obtain ⟨r6, h_r6, h⟩ := Option.bind_eq_some_iff.mp h
      refine mx_cVi (mx_d tX4_shrinkAlong_0 15 rfl) iX4_146 rfl vX7_at ⟨_, rfl, rfl⟩ (ly7_o h1) (CX7_at h1 h_r6) (by decide) rfl rfl (Nat.le_of_ble_eq_true rfl) ?_
      refine mx_aload_n (mx_d tX4_shrinkAlong_0 16 rfl) rfl rfl ?_
      refine mx_iconst (0) (mx_d tX4_shrinkAlong_0 17 rfl) (by decide) ?_
      obtain ⟨r7, h_r7, h⟩ := Option.bind_eq_some_iff.mp h
      refine mx_cVi (mx_d tX4_shrinkAlong_0 18 rfl) iX4_146 rfl vX7_at ⟨_, rfl, rfl⟩ (ly7_o h1) (CX7_at h1 h_r7) (by decide) rfl rfl (Nat.le_of_ble_eq_true rfl) ?_
      obtain ⟨r8, h_r8, h⟩ := Option.bind_eq_some_iff.mp h
      refine mx_cVi (mx_d tX4_shrinkAlong_0 19 rfl) iX4_136 rfl vX4_areLinked ⟨_, rfl, rfl⟩ (ly4_o h0) (CX4_areLinked h0 h_r8) (by decide) rfl rfl (Nat.le_of_ble_eq_true rfl) ?_
      refine mx_if_ne (tgt := 39) (mx_d tX4_shrinkAlong_0 20 rfl) (by decide) (fun hc9 => ?_) (fun hc9 => ?_)
      · rw [if_neg hc9] at h
        refine mx_iconst (0) (mx_d tX4_shrinkAlong_0 23 rfl) (by decide) ?_
        refine mx_istore_n (L2 := [.ref a, .ref p0, .int v2, .int 0, .float 0]) (mx_d tX4_shrinkAlong_0 24 rfl) rfl (by decide) (by rfl) ?_
        refine mx_iconst (0) (mx_d tX4_shrinkAlong_0 25 rfl) (by decide) ?_
        refine mx_istore (L2 := [.ref a, .ref p0, .int v2, .int 0, .int 0]) (mx_d tX4_shrinkAlong_0 26 rfl) (by decide) (by rfl) ?_
        obtain ⟨q14, h_q14, h⟩ := Option.bind_eq_some_iff.mp h
        refine CX4_shrinkAlong_L44 h0 h1 mx_FU h_q14 ?_
        refine mx_aload_n (mx_d tX4_shrinkAlong_0 40 rfl) rfl rfl ?_
        refine mx_iload_n (mx_d tX4_shrinkAlong_0 41 rfl) rfl rfl ?_
        obtain ⟨r15, h_r15, h⟩ := Option.bind_eq_some_iff.mp h
        refine mx_cVi (mx_d tX4_shrinkAlong_0 42 rfl) iX4_153 rfl vX4_setOf ⟨_, rfl, rfl⟩ (ly4_o h0) (CX4_setOf h0 h_r15) (by decide) rfl rfl (Nat.le_of_ble_eq_true rfl) ?_
        refine mx_iconst ((-1)) (mx_d tX4_shrinkAlong_0 43 rfl) (by decide) ?_
        refine mx_icmp_eq (tgt := 78) (mx_d tX4_shrinkAlong_0 44 rfl) (by decide) (fun hc16 => ?_) (fun hc16 => ?_)
        · rw [if_pos hc16] at h
          refine mx_aload_n (mx_d tX4_shrinkAlong_0 47 rfl) rfl rfl ?_
          refine mx_getI (mx_d tX4_shrinkAlong_0 48 rfl) fX4_50 rfl (Or.inl rfl) (ly4_o h0) ?_
          refine mx_bipush (6) (mx_d tX4_shrinkAlong_0 49 rfl) (by decide) ?_
          refine mx_icmp_lt (tgt := 89) (mx_d tX4_shrinkAlong_0 50 rfl) (by decide) (fun hc17 => ?_) (fun hc17 => ?_)
          · rw [if_pos hc17] at h
            refine mx_aload_n (mx_d tX4_shrinkAlong_0 53 rfl) rfl rfl ?_
            refine mx_iload_n (mx_d tX4_shrinkAlong_0 54 rfl) rfl rfl ?_
            refine mx_iconst (0) (mx_d tX4_shrinkAlong_0 55 rfl) (by decide) ?_
            obtain ⟨r18, h_r18, h⟩ := Option.bind_eq_some_iff.mp h
            refine mx_cVv (mx_d tX4_shrinkAlong_0 56 rfl) iX4_156 rfl vX4_addSet ⟨_, rfl, rfl⟩ (ly4_o h0) (CX4_addSet h0 h_r18) (by decide) rfl rfl (Nat.le_of_ble_eq_true rfl) ?_
            refine mx_aload_n (mx_d tX4_shrinkAlong_0 57 rfl) rfl rfl ?_
            refine mx_dup (mx_d tX4_shrinkAlong_0 58 rfl) rfl ?_
            refine mx_getI (mx_d tX4_shrinkAlong_0 59 rfl) fX4_56 rfl (Or.inl rfl) (ly4_o h0) ?_
            refine mx_iconst (1) (mx_d tX4_shrinkAlong_1 0 rfl) (by decide) ?_
            refine mx_iadd (mx_d tX4_shrinkAlong_1 1 rfl) ?_
            obtain ⟨m19, e_m19, h⟩ := mx_letE h
            refine mx_putI (mx_d tX4_shrinkAlong_1 2 rfl) fX4_56 rfl ⟨_, rfl, rfl⟩ rfl (ly4_o h0) (mx_eqz (z' := (e, m19)) (by rw [e_m19]) ?_)
            refine mx_iconst (0) (mx_d tX4_shrinkAlong_1 3 rfl) (by decide) ?_
            obtain rfl := Option.some.inj h
            exact mx_ireturn (mx_d tX4_shrinkAlong_1 4 rfl) rfl ⟨rfl, rfl⟩
          · rw [if_neg hc17] at h
            refine mx_iconst (3) (mx_d tX4_shrinkAlong_0 51 rfl) (by decide) ?_
            obtain rfl := Option.some.inj h
            exact mx_ireturn (mx_d tX4_shrinkAlong_0 52 rfl) rfl ⟨rfl, rfl⟩
        · rw [if_neg hc16] at h
          refine mx_iconst (2) (mx_d tX4_shrinkAlong_0 45 rfl) (by decide) ?_
          obtain rfl := Option.some.inj h
          exact mx_ireturn (mx_d tX4_shrinkAlong_0 46 rfl) rfl ⟨rfl, rfl⟩
      · rw [if_pos hc9] at h
        refine mx_iconst (1) (mx_d tX4_shrinkAlong_0 21 rfl) (by decide) ?_
        obtain rfl := Option.some.inj h
        exact mx_ireturn (mx_d tX4_shrinkAlong_0 22 rfl) rfl ⟨rfl, rfl⟩
def FX7_clear (a : Nat) (m : mB) : Option mB := mx_let (mx_up m.1 a 1 0, m.2) (fun m1 => (some m1))
set_option maxRecDepth 20000 in
theorem CX7_clear {G : mG} {l : Launch} {e : mE} {a : Nat} {m : mB} {r : mB} (h0 : ly7 e a) (h : FX7_clear a m = some r) : mx_Call G l MX7_clear 1 0 0 [.ref a] (e, m) (fun v z => v = none ∧ z = (e, r)) := by
  refine mx_entry (L := [.ref a]) (by decide +kernel) (Nat.le_of_ble_eq_true rfl) rfl ?_
  unfold FX7_clear at h
  refine mx_aload_n (mx_d tX7_clear_0 0 rfl) rfl rfl ?_
  refine mx_iconst (0) (mx_d tX7_clear_0 1 rfl) (by decide) ?_
  obtain ⟨m1, e_m1, h⟩ := mx_letE h
  refine mx_putI (mx_d tX7_clear_0 2 rfl) fX7_21 rfl ⟨_, rfl, rfl⟩ rfl (ly7_o h0) (mx_eqz (z' := (e, m1)) (by rw [e_m1]) ?_)
  obtain rfl := Option.some.inj h
  exact mx_return (mx_d tX7_clear_0 3 rfl) rfl ⟨rfl, rfl⟩
def FX7_add (a : Nat) (x0 : Int32) (m : mB) : Option mB := (if (m.1 a 1) < 0 then (some m) else (if (nI (mx_rl (a + 1))) ≤ (m.1 a 1) then (some m) else mx_chk (mx_inb (m.1 a 1) (mx_rl (a + 1))) (mx_let (mx_up m.1 (a + 1) (Int32.toNatClampNeg (m.1 a 1)) x0, m.2) (fun m3 => mx_let (mx_up m3.1 a 1 ((m3.1 a 1) + 1), m3.2) (fun m5 => (some m5))))))
set_option maxRecDepth 20000 in
theorem CX7_add {G : mG} {l : Launch} {e : mE} {a : Nat} {x0 : Int32} {m : mB} {r : mB} (h0 : ly7 e a) (h : FX7_add a x0 m = some r) : mx_Call G l MX7_add 1 0 0 [.ref a, .int x0] (e, m) (fun v z => v = none ∧ z = (e, r)) := by
  refine mx_entry (L := [.ref a, .int x0]) (by decide +kernel) (Nat.le_of_ble_eq_true rfl) rfl ?_
  unfold FX7_add at h
  refine mx_aload_n (mx_d tX7_add_0 0 rfl) rfl rfl ?_
  refine mx_getI (mx_d tX7_add_0 1 rfl) fX7_21 rfl (Or.inl rfl) (ly7_o h0) ?_
  refine mx_if_lt (tgt := 39) (mx_d tX7_add_0 2 rfl) (by decide) (fun hc1 => ?_) (fun hc1 => ?_)
  · rw [if_pos hc1] at h
    obtain rfl := Option.some.inj h
    exact mx_return (mx_d tX7_add_0 21 rfl) rfl ⟨rfl, rfl⟩
  · rw [if_neg hc1] at h
    refine mx_aload_n (mx_d tX7_add_0 3 rfl) rfl rfl ?_
    refine mx_getI (mx_d tX7_add_0 4 rfl) fX7_21 rfl (Or.inl rfl) (ly7_o h0) ?_
    refine mx_aload_n (mx_d tX7_add_0 5 rfl) rfl rfl ?_
    refine mx_getR (mx_d tX7_add_0 6 rfl) fX7_15 rfl rfl (ly7_o h0) (ly7_r0 h0) ?_
    refine mx_alen (nI (mx_rl (a + 1))) (mx_d tX7_add_0 7 rfl) (ly7_s0 h0) (Or.inl rfl) rfl ?_
    refine mx_icmp_ge (tgt := 39) (mx_d tX7_add_0 8 rfl) (by decide) (fun hc2 => ?_) (fun hc2 => ?_)
    · rw [if_pos hc2] at h
      obtain rfl := Option.some.inj h
      exact mx_return (mx_d tX7_add_0 21 rfl) rfl ⟨rfl, rfl⟩
    · rw [if_neg hc2] at h
      refine mx_aload_n (mx_d tX7_add_0 9 rfl) rfl rfl ?_
      refine mx_getR (mx_d tX7_add_0 10 rfl) fX7_15 rfl rfl (ly7_o h0) (ly7_r0 h0) ?_
      refine mx_aload_n (mx_d tX7_add_0 11 rfl) rfl rfl ?_
      refine mx_getI (mx_d tX7_add_0 12 rfl) fX7_21 rfl (Or.inl rfl) (ly7_o h0) ?_
      refine mx_iload_n (mx_d tX7_add_0 13 rfl) rfl rfl ?_
      obtain ⟨hi4, h⟩ := mx_chkE h
      obtain ⟨m3, e_m3, h⟩ := mx_letE h
      refine mx_iastore (mx_d tX7_add_0 14 rfl) (ly7_s0 h0) (mx_inbE hi4) (mx_eqz (z' := (e, m3)) (by rw [e_m3]) ?_)
      refine mx_aload_n (mx_d tX7_add_0 15 rfl) rfl rfl ?_
      refine mx_dup (mx_d tX7_add_0 16 rfl) rfl ?_
      refine mx_getI (mx_d tX7_add_0 17 rfl) fX7_21 rfl (Or.inl rfl) (ly7_o h0) ?_
      refine mx_iconst (1) (mx_d tX7_add_0 18 rfl) (by decide) ?_
      refine mx_iadd (mx_d tX7_add_0 19 rfl) ?_
      obtain ⟨m5, e_m5, h⟩ := mx_letE h
      refine mx_putI (mx_d tX7_add_0 20 rfl) fX7_21 rfl ⟨_, rfl, rfl⟩ rfl (ly7_o h0) (mx_eqz (z' := (e, m5)) (by rw [e_m5]) ?_)
      obtain rfl := Option.some.inj h
      exact mx_return (mx_d tX7_add_0 21 rfl) rfl ⟨rfl, rfl⟩
def FX7_dropTwo (a : Nat) (m : mB) : Option mB := Option.bind (FJ9_max_7cf53 0 ((m.1 a 1) - 2) m) (fun r1 => mx_let (mx_up m.1 a 1 r1, m.2) (fun m2 => (some m2)))
set_option maxRecDepth 20000 in
theorem CX7_dropTwo {G : mG} {l : Launch} {e : mE} {a : Nat} {m : mB} {r : mB} (h0 : ly7 e a) (h : FX7_dropTwo a m = some r) : mx_Call G l MX7_dropTwo 2 0 0 [.ref a] (e, m) (fun v z => v = none ∧ z = (e, r)) := by
  refine mx_entry (L := [.ref a]) (by decide +kernel) (Nat.le_of_ble_eq_true rfl) rfl ?_
  unfold FX7_dropTwo at h
  refine mx_aload_n (mx_d tX7_dropTwo_0 0 rfl) rfl rfl ?_
  refine mx_iconst (0) (mx_d tX7_dropTwo_0 1 rfl) (by decide) ?_
  refine mx_aload_n (mx_d tX7_dropTwo_0 2 rfl) rfl rfl ?_
  refine mx_getI (mx_d tX7_dropTwo_0 3 rfl) fX7_21 rfl (Or.inl rfl) (ly7_o h0) ?_
  refine mx_iconst (2) (mx_d tX7_dropTwo_0 4 rfl) (by decide) ?_
  refine mx_isub (mx_d tX7_dropTwo_0 5 rfl) ?_
  obtain ⟨r1, h_r1, h⟩ := Option.bind_eq_some_iff.mp h
  refine mx_cSi (mx_d tX7_dropTwo_0 6 rfl) iX7_9 rfl sJ9_max_7cf53 (CJ9_max_7cf53  h_r1) (by decide) rfl rfl (Nat.le_of_ble_eq_true rfl) ?_
  obtain ⟨m2, e_m2, h⟩ := mx_letE h
  refine mx_putI (mx_d tX7_dropTwo_0 7 rfl) fX7_21 rfl ⟨_, rfl, rfl⟩ rfl (ly7_o h0) (mx_eqz (z' := (e, m2)) (by rw [e_m2]) ?_)
  obtain rfl := Option.some.inj h
  exact mx_return (mx_d tX7_dropTwo_0 8 rfl) rfl ⟨rfl, rfl⟩
def FX7_copyFrom_L7 (q0 : Nat) (q1 : Nat) : Nat → Int32 → mB → Option (mB)
  | 0, _, _ => none
  | f + 1, y2, m => (if (m.1 q1 1) ≤ y2 then (some (m)) else Option.bind (FX7_at q1 y2 m) (fun r3 => Option.bind (FX7_add q0 r3 m) (fun r4 => mx_let (y2 + 1) (fun v5 => (FX7_copyFrom_L7 q0 q1 f v5 r4)))))
set_option maxRecDepth 20000 in
theorem CX7_copyFrom_L7 {G : mG} {l : Launch} {e : mE} {Post : Option Value → mS → Prop} {q0 : Nat} {q1 : Nat} (g0 : ly7 e q0) (g1 : ly7 e q1) : ∀ (f : Nat) {y2 : Int32} {m : mB} {q : (mB)}, FX7_copyFrom_L7 q0 q1 f y2 m = some q → (mx_Fr G l MX7_copyFrom 2 0 0 Post 30 [.float 0, .float 0, .float 0] [] (e, q)) → mx_Fr G l MX7_copyFrom 2 0 0 Post 7 [.ref q0, .ref q1, .int y2] [] (e, m) := by
  intro f
  induction f with
  | zero => intro _ _ _ h; cases h
  | succ f ih =>
    intro y2 m q h hex
    rw [FX7_copyFrom_L7] at h
    refine mx_iload_n (mx_d tX7_copyFrom_0 5 rfl) rfl rfl ?_
    refine mx_aload_n (mx_d tX7_copyFrom_0 6 rfl) rfl rfl ?_
    refine mx_getI (mx_d tX7_copyFrom_0 7 rfl) fX7_21 rfl (Or.inl rfl) (ly7_o g1) ?_
    refine mx_icmp_ge (tgt := 30) (mx_d tX7_copyFrom_0 8 rfl) (by decide) (fun hc2 => ?_) (fun hc2 => ?_)
    · rw [if_pos hc2] at h
      obtain rfl := Option.some.inj h
      refine mx_forget (L' := [.float 0, .float 0, .float 0]) trivial ?_
      exact hex
    · rw [if_neg hc2] at h
      refine mx_aload_n (mx_d tX7_copyFrom_0 9 rfl) rfl rfl ?_
      refine mx_aload_n (mx_d tX7_copyFrom_0 10 rfl) rfl rfl ?_
      refine mx_iload_n (mx_d tX7_copyFrom_0 11 rfl) rfl rfl ?_
      obtain ⟨r3, h_r3, h⟩ := Option.bind_eq_some_iff.mp h
      refine mx_cVi (mx_d tX7_copyFrom_0 12 rfl) iX7_25 rfl vX7_at ⟨_, rfl, rfl⟩ (ly7_o g1) (CX7_at g1 h_r3) (by decide) rfl rfl (Nat.le_of_ble_eq_true rfl) ?_
      obtain ⟨r4, h_r4, h⟩ := Option.bind_eq_some_iff.mp h
      refine mx_cVv (mx_d tX7_copyFrom_0 13 rfl) iX7_29 rfl vX7_add ⟨_, rfl, rfl⟩ (ly7_o g0) (CX7_add g0 h_r4) (by decide) rfl rfl (Nat.le_of_ble_eq_true rfl) ?_
      obtain ⟨v5, e_v5, h⟩ := mx_letE h
      refine mx_iinc v5 (L2 := [.ref q0, .ref q1, .int v5]) (mx_d tX7_copyFrom_0 14 rfl) rfl (by rw [e_v5]; rfl) (by decide) rfl ?_
      refine mx_goto (tgt := 7) (mx_d tX7_copyFrom_0 15 rfl) (by decide) ?_
      exact ih h hex
def FX7_copyFrom (a : Nat) (p0 : Nat) (m : mB) : Option mB := mx_let (mx_up m.1 a 1 0, m.2) (fun m1 => Option.bind (FX7_copyFrom_L7 a p0 mx_FU 0 m1) (fun q6 => (some q6)))
set_option maxRecDepth 20000 in
theorem CX7_copyFrom {G : mG} {l : Launch} {e : mE} {a : Nat} {p0 : Nat} {m : mB} {r : mB} (h0 : ly7 e a) (h1 : ly7 e p0) (h : FX7_copyFrom a p0 m = some r) : mx_Call G l MX7_copyFrom 2 0 0 [.ref a, .ref p0] (e, m) (fun v z => v = none ∧ z = (e, r)) := by
  refine mx_entry (L := [.ref a, .ref p0, .float 0]) (by decide +kernel) (Nat.le_of_ble_eq_true rfl) rfl ?_
  unfold FX7_copyFrom at h
  refine mx_aload_n (mx_d tX7_copyFrom_0 0 rfl) rfl rfl ?_
  refine mx_iconst (0) (mx_d tX7_copyFrom_0 1 rfl) (by decide) ?_
  obtain ⟨m1, e_m1, h⟩ := mx_letE h
  refine mx_putI (mx_d tX7_copyFrom_0 2 rfl) fX7_21 rfl ⟨_, rfl, rfl⟩ rfl (ly7_o h0) (mx_eqz (z' := (e, m1)) (by rw [e_m1]) ?_)
  refine mx_iconst (0) (mx_d tX7_copyFrom_0 3 rfl) (by decide) ?_
  refine mx_istore_n (L2 := [.ref a, .ref p0, .int 0]) (mx_d tX7_copyFrom_0 4 rfl) rfl (by decide) (by rfl) ?_
  obtain ⟨q6, h_q6, h⟩ := Option.bind_eq_some_iff.mp h
  refine CX7_copyFrom_L7 h0 h1 mx_FU h_q6 ?_
  obtain rfl := Option.some.inj h
  exact mx_return (mx_d tX7_copyFrom_0 16 rfl) rfl ⟨rfl, rfl⟩
def FX7_addName_L3 (q0 : Nat) (y1 : Int64) : Nat → Int32 → mB → Option (mB)
  | 0, _, _ => none
  | f + 1, y3, m => (if y3 < 0 then (some (m)) else mx_let (Int64.toInt32 ((y1 >>> (Int32.toInt64 y3 &&& 63)) &&& 31)) (fun v2 => (if v2 = 0 then mx_let (y3 + (-5)) (fun v4 => (FX7_addName_L3 q0 y1 f v4 m)) else Option.bind (FX7_add q0 ((97 + v2) - 1) m) (fun r5 => mx_let (y3 + (-5)) (fun v6 => (FX7_addName_L3 q0 y1 f v6 r5))))))
set_option maxRecDepth 20000 in
theorem CX7_addName_L3 {G : mG} {l : Launch} {e : mE} {Post : Option Value → mS → Prop} {q0 : Nat} {y1 : Int64} (g0 : ly7 e q0) : ∀ (f : Nat) {y3 : Int32} {m : mB} {q : (mB)}, FX7_addName_L3 q0 y1 f y3 m = some q → (mx_Fr G l MX7_addName 2 0 0 Post 39 [.float 0, .float 0, .float 0, .float 0, .float 0] [] (e, q)) → mx_Fr G l MX7_addName 2 0 0 Post 3 [.ref q0, .long y1, .float 0, .int y3, .float 0] [] (e, m) := by
  intro f
  induction f with
  | zero => intro _ _ _ h; cases h
  | succ f ih =>
    intro y3 m q h hex
    rw [FX7_addName_L3] at h
    refine mx_iload_n (mx_d tX7_addName_0 2 rfl) rfl rfl ?_
    refine mx_if_lt (tgt := 39) (mx_d tX7_addName_0 3 rfl) (by decide) (fun hc1 => ?_) (fun hc1 => ?_)
    · rw [if_pos hc1] at h
      obtain rfl := Option.some.inj h
      refine mx_forget (L' := [.float 0, .float 0, .float 0, .float 0, .float 0]) trivial ?_
      exact hex
    · rw [if_neg hc1] at h
      refine mx_lload_n (mx_d tX7_addName_0 4 rfl) rfl rfl ?_
      refine mx_iload_n (mx_d tX7_addName_0 5 rfl) rfl rfl ?_
      refine mx_lshr (mx_d tX7_addName_0 6 rfl) ?_
      refine mx_ldc2 (31) (mx_d tX7_addName_0 7 rfl) cX7_42 ?_
      refine mx_land (mx_d tX7_addName_0 8 rfl) ?_
      refine mx_l2i (mx_d tX7_addName_0 9 rfl) ?_
      obtain ⟨v2, e_v2, h⟩ := mx_letE h
      refine mx_istore (L2 := [.ref q0, .long y1, .float 0, .int y3, .int v2]) (mx_d tX7_addName_0 10 rfl) (by decide) (by rw [e_v2]; rfl) ?_
      refine mx_iload (mx_d tX7_addName_0 11 rfl) rfl ?_
      refine mx_if_eq (tgt := 33) (mx_d tX7_addName_0 12 rfl) (by decide) (fun hc3 => ?_) (fun hc3 => ?_)
      · rw [if_pos hc3] at h
        obtain ⟨v4, e_v4, h⟩ := mx_letE h
        refine mx_iinc v4 (L2 := [.ref q0, .long y1, .float 0, .int v4, .int v2]) (mx_d tX7_addName_0 20 rfl) rfl (by rw [e_v4]; rfl) (by decide) rfl ?_
        refine mx_goto (tgt := 3) (mx_d tX7_addName_0 21 rfl) (by decide) ?_
        refine mx_forget (L' := [.ref q0, .long y1, .float 0, .int v4, .float 0]) ⟨rfl, rfl, rfl, trivial⟩ ?_
        exact ih h hex
      · rw [if_neg hc3] at h
        refine mx_aload_n (mx_d tX7_addName_0 13 rfl) rfl rfl ?_
        refine mx_bipush (97) (mx_d tX7_addName_0 14 rfl) (by decide) ?_
        refine mx_iload (mx_d tX7_addName_0 15 rfl) rfl ?_
        refine mx_iadd (mx_d tX7_addName_0 16 rfl) ?_
        refine mx_iconst (1) (mx_d tX7_addName_0 17 rfl) (by decide) ?_
        refine mx_isub (mx_d tX7_addName_0 18 rfl) ?_
        obtain ⟨r5, h_r5, h⟩ := Option.bind_eq_some_iff.mp h
        refine mx_cVv (mx_d tX7_addName_0 19 rfl) iX7_29 rfl vX7_add ⟨_, rfl, rfl⟩ (ly7_o g0) (CX7_add g0 h_r5) (by decide) rfl rfl (Nat.le_of_ble_eq_true rfl) ?_
        obtain ⟨v6, e_v6, h⟩ := mx_letE h
        refine mx_iinc v6 (L2 := [.ref q0, .long y1, .float 0, .int v6, .int v2]) (mx_d tX7_addName_0 20 rfl) rfl (by rw [e_v6]; rfl) (by decide) rfl ?_
        refine mx_goto (tgt := 3) (mx_d tX7_addName_0 21 rfl) (by decide) ?_
        refine mx_forget (L' := [.ref q0, .long y1, .float 0, .int v6, .float 0]) ⟨rfl, rfl, rfl, trivial⟩ ?_
        exact ih h hex
def FX7_addName (a : Nat) (x0 : Int64) (m : mB) : Option mB := Option.bind (FX7_addName_L3 a x0 mx_FU 30 m) (fun q7 => (some q7))
set_option maxRecDepth 20000 in
theorem CX7_addName {G : mG} {l : Launch} {e : mE} {a : Nat} {x0 : Int64} {m : mB} {r : mB} (h0 : ly7 e a) (h : FX7_addName a x0 m = some r) : mx_Call G l MX7_addName 2 0 0 [.ref a, .long x0] (e, m) (fun v z => v = none ∧ z = (e, r)) := by
  refine mx_entry (L := [.ref a, .long x0, .float 0, .float 0, .float 0]) (by decide +kernel) (Nat.le_of_ble_eq_true rfl) rfl ?_
  unfold FX7_addName at h
  refine mx_bipush (30) (mx_d tX7_addName_0 0 rfl) (by decide) ?_
  refine mx_istore_n (L2 := [.ref a, .long x0, .float 0, .int 30, .float 0]) (mx_d tX7_addName_0 1 rfl) rfl (by decide) (by rfl) ?_
  obtain ⟨q7, h_q7, h⟩ := Option.bind_eq_some_iff.mp h
  refine CX7_addName_L3 h0 mx_FU h_q7 ?_
  obtain rfl := Option.some.inj h
  exact mx_return (mx_d tX7_addName_0 22 rfl) rfl ⟨rfl, rfl⟩
def FX7_addDigits (a : Nat) (x0 : Int32) (m : mB) : Option mB := mx_let (fun (m2 : mB) => mx_let (fun (m5 : mB) => Option.bind (FX7_add a (48 + (x0 - x0 / 10 * 10)) m5) (fun r7 => (some r7))) (fun k6 => (if x0 < 10 then (k6 m2) else Option.bind (FX7_add a (48 + ((x0 / 10) - (x0 / 10) / 10 * 10)) m2) (fun r8 => (k6 r8))))) (fun k3 => (if x0 < 100 then (k3 m) else Option.bind (FX7_add a (48 + ((x0 / 100) - (x0 / 100) / 10 * 10)) m) (fun r9 => (k3 r9))))
set_option maxRecDepth 20000 in
theorem CX7_addDigits {G : mG} {l : Launch} {e : mE} {a : Nat} {x0 : Int32} {m : mB} {r : mB} (h0 : ly7 e a) (h : FX7_addDigits a x0 m = some r) : mx_Call G l MX7_addDigits 2 0 0 [.ref a, .int x0] (e, m) (fun v z => v = none ∧ z = (e, r)) := by
  refine mx_entry (L := [.ref a, .int x0]) (by decide +kernel) (Nat.le_of_ble_eq_true rfl) rfl ?_
  unfold FX7_addDigits at h
  refine mx_iload_n (mx_d tX7_addDigits_0 0 rfl) rfl rfl ?_
  refine mx_bipush (100) (mx_d tX7_addDigits_0 1 rfl) (by decide) ?_
  refine mx_letK (J := fun k3 => ∀ {m2 : mB}, k3 m2 = some r → mx_Fr G l MX7_addDigits 2 0 0 (fun v z => v = none ∧ z = (e, r)) 20 [.ref a, .int x0] [] (e, m2)) h ?_ (fun k3 j_k3 h => ?_)
  · intro m2 h
    dsimp only at h
    refine mx_iload_n (mx_d tX7_addDigits_0 12 rfl) rfl rfl ?_
    refine mx_bipush (10) (mx_d tX7_addDigits_0 13 rfl) (by decide) ?_
    refine mx_letK (J := fun k6 => ∀ {m5 : mB}, k6 m5 = some r → mx_Fr G l MX7_addDigits 2 0 0 (fun v z => v = none ∧ z = (e, r)) 40 [.ref a, .int x0] [] (e, m5)) h ?_ (fun k6 j_k6 h => ?_)
    · intro m5 h
      dsimp only at h
      refine mx_aload_n (mx_d tX7_addDigits_0 24 rfl) rfl rfl ?_
      refine mx_bipush (48) (mx_d tX7_addDigits_0 25 rfl) (by decide) ?_
      refine mx_iload_n (mx_d tX7_addDigits_0 26 rfl) rfl rfl ?_
      refine mx_bipush (10) (mx_d tX7_addDigits_0 27 rfl) (by decide) ?_
      refine mx_irem (mx_d tX7_addDigits_0 28 rfl) (by decide) ?_
      refine mx_iadd (mx_d tX7_addDigits_0 29 rfl) ?_
      obtain ⟨r7, h_r7, h⟩ := Option.bind_eq_some_iff.mp h
      refine mx_cVv (mx_d tX7_addDigits_0 30 rfl) iX7_29 rfl vX7_add ⟨_, rfl, rfl⟩ (ly7_o h0) (CX7_add h0 h_r7) (by decide) rfl rfl (Nat.le_of_ble_eq_true rfl) ?_
      obtain rfl := Option.some.inj h
      exact mx_return (mx_d tX7_addDigits_0 31 rfl) rfl ⟨rfl, rfl⟩
    refine mx_icmp_lt (tgt := 40) (mx_d tX7_addDigits_0 14 rfl) (by decide) (fun hc4 => ?_) (fun hc4 => ?_)
    · rw [if_pos hc4] at h
      exact j_k6 h
    · rw [if_neg hc4] at h
      refine mx_aload_n (mx_d tX7_addDigits_0 15 rfl) rfl rfl ?_
      refine mx_bipush (48) (mx_d tX7_addDigits_0 16 rfl) (by decide) ?_
      refine mx_iload_n (mx_d tX7_addDigits_0 17 rfl) rfl rfl ?_
      refine mx_bipush (10) (mx_d tX7_addDigits_0 18 rfl) (by decide) ?_
      refine mx_idiv (mx_d tX7_addDigits_0 19 rfl) (by decide) ?_
      refine mx_bipush (10) (mx_d tX7_addDigits_0 20 rfl) (by decide) ?_
      refine mx_irem (mx_d tX7_addDigits_0 21 rfl) (by decide) ?_
      refine mx_iadd (mx_d tX7_addDigits_0 22 rfl) ?_
      obtain ⟨r8, h_r8, h⟩ := Option.bind_eq_some_iff.mp h
      refine mx_cVv (mx_d tX7_addDigits_0 23 rfl) iX7_29 rfl vX7_add ⟨_, rfl, rfl⟩ (ly7_o h0) (CX7_add h0 h_r8) (by decide) rfl rfl (Nat.le_of_ble_eq_true rfl) ?_
      exact j_k6 h
  refine mx_icmp_lt (tgt := 20) (mx_d tX7_addDigits_0 2 rfl) (by decide) (fun hc1 => ?_) (fun hc1 => ?_)
  · rw [if_pos hc1] at h
    exact j_k3 h
  · rw [if_neg hc1] at h
    refine mx_aload_n (mx_d tX7_addDigits_0 3 rfl) rfl rfl ?_
    refine mx_bipush (48) (mx_d tX7_addDigits_0 4 rfl) (by decide) ?_
    refine mx_iload_n (mx_d tX7_addDigits_0 5 rfl) rfl rfl ?_
    refine mx_bipush (100) (mx_d tX7_addDigits_0 6 rfl) (by decide) ?_
    refine mx_idiv (mx_d tX7_addDigits_0 7 rfl) (by decide) ?_
    refine mx_bipush (10) (mx_d tX7_addDigits_0 8 rfl) (by decide) ?_
    refine mx_irem (mx_d tX7_addDigits_0 9 rfl) (by decide) ?_
    refine mx_iadd (mx_d tX7_addDigits_0 10 rfl) ?_
    obtain ⟨r9, h_r9, h⟩ := Option.bind_eq_some_iff.mp h
    refine mx_cVv (mx_d tX7_addDigits_0 11 rfl) iX7_29 rfl vX7_add ⟨_, rfl, rfl⟩ (ly7_o h0) (CX7_add h0 h_r9) (by decide) rfl rfl (Nat.le_of_ble_eq_true rfl) ?_
    exact j_k3 h
def FJ9_floorMod_7cf53 (x0 : Int32) (x1 : Int32) (m : mB) : Option Int32 := mx_chk (mx_nz x1) (mx_let (x0 - x0 / x1 * x1) (fun v2 => (if 0 ≤ (x0 ^^^ x1) then (some v2) else (if v2 = 0 then (some v2) else (some (v2 + x1))))))
set_option maxRecDepth 20000 in
theorem CJ9_floorMod_7cf53 {G : mG} {l : Launch} {e : mE} {x0 : Int32} {x1 : Int32} {m : mB} {r : Int32}  (h : FJ9_floorMod_7cf53 x0 x1 m = some r) : mx_Call G l MJ9_floorMod_7cf53 1 0 0 [.int x0, .int x1] (e, m) (fun v z => v = some (.int r) ∧ z = (e, m)) := by
  refine mx_entryF (L := [.int x0, .int x1, .float 0]) (by decide +kernel) (Nat.le_of_ble_eq_true rfl) rfl ?_
  unfold FJ9_floorMod_7cf53 at h
  refine mx_iload_n (mx_d tJ9_floorMod_7cf53_0 0 rfl) rfl rfl ?_
  refine mx_iload_n (mx_d tJ9_floorMod_7cf53_0 1 rfl) rfl rfl ?_
  obtain ⟨hz1, h⟩ := mx_chkE h
  refine mx_irem (mx_d tJ9_floorMod_7cf53_0 2 rfl) (mx_nzE hz1) ?_
  obtain ⟨v2, e_v2, h⟩ := mx_letE h
  refine mx_istore_n (L2 := [.int x0, .int x1, .int v2]) (mx_d tJ9_floorMod_7cf53_0 3 rfl) rfl (by decide) (by rw [e_v2]; rfl) ?_
  refine mx_iload_n (mx_d tJ9_floorMod_7cf53_0 4 rfl) rfl rfl ?_
  refine mx_iload_n (mx_d tJ9_floorMod_7cf53_0 5 rfl) rfl rfl ?_
  refine mx_ixor (mx_d tJ9_floorMod_7cf53_0 6 rfl) ?_
  refine mx_if_ge (tgt := 18) (mx_d tJ9_floorMod_7cf53_0 7 rfl) (by decide) (fun hc3 => ?_) (fun hc3 => ?_)
  · rw [if_pos hc3] at h
    refine mx_iload_n (mx_d tJ9_floorMod_7cf53_0 14 rfl) rfl rfl ?_
    obtain rfl := Option.some.inj h
    exact mx_ireturn (mx_d tJ9_floorMod_7cf53_0 15 rfl) rfl ⟨rfl, rfl⟩
  · rw [if_neg hc3] at h
    refine mx_iload_n (mx_d tJ9_floorMod_7cf53_0 8 rfl) rfl rfl ?_
    refine mx_if_eq (tgt := 18) (mx_d tJ9_floorMod_7cf53_0 9 rfl) (by decide) (fun hc4 => ?_) (fun hc4 => ?_)
    · rw [if_pos hc4] at h
      refine mx_iload_n (mx_d tJ9_floorMod_7cf53_0 14 rfl) rfl rfl ?_
      obtain rfl := Option.some.inj h
      exact mx_ireturn (mx_d tJ9_floorMod_7cf53_0 15 rfl) rfl ⟨rfl, rfl⟩
    · rw [if_neg hc4] at h
      refine mx_iload_n (mx_d tJ9_floorMod_7cf53_0 10 rfl) rfl rfl ?_
      refine mx_iload_n (mx_d tJ9_floorMod_7cf53_0 11 rfl) rfl rfl ?_
      refine mx_iadd (mx_d tJ9_floorMod_7cf53_0 12 rfl) ?_
      obtain rfl := Option.some.inj h
      exact mx_ireturn (mx_d tJ9_floorMod_7cf53_0 13 rfl) rfl ⟨rfl, rfl⟩
